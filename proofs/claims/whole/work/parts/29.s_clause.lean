/-! a clause is read by both -/
/-- both found the fault r at pl; the program may still read on -/
def Dead (c : Nat → Nat) (len : Nat) (s u : fp_Mem) (r : Nat) : Prop := 0 < r ∧ r ≤ 4 ∧ ∃ p na pl, p ≤ len ∧ CP c len s p na r pl ∧ u 120 10 = pl
/-- both found it and are through -/
def Dd (s u : fp_Mem) (r : Nat) : Prop := 0 < r ∧ r ≤ 4 ∧ s 1 5 = nI r ∧ s 1 6 = u 120 10
section CLS
variable {c : Nat → Nat} {len : Nat} {s u : fp_Mem} {p na : Nat} {pl : Int32}
theorem Dead_fr {s' u' : fp_Mem} {P Q : Nat → Nat → Prop} {r : Nat} (h : Dead c len s u r) (hf : fr2 P s s') (hg : fr2 Q u u') (h1 : ∀ j, 2 ≤ j → j ≤ 6 → ¬ P 1 j) (h7 : ∀ j, ¬ P 7 j) (h2 : ¬ Q 120 10) : Dead c len s' u' r := by
  obtain ⟨a, b, p, na, pl, hp, C, e⟩ := h
  exact ⟨a, b, p, na, pl, hp, CP_fr C hf h1 h7, (hg 120 10 h2).trans e⟩
theorem Dead_num (ht : TX c len) {r : Nat} (h : Dead c len s u r) (p1 p2 : Int32) : ∃ x s', m_X6_number s p1 p2 = some (x, s') ∧ Dead c len s' u r ∧ fr2 (fun q j => q = 1 ∧ 3 ≤ j ∧ j ≤ 6) s s' := by
  obtain ⟨a, b, p, na, pl, hp, C, e⟩ := h
  obtain ⟨q, e1, flt, hN, h1, h2, h3, h4⟩ := NumE c len p p1 p2 hp
  obtain ⟨x, s', k1, k2, k3, k4⟩ := c_number ht hp (by omega) C hN
  rw [if_neg (by omega), if_neg (fun z => by have := z.1; omega)] at k2
  exact ⟨x, s', k1, ⟨a, b, e1, q, pl, h3, k2, e⟩, k3⟩
theorem n_live (ht : TX c len) (hp : p ≤ len) (C : CP c len s p na 0 pl) (D : MP c len u p pl) (p1 p2 : Int32) :
    ∃ x s' flt u', m_X6_number s p1 p2 = some (x, s') ∧ m_X12_takeNumber u p1 p2 = some (nI flt, u') ∧ fr2 (fun q j => q = 1 ∧ 3 ≤ j ∧ j ≤ 6) s s' ∧ fr2 (fun q j => q = 120 ∧ 10 ≤ j ∧ j ≤ 13) u u' ∧
      ((flt = 0 ∧ ∃ e q v, p ≤ e ∧ e ≤ len ∧ CP c len s' e q 0 pl ∧ MP c len u' e pl ∧ x = nI v ∧ u' 120 12 = nI v ∧ u' 120 13 = nI q ∧ v < 1000 ∧ ¬ nI v < p1 ∧ ¬ p2 < nI v) ∨ (0 < flt ∧ flt ≤ 4 ∧ Dead c len s' u' flt)) := by
  obtain ⟨q, e, flt, hN, h1, h2, h3, h4⟩ := NumE c len p p1 p2 hp
  obtain ⟨x, s', k1, k2, k3, k4⟩ := c_number ht hp (by decide) C hN
  obtain ⟨u', g1, g2, g3, g4⟩ := m_number ht hp D hN
  rw [if_pos rfl] at k2
  refine ⟨x, s', flt, u', k1, g1, k3, g3, ?_⟩
  by_cases h0 : flt = 0
  · subst h0
    rw [if_neg (fun z => z.2 rfl)] at k2
    rw [if_pos rfl] at g2
    rcases hN.2 with ⟨-, -, hz⟩ | ⟨hx, hd, hr, hN2⟩
    · cases hz
    · rcases hN2 with ⟨hz, -⟩ | ⟨-, h3', b1, b2⟩
      · cases hz
      · exact Or.inl ⟨rfl, e, q, vl c q (e - q), by omega, h3, k2, g2, k4 rfl, (g4 rfl).1, (g4 rfl).2, vl_3 (fun j hj => (hr.2.1 (q + j) (by omega) (by omega)).2) h3', b1, b2⟩
  · rw [if_pos ⟨rfl, h0⟩] at k2
    rw [if_neg h0] at g2
    exact Or.inr ⟨by omega, by omega, by omega, by omega, e, q, nI q, h3, k2, g2.2.1⟩
theorem m_into {u' : fp_Mem} {p1 p2 : Int32} {k n i flt : Nat} (h : m_X12_takeNumber u p1 p2 = some (nI flt, u')) (hi : i < n) (hn : n ≤ 14) : m_X12_into u k n (nI i) p1 p2 = some (nI flt, fp_set u' k i (u' 120 12)) := by
  rw [m_X12_into, h, fp_b2t, fp_inN hi (by omega), fp_gdt, q_cl (by omega), fp_ltt]
/-- 'r' -/
theorem k_law (ht : TX c len) (hp : p ≤ len) (C : CP c len s p na 0 pl) (D : MP c len u p pl) :
    ∃ s' r u', m_X6_readFineAndWood s = some s' ∧ m_X12_takeLaw u = some (nI r, u') ∧ fr2 (fun q j => (q = 1 ∧ 3 ≤ j ∧ j ≤ 6) ∨ (q = 2 ∧ j ≤ 2)) s s' ∧ fr2 (fun q j => (q = 120 ∧ 10 ≤ j ∧ j ≤ 14) ∨ q = 125) u u' ∧
      ((r = 0 ∧ ∃ e nb w, p ≤ e ∧ e ≤ len ∧ CP c len s' e nb 0 pl ∧ MP c len u' e pl ∧ s' 2 0 = nI 1 ∧ u' 120 14 = nI 1 ∧ s' 2 1 = u' 125 0 ∧ w ≤ 99 ∧ s' 2 2 = nI w ∧ u' 125 1 = nI w) ∨ Dead c len s' u' r) := by
  have a1 : fr2 (fun q j => q = 2 ∧ j = 0) s (fp_set s 2 0 (nI 1)) := fr2_set ⟨rfl, rfl⟩
  have b1 : fr2 (fun q j => q = 120 ∧ j = 14) u (fp_set u 120 14 (nI 1)) := fr2_set ⟨rfl, rfl⟩
  obtain ⟨x, s2, f1, u2, e1, e2, a2, b2, R1⟩ := n_live ht hp (CP_fr C a1 (fun j _ _ z => by omega) (fun j z => by omega)) (MP_fr D b1 (fun j _ _ z => by omega) (fun j z => by omega)) (nI 0) (nI 99)
  have a3 : fr2 (fun q j => q = 2 ∧ j = 1) s2 (fp_set s2 2 1 x) := fr2_set ⟨rfl, rfl⟩
  have b3 : fr2 (fun q j => q = 125 ∧ j = 0) u2 (fp_set u2 125 0 (u2 120 12)) := fr2_set ⟨rfl, rfl⟩
  rcases R1 with ⟨rfl, e, q, v, h1, h2, C2, D2, rfl, h3, -, -, -, -⟩ | ⟨hf, hf4, K⟩
  · obtain ⟨y, s4, f2, u4, e3, e4, a4, b4, R2⟩ := n_live ht h2 (CP_fr C2 a3 (fun j _ _ z => by omega) (fun j z => by omega)) (MP_fr D2 b3 (fun j _ _ z => by omega) (fun j z => by omega)) (nI 0) (nI 99)
    have a5 : fr2 (fun q j => q = 2 ∧ j = 2) s4 (fp_set s4 2 2 y) := fr2_set ⟨rfl, rfl⟩
    have b5 : fr2 (fun q j => q = 125 ∧ j = 1) u4 (fp_set u4 125 1 (u4 120 12)) := fr2_set ⟨rfl, rfl⟩
    refine ⟨fp_set s4 2 2 y, f2, fp_set u4 125 1 (u4 120 12), ?_, ?_, fr2_tr (fr2_mono a1 (fun q j h => by omega)) (fr2_tr (fr2_mono a2 (fun q j h => by omega)) (fr2_tr (fr2_mono a3 (fun q j h => by omega)) (fr2_tr (fr2_mono a4 (fun q j h => by omega)) (fr2_mono a5 (fun q j h => by omega))))), fr2_tr (fr2_mono b1 (fun q j h => by omega)) (fr2_tr (fr2_mono b2 (fun q j h => by omega)) (fr2_tr (fr2_mono b3 (fun q j h => by omega)) (fr2_tr (fr2_mono b4 (fun q j h => by omega)) (fr2_mono b5 (fun q j h => by omega))))), ?_⟩
    · rw [m_X6_readFineAndWood, fp_ltt, e1, fp_b2t, fp_ltt, e3, fp_b2t, fp_ltt]
    · rw [m_X12_takeLaw, fp_ltt, m_into e2 (by decide) (by decide), fp_b2t, if_pos (by decide), m_into e4 (by decide) (by decide), fp_b2t, m_X12_takeLaw_38]
    · rcases R2 with ⟨rfl, e', q', w, g1, g2, C4, D4, rfl, g3, g4, hw, -, g5⟩ | ⟨hf, hf4, K⟩
      · refine Or.inl ⟨rfl, e', q', w, by omega, g2, CP_fr C4 a5 (fun j _ _ z => by omega) (fun j z => by omega), MP_fr D4 b5 (fun j _ _ z => by omega) (fun j z => by omega), ?_, ?_, ?_, ?_, set_at _ _ _ _, ?_⟩
        · rw [a5 2 0 (by omega), a4 2 0 (by omega), a3 2 0 (by omega), a2 2 0 (by omega), set_at]
        · rw [b5 120 14 (by omega), b4 120 14 (by omega), b3 120 14 (by omega), b2 120 14 (by omega), set_at]
        · rw [a5 2 1 (by omega), a4 2 1 (by omega), set_at, b5 125 0 (by omega), b4 125 0 (by omega), set_at, h3]
        · rw [q_lt (by decide) (by omega)] at g5
          omega
        · rw [set_at, g3]
      · exact Or.inr (Dead_fr K a5 b5 (fun j _ _ z => by omega) (fun j z => by omega) (by omega))
  · obtain ⟨y, s4, e3, K2, a4⟩ := Dead_num ht (Dead_fr K a3 b3 (fun j _ _ z => by omega) (fun j z => by omega) (by omega)) (nI 0) (nI 99)
    have a5 : fr2 (fun q j => q = 2 ∧ j = 2) s4 (fp_set s4 2 2 y) := fr2_set ⟨rfl, rfl⟩
    refine ⟨fp_set s4 2 2 y, f1, fp_set u2 125 0 (u2 120 12), ?_, ?_, fr2_tr (fr2_mono a1 (fun q j h => by omega)) (fr2_tr (fr2_mono a2 (fun q j h => by omega)) (fr2_tr (fr2_mono a3 (fun q j h => by omega)) (fr2_tr (fr2_mono a4 (fun q j h => by omega)) (fr2_mono a5 (fun q j h => by omega))))), fr2_tr (fr2_mono b1 (fun q j h => by omega)) (fr2_tr (fr2_mono b2 (fun q j h => by omega)) (fr2_mono b3 (fun q j h => by omega))), Or.inr (Dead_fr K2 a5 (Q := fun _ _ => False) fr2_rf (fun j _ _ z => by omega) (fun j z => by omega) (fun z => z))⟩
    · rw [m_X6_readFineAndWood, fp_ltt, e1, fp_b2t, fp_ltt, e3, fp_b2t, fp_ltt]
    · rw [m_X12_takeLaw, fp_ltt, m_into e2 (by decide) (by decide), fp_b2t, if_neg (nI_nle hf (by omega)), m_X12_takeLaw_38]
theorem c_addTable {T : Nat} {x y : Int32} (h : s 2 3 = nI T) (hT : T < 9) : m_X7_addTable s 2 x y = some (fp_set (fp_set (fp_set s 3 T x) 4 T y) 2 3 (nI (T + 1))) := by
  rw [m_X7_addTable, h, if_neg (nI_ge hT (by decide)), fp_inN hT (by decide), fp_gdt, q_cl (by omega), fp_ltt, set_off (by decide), h, fp_inN hT (by decide), fp_gdt, q_cl (by omega), fp_ltt, set_off (by decide), set_off (by decide), h, nI_add, fp_ltt, m_X7_addTable_39]
theorem c_addWay {W : Nat} {x y : Int32} (h : s 2 4 = nI W) (hW : W < 14) : m_X7_addWay s 2 x y = some (fp_set (fp_set (fp_set s 5 W x) 6 W y) 2 4 (nI (W + 1))) := by
  rw [m_X7_addWay, h, if_neg (nI_ge hW (by decide)), fp_inN hW (by decide), fp_gdt, q_cl (by omega), fp_ltt, set_off (by decide), h, fp_inN hW (by decide), fp_gdt, q_cl (by omega), fp_ltt, set_off (by decide), set_off (by decide), h, nI_add, fp_ltt, m_X7_addWay_39]
theorem Dead_5 {r : Nat} (h : Dead c len s u r) : ¬ s 1 5 = 0 := by
  obtain ⟨a, b, p, na, pl, hp, C, e⟩ := h
  rw [C.2.2.2.1]
  exact nI_ne0 a (by omega)
/-- 't' -/
theorem k_table (ht : TX c len) (hp : p ≤ len) (C : CP c len s p na 0 pl) (D : MP c len u p pl) {T : Nat} (hT : T < 9) (r1 : s 2 3 = nI T) (r2 : u 120 16 = nI T) :
    ∃ s' r u', m_X6_readTable s = some s' ∧ m_X12_takeTable u = some (nI r, u') ∧ fr2 (fun q j => (q = 1 ∧ 3 ≤ j ∧ j ≤ 6) ∨ (q = 2 ∧ j = 3) ∨ (q = 3 ∧ j = T) ∨ (q = 4 ∧ j = T)) s s' ∧ fr2 (fun q j => (q = 120 ∧ ((10 ≤ j ∧ j ≤ 13) ∨ j = 16)) ∨ (q = 126 ∧ j = T) ∨ (q = 127 ∧ j = T)) u u' ∧
      ((r = 0 ∧ ∃ e nb a b, p ≤ e ∧ e ≤ len ∧ CP c len s' e nb 0 pl ∧ MP c len u' e pl ∧ s' 2 3 = nI (T + 1) ∧ u' 120 16 = nI (T + 1) ∧ s' 3 T = nI a ∧ s' 4 T = nI b ∧ u' 126 T = nI a ∧ u' 127 T = nI b ∧ b ≤ a ∧ a ≤ 12) ∨ Dead c len s' u' r) := by
  have b1 : fr2 (fun q j => q = 120 ∧ j = 16) u (fp_set u 120 16 (nI (T + 1))) := fr2_set ⟨rfl, rfl⟩
  obtain ⟨x, s2, f1, u2, e1, e2, a2, b2, R1⟩ := n_live ht hp C (MP_fr D b1 (fun j _ _ z => by omega) (fun j z => by omega)) (nI 1) (nI 12)
  have b3 : fr2 (fun q j => q = 126 ∧ j = T) u2 (fp_set u2 126 T (u2 120 12)) := fr2_set ⟨rfl, rfl⟩
  rcases R1 with ⟨rfl, e, q, v, h1, h2, C2, D2, rfl, h3, -, h5, h6, h7⟩ | ⟨hf, hf4, K⟩
  · have hv : v ≤ 12 := by
      rw [q_lt (by decide) (by omega)] at h7
      omega
    obtain ⟨y, s4, f2, u4, e3, e4, a4, b4, R2⟩ := n_live ht h2 C2 (MP_fr D2 b3 (fun j _ _ z => by omega) (fun j z => by omega)) (nI 0) (nI v)
    have b5 : fr2 (fun q j => q = 127 ∧ j = T) u4 (fp_set u4 127 T (u4 120 12)) := fr2_set ⟨rfl, rfl⟩
    have e4' : m_X12_takeNumber (fp_set u2 126 T (u2 120 12)) (nI 0) (u2 120 12) = some (nI f2, u4) := by
      rw [h3] at e4 ⊢
      exact e4
    have em : m_X12_takeTable u = some (nI f2, fp_set u4 127 T (u4 120 12)) := by
      rw [m_X12_takeTable, r2, fp_ltt, nI_add, fp_ltt, m_into e2 hT (by decide), fp_b2t, if_pos (by decide), fp_inN hT (by decide), fp_gdt, q_cl (by omega), set_at, m_into e4' hT (by decide), fp_b2t, m_X12_takeTable_52]
    have fu : fr2 (fun q j => (q = 120 ∧ ((10 ≤ j ∧ j ≤ 13) ∨ j = 16)) ∨ (q = 126 ∧ j = T) ∨ (q = 127 ∧ j = T)) u (fp_set u4 127 T (u4 120 12)) := fr2_tr (fr2_mono b1 (fun q j h => by omega)) (fr2_tr (fr2_mono b2 (fun q j h => by omega)) (fr2_tr (fr2_mono b3 (fun q j h => by omega)) (fr2_tr (fr2_mono b4 (fun q j h => by omega)) (fr2_mono b5 (fun q j h => by omega)))))
    rcases R2 with ⟨rfl, e', q', w, g1, g2, C4, D4, rfl, g3, g4, g5, g6, g7⟩ | ⟨hf, hf4, K⟩
    · have hw : w ≤ v := by
        rw [q_lt (by omega) (by omega)] at g7
        omega
      have t4 : s4 2 3 = nI T := by rw [a4 2 3 (by omega), a2 2 3 (by omega), r1]
      have a6 : fr2 (fun q j => (q = 2 ∧ j = 3) ∨ (q = 3 ∧ j = T) ∨ (q = 4 ∧ j = T)) s4 (fp_set (fp_set (fp_set s4 3 T (nI v)) 4 T (nI w)) 2 3 (nI (T + 1))) := fr2_tr (fr2_set (by omega)) (fr2_tr (fr2_set (by omega)) (fr2_set (by omega)))
      refine ⟨_, 0, _, ?_, em, fr2_tr (fr2_mono a2 (fun q j h => by omega)) (fr2_tr (fr2_mono a4 (fun q j h => by omega)) (fr2_mono a6 (fun q j h => by omega))), fu, Or.inl ⟨rfl, e', q', v, w, by omega, g2, CP_fr C4 a6 (fun j _ _ z => by omega) (fun j z => by omega), MP_fr D4 b5 (fun j _ _ z => by omega) (fun j z => by omega), set_at _ _ _ _, ?_, ?_, ?_, ?_, ?_, hw, hv⟩⟩
      · rw [m_X6_readTable, e1, fp_b2t, e3, fp_b2t, C4.2.2.2.1, if_pos (by decide), c_addTable t4 hT, fp_b1t, m_X6_readTable_31]
      · rw [b5 120 16 (by omega), b4 120 16 (by omega), b3 120 16 (by omega), b2 120 16 (by omega), set_at]
      · rw [set_off (by decide), set_off (by decide), set_at]
      · rw [set_off (by decide), set_at]
      · rw [b5 126 T (by omega), b4 126 T (by omega), set_at, h3]
      · rw [set_at, g3]
    · refine ⟨s4, f2, _, ?_, em, fr2_tr (fr2_mono a2 (fun q j h => by omega)) (fr2_mono a4 (fun q j h => by omega)), fu, Or.inr (Dead_fr K (P := fun _ _ => False) fr2_rf b5 (fun j _ _ z => z) (fun j z => z) (by omega))⟩
      rw [m_X6_readTable, e1, fp_b2t, e3, fp_b2t, if_neg (Dead_5 K), m_X6_readTable_31]
  · obtain ⟨y, s4, e3, K2, a4⟩ := Dead_num ht K (nI 0) x
    refine ⟨s4, f1, fp_set u2 126 T (u2 120 12), ?_, ?_, fr2_tr (fr2_mono a2 (fun q j h => by omega)) (fr2_mono a4 (fun q j h => by omega)), fr2_tr (fr2_mono b1 (fun q j h => by omega)) (fr2_tr (fr2_mono b2 (fun q j h => by omega)) (fr2_mono b3 (fun q j h => by omega))), Or.inr (Dead_fr K2 (P := fun _ _ => False) fr2_rf b3 (fun j _ _ z => z) (fun j z => z) (by omega))⟩
    · rw [m_X6_readTable, e1, fp_b2t, e3, fp_b2t, if_neg (Dead_5 K2), m_X6_readTable_31]
    · rw [m_X12_takeTable, r2, fp_ltt, nI_add, fp_ltt, m_into e2 hT (by decide), fp_b2t, if_neg (nI_nle hf (by omega)), m_X12_takeTable_52]
end CLS

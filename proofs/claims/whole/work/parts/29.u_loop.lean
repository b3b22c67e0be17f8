/-! a clause; all clauses -/
/-- what both have read so far is the same -/
def LV (s u : fp_Mem) (th T W : Nat) (fa fb : Nat → Nat) : Prop :=
  th ≤ 1 ∧ T ≤ 9 ∧ W ≤ 14 ∧ (th = 0 → T = 0 ∧ W = 0 ∧ s 2 1 = nI 0 ∧ s 2 2 = nI 0) ∧ s 2 0 = nI th ∧ u 120 14 = nI th ∧ (th = 1 → s 2 1 = u 125 0 ∧ ∃ w, w ≤ 99 ∧ s 2 2 = nI w ∧ u 125 1 = nI w) ∧ s 2 3 = nI T ∧ u 120 16 = nI T ∧ s 2 4 = nI W ∧ u 120 19 = nI W ∧
  (∀ t, t < T → ∃ a b, s 3 t = nI a ∧ s 4 t = nI b ∧ u 126 t = nI a ∧ u 127 t = nI b ∧ b ≤ a ∧ a ≤ 12) ∧ (∀ w, w < W → s 5 w = nI (fa w) ∧ s 6 w = nI (fb w) ∧ u 128 w = nI (fa w) ∧ u 129 w = nI (fb w) ∧ fa w < T ∧ fb w < T ∧ fa w ≠ fb w)
/-- the places that the program's, the model's reading writes -/
def Pc (q j : Nat) : Prop := (q = 1 ∧ 3 ≤ j ∧ j ≤ 6) ∨ (2 ≤ q ∧ q ≤ 6)
def Pm (q j : Nat) : Prop := (q = 120 ∧ ((10 ≤ j ∧ j ≤ 14) ∨ j = 16 ∨ j = 19)) ∨ (125 ≤ q ∧ q ≤ 129)
section LP
variable {c : Nat → Nat} {len : Nat} {s u : fp_Mem} {p na : Nat} {pl : Int32}
theorem LV_fr {s' u' : fp_Mem} {P Q : Nat → Nat → Prop} {th T W : Nat} {fa fb : Nat → Nat} (h : LV s u th T W fa fb) (hf : fr2 P s s') (hg : fr2 Q u u') (h1 : ∀ q j, 2 ≤ q → q ≤ 6 → ¬ P q j) (h2 : ∀ q j, 125 ≤ q → q ≤ 129 → ¬ Q q j) (h3 : ∀ j, 14 ≤ j → ¬ Q 120 j) : LV s' u' th T W fa fb := by
  have e : ∀ q j, 2 ≤ q → q ≤ 6 → s' q j = s q j := fun q j a b => hf q j (h1 q j a b)
  have g : ∀ q j, 125 ≤ q → q ≤ 129 → u' q j = u q j := fun q j a b => hg q j (h2 q j a b)
  have g0 : ∀ j, 14 ≤ j → u' 120 j = u 120 j := fun j a => hg 120 j (h3 j a)
  obtain ⟨a1, a2, a3, a4, a5, a6, a7, a8, a9, a10, a11, a12, a13⟩ := h
  refine ⟨a1, a2, a3, fun z => ?_, (e 2 0 (by decide) (by decide)).trans a5, (g0 14 (by decide)).trans a6, fun z => ?_, (e 2 3 (by decide) (by decide)).trans a8, (g0 16 (by decide)).trans a9, (e 2 4 (by decide) (by decide)).trans a10, (g0 19 (by decide)).trans a11, fun t ht => ?_, fun w hw => ?_⟩
  · rw [e 2 1 (by decide) (by decide), e 2 2 (by decide) (by decide)]
    exact a4 z
  · rw [e 2 1 (by decide) (by decide), e 2 2 (by decide) (by decide), g 125 0 (by decide) (by decide), g 125 1 (by decide) (by decide)]
    exact a7 z
  · rw [e 3 t (by decide) (by decide), e 4 t (by decide) (by decide), g 126 t (by decide) (by decide), g 127 t (by decide) (by decide)]
    exact a12 t ht
  · rw [e 5 w (by decide) (by decide), e 6 w (by decide) (by decide), g 128 w (by decide) (by decide), g 129 w (by decide) (by decide)]
    exact a13 w hw
/-- the program's clause that cannot stand there -/
theorem cl_bad (ht : TX c len) (hp : p < len) (C : CP c len s p na 0 pl) {x : Nat} (hx : 0 < x) (hx4 : x ≤ 4) (h : m_X6_faultOfWord s (nI (c p)) = some (nI x)) : ∃ s', m_X6_readClause s = some s' ∧ CP c len s' p na x (nI p) ∧ fr2 (fun q j => q = 1 ∧ (j = 5 ∨ j = 6)) s s' := by
  obtain ⟨s', k1, k2, k3⟩ := c_fails C x (nI p) (by decide)
  rw [if_pos rfl, if_pos rfl] at k2
  exact ⟨s', by rw [m_X6_readClause, c_lh_y ht C hp, fp_b1t, h, fp_b1t, if_neg (nI_ne0 hx (by omega)), C.2.1, k1, fp_b1t], k2, k3⟩
theorem k_bad (ht : TX c len) (hp : p < len) (C : CP c len s p na 0 pl) {u1 : fp_Mem} (D : MP c len u1 p pl) (b1 : fr2 (fun q j => q = 120 ∧ j = 11) u u1) {x : Nat} (hx : 0 < x) (hx4 : x ≤ 4) (h : m_X6_faultOfWord s (nI (c p)) = some (nI x)) (hm : ∀ u2, m_X12_fails u1 (nI x) (nI p) = some (nI x, u2) → m_X12_takeClause u = some (nI x, u2)) :
    ∃ s' r u', m_X6_readClause s = some s' ∧ m_X12_takeClause u = some (nI r, u') ∧ fr2 Pc s s' ∧ fr2 Pm u u' ∧ Dd s' u' r := by
  obtain ⟨s', k1, k2, k3⟩ := cl_bad ht hp C hx hx4 h
  obtain ⟨l1, l2, l3⟩ := m_fails D (nI x) (nI p)
  exact ⟨s', x, _, k1, hm _ l1, fr2_mono k3 (fun q j h => by unfold Pc; omega), fr2_tr (fr2_mono b1 (fun q j h => by unfold Pm; omega)) (fr2_mono l3 (fun q j h => by unfold Pm; omega)), hx, hx4, k2.2.2.2.1, by rw [k2.2.2.2.2.1, set_at]⟩
/-- what was read, then the ';' -/
theorem k_fin (ht : TX c len) {r : Nat} (H : (r = 0 ∧ ∃ e nb, p ≤ e ∧ e ≤ len ∧ CP c len s e nb 0 pl ∧ MP c len u e pl) ∨ Dead c len s u r) :
    ∃ s' r' u', m_X6_readClause_65 s = some s' ∧ m_X12_takeClause_161 (nI r) u = some (nI r', u') ∧ fr2 (fun q j => q = 1 ∧ 3 ≤ j ∧ j ≤ 6) s s' ∧ fr2 (fun q j => q = 120 ∧ 10 ≤ j ∧ j ≤ 11) u u' ∧ ((r = 0 ∧ r' = 0 ∧ ∃ e nb, p < e ∧ e ≤ len ∧ CP c len s' e nb 0 pl ∧ MP c len u' e pl) ∨ Dd s' u' r') := by
  rcases H with ⟨rfl, e, nb, h1, h2, C, D⟩ | K
  · obtain ⟨s', r', u', k1, k2, k3, k4, k5⟩ := k_end ht h2 C D
    refine ⟨s', r', u', by rw [m_X6_readClause_65, k1, fp_b1t], k2, k3, k4, ?_⟩
    rcases k5 with ⟨rfl, e', g1, g2, g3, g4⟩ | k5
    · exact Or.inl ⟨rfl, rfl, e', nb, by omega, g2, g3, g4⟩
    · exact Or.inr k5
  · obtain ⟨s', u', k1, k2, k3, k4, k5⟩ := k_endD ht K
    exact ⟨s', r, u', by rw [m_X6_readClause_65, k1, fp_b1t], k2, k3, k4, Or.inr k5⟩
theorem f_later (s : fp_Mem) (x y : Nat) : (s 2 0 = nI x → x = 0 → m_X6_faultOfLater s (nI y) = some (nI 1)) ∧ (s 2 0 = nI x → x = 1 → m_X6_faultOfLater s (nI 0) = some (nI 0) ∧ m_X6_faultOfLater s (nI 1) = some (nI 3)) := by
  refine ⟨fun h e => ?_, fun h e => ⟨?_, ?_⟩⟩
  · rw [m_X6_faultOfLater, h, e, if_pos (by decide)]
  · rw [m_X6_faultOfLater, h, e, if_neg (by decide), if_pos (by decide), m_X6_faultOfLater_21]
  · rw [m_X6_faultOfLater, h, e, if_neg (by decide), if_neg (by decide), m_X6_faultOfLater_21]
theorem k_clause (ht : TX c len) (hp : p < len) (hb : isBl (c p) = false) (C : CP c len s p na 0 pl) (D : MP c len u p pl) {th T W : Nat} {fa fb : Nat → Nat} (L : LV s u th T W fa fb) :
    ∃ s' r u', m_X6_readClause s = some s' ∧ m_X12_takeClause u = some (nI r, u') ∧ fr2 Pc s s' ∧ fr2 Pm u u' ∧ ((r = 0 ∧ ∃ e nb T' W' fa' fb', p < e ∧ e ≤ len ∧ CP c len s' e nb 0 pl ∧ MP c len u' e pl ∧ LV s' u' 1 T' W' fa' fb') ∨ Dd s' u' r) := by
  obtain ⟨u1, e2, D1, b1⟩ := m_here ht (Nat.le_of_lt hp) D (Run_0 (fun _ => hb))
  rw [ltr, if_pos hp] at e2
  have hx := ht.2 p hp
  have L1 : LV s u1 th T W fa fb := LV_fr L (P := fun _ _ => False) fr2_rf b1 (fun q j _ _ z => z) (fun q j a b z => by omega) (fun j a z => by omega)
  have bad : (∃ s' r u', m_X6_readClause s = some s' ∧ m_X12_takeClause u = some (nI r, u') ∧ fr2 Pc s s' ∧ fr2 Pm u u' ∧ Dd s' u' r) → ∃ s' r u', m_X6_readClause s = some s' ∧ m_X12_takeClause u = some (nI r, u') ∧ fr2 Pc s s' ∧ fr2 Pm u u' ∧ ((r = 0 ∧ ∃ e nb T' W' fa' fb', p < e ∧ e ≤ len ∧ CP c len s' e nb 0 pl ∧ MP c len u' e pl ∧ LV s' u' 1 T' W' fa' fb') ∨ Dd s' u' r) := by
    rintro ⟨s', r, u', a, b, d, e, f⟩
    exact ⟨s', r, u', a, b, d, e, Or.inr f⟩
  obtain ⟨C1, a1⟩ := CP_at C (p + 1)
  obtain ⟨D2, b2⟩ := MP_at D1 (p + 1)
  have L2 : LV (fp_set s 1 3 (nI (p + 1))) (fp_set u1 120 11 (nI (p + 1))) th T W fa fb := LV_fr L1 a1 b2 (fun q j _ _ z => by omega) (fun q j _ _ z => by omega) (fun j _ z => by omega)
  have hlt := ht.1
  obtain ⟨t1, t2, t3, t4, t5, t6, t7, t8, t9, t10, t11, t12, t13⟩ := L1
  have t2' := id L2
  obtain ⟨y1, y2, y3, y4, y5, y6, y7, y8, y9, y10, y11, y12, y13⟩ := t2'
  have efc : m_X12_fails u1 (nI 1) (u1 120 11) = m_X12_fails u1 (nI 1) (nI p) := by rw [D1.2.2.1]
  have efc3 : m_X12_fails u1 (nI 3) (u1 120 11) = m_X12_fails u1 (nI 3) (nI p) := by rw [D1.2.2.1]
  by_cases hr : c p = 114
  · rw [hr] at e2
    have em : m_X12_takeClause u = m_X12_takeClause_62 (nI 0) u1 := by
      rw [m_X12_takeClause, e2, fp_b2t, if_pos rfl, m_X12_takeClause_36, if_neg (by decide), if_pos (by decide)]
    rw [m_X12_takeClause_62, if_pos (by decide), t6] at em
    by_cases h0 : th = 0
    · subst h0
      obtain ⟨z1, z2, z3, z4⟩ := y4 rfl
      obtain ⟨s2, r, u2, k1, k2, k3, k4, k5⟩ := k_law ht (show p + 1 ≤ len by omega) C1 D2
      obtain ⟨s3, r', u3, g1, g2, g3, g4, g5⟩ := k_fin ht (s := s2) (u := u2) (p := p + 1) (pl := pl) (r := r) (by
        rcases k5 with ⟨x1, e, nb, w, x2, x3, x4, x5, -⟩ | K
        · exact Or.inl ⟨x1, e, nb, x2, x3, x4, x5⟩
        · exact Or.inr K)
      refine ⟨s3, r', u3, ?_, ?_, fr2_tr (fr2_mono a1 (fun q j h => by unfold Pc; omega)) (fr2_tr (fr2_mono k3 (fun q j h => by unfold Pc; omega)) (fr2_mono g3 (fun q j h => by unfold Pc; omega))), fr2_tr (fr2_mono b1 (fun q j h => by unfold Pm; omega)) (fr2_tr (fr2_mono b2 (fun q j h => by unfold Pm; omega)) (fr2_tr (fr2_mono k4 (fun q j h => by unfold Pm; omega)) (fr2_mono g4 (fun q j h => by unfold Pm; omega)))), ?_⟩
      · rw [m_X6_readClause, c_lh_y ht C hp, fp_b1t, hr, m_X6_faultOfWord, if_pos rfl, t5, if_pos (by decide), m_X6_faultOfWord_51, fp_b1t, if_pos (by decide), C.2.1, nI_add, fp_ltt, if_pos rfl, k1, fp_b1t, g1]
      · rw [em, m_X12_takeClause_109, if_pos (by decide), D1.2.2.1, nI_add, fp_ltt, if_pos (by decide), k2, fp_b2t, g2]
      · rcases g5 with ⟨hr0, rfl, e, nb, x1, x2, x3, x4⟩ | K
        · refine Or.inl ⟨rfl, e, nb, T, W, fa, fb, by omega, x2, x3, x4, ?_⟩
          rcases k5 with ⟨-, e, nb, w, x5, x6, x7, x8, x9, x10, x11, x12, x13, x14⟩ | ⟨K, -⟩
          · refine LV_fr (s := s2) (u := u2) ?_ g3 g4 (fun q j _ _ z => by omega) (fun q j _ _ z => by omega) (fun j _ z => by omega)
            refine ⟨by decide, y2, y3, (fun z => nomatch z), x9, x10, fun _ => ⟨x11, w, x12, x13, x14⟩, ?_, ?_, ?_, ?_, fun t ht => by omega, fun w hw => by omega⟩
            · rw [k3 2 3 (by omega)]; exact y8
            · rw [k4 120 16 (by omega)]; exact y9
            · rw [k3 2 4 (by omega)]; exact y10
            · rw [k4 120 19 (by omega)]; exact y11
          · omega
        · exact Or.inr K
    · obtain rfl : th = 1 := by omega
      refine bad (k_bad ht hp C D1 b1 (x := 3) (by decide) (by decide) ?_ (fun u2 h => ?_))
      · rw [hr, m_X6_faultOfWord, if_pos rfl, t5, if_neg (by decide), m_X6_faultOfWord_51]
      · rw [em, m_X12_takeClause_109, if_neg (by decide), efc3, h, fp_b2t]
  · by_cases htt : c p = 116
    · rw [htt] at e2
      have em : m_X12_takeClause u = if (u1 120 14) = 0 then m_X12_takeClause_52 u1 else m_X12_takeClause_62 (nI 1) u1 := by
        rw [m_X12_takeClause, e2, fp_b2t, if_neg (by decide), if_pos rfl, m_X12_takeClause_36, if_neg (by decide), if_neg (by decide)]
      rw [t6] at em
      have ecf : m_X6_faultOfWord s (nI (c p)) = if nI T < nI 9 then m_X6_faultOfWord_70 s (nI 116) (nI 0) else m_X6_faultOfWord_70 s (nI 116) (nI 1) := by
        rw [htt, m_X6_faultOfWord, if_neg (by decide), if_pos rfl, t8]
      by_cases h0 : th = 0
      · subst h0
        obtain ⟨z1, z2, z3, z4⟩ := y4 rfl
        rw [if_pos (by decide), m_X12_takeClause_52, efc] at em
        refine bad (k_bad ht hp C D1 b1 (x := 1) (by decide) (by decide) ?_ (fun u2 h => ?_))
        · rw [ecf, z1, if_pos (by decide), m_X6_faultOfWord_70, (f_later s 0 0).1 t5 rfl, fp_b1t]
        · rw [em, h, fp_b2t]
      · obtain rfl : th = 1 := by omega
        rw [if_neg (by decide), m_X12_takeClause_62, if_neg (by decide), if_pos rfl, t9] at em
        by_cases h9 : T = 9
        · rw [h9, if_pos rfl] at em
          rw [h9, if_neg (by decide), m_X6_faultOfWord_70, ((f_later s 1 0).2 t5 rfl).2, fp_b1t] at ecf
          refine bad (k_bad ht hp C D1 b1 (x := 3) (by decide) (by decide) ecf (fun u2 h => ?_))
          rw [em, m_X12_takeClause_109, if_neg (by decide), efc3, h, fp_b2t]
        · rw [if_neg (by rw [nI_eq (by omega) (by decide)]; exact h9)] at em
          rw [if_pos (nI_lt (by omega) (by decide)), m_X6_faultOfWord_70, ((f_later s 1 0).2 t5 rfl).1, fp_b1t] at ecf
          obtain ⟨s2, r, u2, k1, k2, k3, k4, k5⟩ := k_table ht (show p + 1 ≤ len by omega) C1 D2 (show T < 9 by omega) y8 y9
          obtain ⟨s3, r', u3, g1, g2, g3, g4, g5⟩ := k_fin ht (s := s2) (u := u2) (p := p + 1) (pl := pl) (r := r) (by
            rcases k5 with ⟨x1, e, nb, a, b, x2, x3, x4, x5, -⟩ | K
            · exact Or.inl ⟨x1, e, nb, x2, x3, x4, x5⟩
            · exact Or.inr K)
          refine ⟨s3, r', u3, ?_, ?_, fr2_tr (fr2_mono a1 (fun q j h => by unfold Pc; omega)) (fr2_tr (fr2_mono k3 (fun q j h => by unfold Pc; omega)) (fr2_mono g3 (fun q j h => by unfold Pc; omega))), fr2_tr (fr2_mono b1 (fun q j h => by unfold Pm; omega)) (fr2_tr (fr2_mono b2 (fun q j h => by unfold Pm; omega)) (fr2_tr (fr2_mono k4 (fun q j h => by unfold Pm; omega)) (fr2_mono g4 (fun q j h => by unfold Pm; omega)))), ?_⟩
          · rw [m_X6_readClause, c_lh_y ht C hp, fp_b1t, ecf, fp_b1t, if_pos (by decide), C.2.1, nI_add, fp_ltt, htt, if_neg (by decide), if_pos rfl, k1, fp_b1t, g1]
          · rw [em, m_X12_takeClause_109, if_pos (by decide), D1.2.2.1, nI_add, fp_ltt, if_neg (by decide), if_pos rfl, k2, fp_b2t, g2]
          · rcases g5 with ⟨hr0, rfl, e, nb, x1, x2, x3, x4⟩ | K
            · refine Or.inl ⟨rfl, e, nb, T + 1, W, fa, fb, by omega, x2, x3, x4, ?_⟩
              rcases k5 with ⟨-, e, nb, a, b, x5, x6, x7, x8, x9, x10, x11, x12, x13, x14, x15, x16⟩ | ⟨K, -⟩
              · refine LV_fr (s := s2) (u := u2) ?_ g3 g4 (fun q j _ _ z => by omega) (fun q j _ _ z => by omega) (fun j _ z => by omega)
                refine ⟨by decide, by omega, y3, (fun z => nomatch z), ?_, ?_, fun z => ?_, x9, x10, ?_, ?_, fun t ht => ?_, fun w hw => ?_⟩
                · rw [k3 2 0 (by omega)]; exact y5
                · rw [k4 120 14 (by omega)]; exact y6
                · rw [k3 2 1 (by omega), k3 2 2 (by omega), k4 125 0 (by omega), k4 125 1 (by omega)]; exact y7 z
                · rw [k3 2 4 (by omega)]; exact y10
                · rw [k4 120 19 (by omega)]; exact y11
                · by_cases et : t = T
                  · subst et
                    exact ⟨a, b, x11, x12, x13, x14, x15, x16⟩
                  · rw [k3 3 t (by omega), k3 4 t (by omega), k4 126 t (by omega), k4 127 t (by omega)]
                    exact y12 t (by omega)
                · rw [k3 5 w (by omega), k3 6 w (by omega), k4 128 w (by omega), k4 129 w (by omega)]
                  obtain ⟨v1, v2, v3, v4, v5, v6, v7⟩ := y13 w hw
                  exact ⟨v1, v2, v3, v4, by omega, by omega, v7⟩
              · omega
            · exact Or.inr K
    · by_cases hw : c p = 119
      · rw [hw] at e2
        have em : m_X12_takeClause u = if (u1 120 14) = 0 then m_X12_takeClause_52 u1 else m_X12_takeClause_62 (nI 2) u1 := by
          rw [m_X12_takeClause, e2, fp_b2t, if_neg (by decide), if_neg (by decide), if_pos rfl, m_X12_takeClause_36, if_neg (by decide), if_neg (by decide)]
        rw [t6] at em
        have ecf : m_X6_faultOfWord s (nI (c p)) = if nI W < nI 14 then m_X6_faultOfWord_92 s (nI 119) (nI 0) else m_X6_faultOfWord_92 s (nI 119) (nI 1) := by
          rw [hw, m_X6_faultOfWord, if_neg (by decide), if_neg (by decide), if_pos rfl, t10]
        by_cases h0 : th = 0
        · subst h0
          obtain ⟨z1, z2, z3, z4⟩ := y4 rfl
          rw [if_pos (by decide), m_X12_takeClause_52, efc] at em
          refine bad (k_bad ht hp C D1 b1 (x := 1) (by decide) (by decide) ?_ (fun u2 h => ?_))
          · rw [ecf, z2, if_pos (by decide), m_X6_faultOfWord_92, (f_later s 0 0).1 t5 rfl, fp_b1t]
          · rw [em, h, fp_b2t]
        · obtain rfl : th = 1 := by omega
          rw [if_neg (by decide), m_X12_takeClause_62, if_neg (by decide), if_neg (by decide), t11] at em
          by_cases h9 : W = 14
          · rw [h9, if_pos rfl] at em
            rw [h9, if_neg (by decide), m_X6_faultOfWord_92, ((f_later s 1 0).2 t5 rfl).2, fp_b1t] at ecf
            refine bad (k_bad ht hp C D1 b1 (x := 3) (by decide) (by decide) ecf (fun u2 h => ?_))
            rw [em, m_X12_takeClause_109, if_neg (by decide), efc3, h, fp_b2t]
          · rw [if_neg (by rw [nI_eq (by omega) (by decide)]; exact h9)] at em
            rw [if_pos (nI_lt (by omega) (by decide)), m_X6_faultOfWord_92, ((f_later s 1 0).2 t5 rfl).1, fp_b1t] at ecf
            obtain ⟨s2, r, u2, k1, k2, k3, k4, k5⟩ := k_way ht (show p + 1 ≤ len by omega) C1 D2 y2 (show W < 14 by omega) y8 y9 y10 y11 (fun w hw => by
              obtain ⟨v1, v2, v3, v4, v5, v6, v7⟩ := y13 w hw
              exact ⟨v1, v2, v3, v4, v5, v6⟩)
            obtain ⟨s3, r', u3, g1, g2, g3, g4, g5⟩ := k_fin ht (s := s2) (u := u2) (p := p + 1) (pl := pl) (r := r) (by
              rcases k5 with ⟨x1, e, nb, a, b, x2, x3, x4, x5, -⟩ | K
              · exact Or.inl ⟨x1, e, nb, x2, x3, x4, x5⟩
              · exact Or.inr K)
            refine ⟨s3, r', u3, ?_, ?_, fr2_tr (fr2_mono a1 (fun q j h => by unfold Pc; omega)) (fr2_tr (fr2_mono k3 (fun q j h => by unfold Pc; omega)) (fr2_mono g3 (fun q j h => by unfold Pc; omega))), fr2_tr (fr2_mono b1 (fun q j h => by unfold Pm; omega)) (fr2_tr (fr2_mono b2 (fun q j h => by unfold Pm; omega)) (fr2_tr (fr2_mono k4 (fun q j h => by unfold Pm; omega)) (fr2_mono g4 (fun q j h => by unfold Pm; omega)))), ?_⟩
            · rw [m_X6_readClause, c_lh_y ht C hp, fp_b1t, ecf, fp_b1t, if_pos (by decide), C.2.1, nI_add, fp_ltt, hw, if_neg (by decide), if_neg (by decide), k1, fp_b1t, g1]
            · rw [em, m_X12_takeClause_109, if_pos (by decide), D1.2.2.1, nI_add, fp_ltt, if_neg (by decide), if_neg (by decide), k2, fp_b2t, g2]
            · rcases g5 with ⟨hr0, rfl, e, nb, x1, x2, x3, x4⟩ | K
              · rcases k5 with ⟨-, e', nb', a, b, x5, x6, x7, x8, x9, x10, x11, x12, x13, x14, x15, x16, x17⟩ | ⟨K, -⟩
                · refine Or.inl ⟨rfl, e, nb, T, W + 1, fun w => if w = W then a else fa w, fun w => if w = W then b else fb w, by omega, x2, x3, x4, ?_⟩
                  refine LV_fr (s := s2) (u := u2) ?_ g3 g4 (fun q j _ _ z => by omega) (fun q j _ _ z => by omega) (fun j _ z => by omega)
                  refine ⟨by decide, y2, by omega, (fun z => nomatch z), ?_, ?_, fun z => ?_, ?_, ?_, x9, x10, fun t ht => ?_, fun w hw => ?_⟩
                  · rw [k3 2 0 (by omega)]; exact y5
                  · rw [k4 120 14 (by omega)]; exact y6
                  · rw [k3 2 1 (by omega), k3 2 2 (by omega), k4 125 0 (by omega), k4 125 1 (by omega)]; exact y7 z
                  · rw [k3 2 3 (by omega)]; exact y8
                  · rw [k4 120 16 (by omega)]; exact y9
                  · rw [k3 3 t (by omega), k3 4 t (by omega), k4 126 t (by omega), k4 127 t (by omega)]
                    exact y12 t ht
                  · show s2 5 w = nI (if w = W then a else fa w) ∧ s2 6 w = nI (if w = W then b else fb w) ∧ u2 128 w = nI (if w = W then a else fa w) ∧ u2 129 w = nI (if w = W then b else fb w) ∧ (if w = W then a else fa w) < T ∧ (if w = W then b else fb w) < T ∧ (if w = W then a else fa w) ≠ (if w = W then b else fb w)
                    by_cases ew : w = W
                    · subst ew
                      rw [if_pos rfl, if_pos rfl]
                      exact ⟨x11, x12, x13, x14, x15, x16, x17⟩
                    · rw [if_neg ew, if_neg ew, k3 5 w (by omega), k3 6 w (by omega), k4 128 w (by omega), k4 129 w (by omega)]
                      exact y13 w (by omega)
                · omega
              · exact Or.inr K
      · refine bad (k_bad ht hp C D1 b1 (x := 1) (by decide) (by decide) ?_ (fun u2 h => ?_))
        · rw [m_X6_faultOfWord, if_neg (by rw [nI_eq (by omega) (by decide)]; exact hr), if_neg (by rw [nI_eq (by omega) (by decide)]; exact htt), if_neg (by rw [nI_eq (by omega) (by decide)]; exact hw)]
        · rw [m_X12_takeClause, e2, fp_b2t, if_neg (by rw [nI_eq (by omega) (by decide)]; exact hr), if_neg (by rw [nI_eq (by omega) (by decide)]; exact htt), if_neg (by rw [nI_eq (by omega) (by decide)]; exact hw), m_X12_takeClause_36, if_pos (by decide), m_X12_takeClause_52, efc, h, fp_b2t]
/-- the program's turns behind the text's end -/
theorem c_idle (ht : TX c len) : ∀ (d v n : Nat) (s : fp_Mem), v + d = 241 → d < n → CP c len s len na 0 pl → ∃ s', m_X6_reads_29 n (nI v) s = m_X6_reads_68 s' ∧ CP c len s' len na 0 pl ∧ fr2 (fun q j => q = 1 ∧ j = 3) s s' := by
  intro d
  induction d with
  | zero =>
    intro v n s hv hn C
    obtain ⟨m, rfl⟩ : ∃ m, n = m + 1 := ⟨n - 1, by omega⟩
    exact ⟨s, by rw [m_X6_reads_29, if_pos (nI_lt (by omega) (by omega))], C, fr2_rf⟩
  | succ d ih =>
    intro v n s hv hn C
    obtain ⟨m, rfl⟩ : ∃ m, n = m + 1 := ⟨n - 1, by omega⟩
    have hlt := ht.1
    obtain ⟨s1, e1, C1, a1⟩ := c_skip ht (Nat.le_refl _) C (Run_0 (fun h => absurd h (Nat.lt_irrefl _)))
    obtain ⟨s', k1, k2, k3⟩ := ih (v + 1) m s1 (by omega) (by omega) C1
    refine ⟨s', ?_, k2, fr2_tr a1 k3⟩
    have z5 : s 1 5 = 0 := C.2.2.2.1
    rw [← k1, m_X6_reads_29, if_neg (nI_nlt (by omega) (by decide)), if_pos z5, e1, fp_b1t, C1.1, C1.2.1, if_pos (nI_le (Nat.le_refl _) (by omega)), m_X6_reads_62, nI_add, fp_ltt]
theorem Dd_5 {r : Nat} (h : Dd s u r) : ¬ s 1 5 = 0 := by
  rw [h.2.2.1]
  exact nI_ne0 h.1 (by have := h.2.1; omega)
theorem k_loop (ht : TX c len) : ∀ (d p v n1 n2 : Nat) (s u : fp_Mem) (na th T W : Nat) (fa fb : Nat → Nat), len - p ≤ d → p ≤ len → v ≤ p → 241 - v < n1 → d + 1 < n2 → CP c len s p na 0 pl → MP c len u p pl → LV s u th T W fa fb →
    ∃ s' u' f, m_X6_reads_29 n1 (nI v) s = m_X6_reads_68 s' ∧ m_X12_realm_27 n2 (nI 0) u = m_X12_realm_46 (nI f) u' ∧ fr2 Pc s s' ∧ fr2 Pm u u' ∧ ((f = 0 ∧ s' 1 5 = nI 0 ∧ s' 1 6 = pl ∧ u' 120 10 = pl ∧ ∃ th T W fa fb, LV s' u' th T W fa fb) ∨ Dd s' u' f) := by
  intro d
  induction d with
  | zero =>
    intro p v n1 n2 s u na th T W fa fb hd hp hv h1 h2 C D L
    obtain rfl : p = len := by omega
    have hlt := ht.1
    obtain ⟨s', k1, k2, k3⟩ := c_idle ht (241 - v) v n1 s (by omega) h1 C
    obtain ⟨u1, e2, D1, b1⟩ := m_here ht (Nat.le_refl _) D (Run_0 (fun h => absurd h (Nat.lt_irrefl _)))
    rw [ltr, if_neg (Nat.lt_irrefl _)] at e2
    obtain ⟨m, rfl⟩ : ∃ m, n2 = m + 1 := ⟨n2 - 1, by omega⟩
    refine ⟨s', u1, 0, k1, ?_, fr2_mono k3 (fun q j h => by unfold Pc; omega), fr2_mono b1 (fun q j h => by unfold Pm; omega), Or.inl ⟨rfl, k2.2.2.2.1, k2.2.2.2.2.1, D1.2.1, th, T, W, fa, fb, LV_fr L k3 b1 (fun q j _ _ z => by omega) (fun q j _ _ z => by omega) (fun j _ z => by omega)⟩⟩
    rw [m_X12_realm_27, if_pos (by decide), e2, fp_b2t, if_pos (by decide)]
  | succ d ih =>
    intro p v n1 n2 s u na th T W fa fb hd hp hv h1 h2 C D L
    have hlt := ht.1
    obtain ⟨q, hq⟩ := RunE c len isBl _ p rfl
    have hql := Run_le hq hp
    have hpq := hq.1
    obtain ⟨u1, e2, D1, b1⟩ := m_here ht hp D hq
    obtain ⟨m2, rfl⟩ : ∃ m, n2 = m + 1 := ⟨n2 - 1, by omega⟩
    obtain ⟨m1, rfl⟩ : ∃ m, n1 = m + 1 := ⟨n1 - 1, by omega⟩
    obtain ⟨s1, e1, C1, a1⟩ := c_skip ht hp C hq
    have z5 : s 1 5 = 0 := C.2.2.2.1
    have L1 : LV s1 u1 th T W fa fb := LV_fr L a1 b1 (fun q j _ _ z => by omega) (fun q j _ _ z => by omega) (fun j _ z => by omega)
    by_cases hend : q = len
    · subst hend
      rw [ltr, if_neg (Nat.lt_irrefl _)] at e2
      obtain ⟨s', k1, k2, k3⟩ := c_idle ht (240 - v) (v + 1) m1 s1 (by omega) (by omega) C1
      refine ⟨s', u1, 0, ?_, ?_, fr2_tr (fr2_mono a1 (fun q j h => by unfold Pc; omega)) (fr2_mono k3 (fun q j h => by unfold Pc; omega)), fr2_mono b1 (fun q j h => by unfold Pm; omega), Or.inl ⟨rfl, k2.2.2.2.1, k2.2.2.2.2.1, D1.2.1, th, T, W, fa, fb, LV_fr L1 k3 (Q := fun _ _ => False) fr2_rf (fun q j _ _ z => by omega) (fun q j _ _ z => z) (fun j _ z => z)⟩⟩
      · rw [← k1, m_X6_reads_29, if_neg (nI_nlt (by omega) (by decide)), if_pos z5, e1, fp_b1t, C1.1, C1.2.1, if_pos (nI_le (Nat.le_refl _) (by omega)), m_X6_reads_62, nI_add, fp_ltt]
      · rw [m_X12_realm_27, if_pos (by decide), e2, fp_b2t, if_pos (by decide)]
    · have hlt2 : q < len := by omega
      rw [ltr, if_pos hlt2] at e2
      obtain ⟨s2, r, u2, k1, k2, k3, k4, k5⟩ := k_clause ht hlt2 (hq.2.2 hlt2) C1 D1 L1
      have es : m_X6_reads_29 (m1 + 1) (nI v) s = m_X6_reads_29 m1 (nI (v + 1)) s2 := by
        rw [m_X6_reads_29, if_neg (nI_nlt (by omega) (by decide)), if_pos z5, e1, fp_b1t, C1.1, C1.2.1, if_neg (nI_ge hlt2 (by omega)), k1, fp_b1t, m_X6_reads_62, nI_add, fp_ltt]
      have eu : m_X12_realm_27 (m2 + 1) (nI 0) u = m_X12_realm_27 m2 (nI r) u2 := by
        rw [m_X12_realm_27, if_pos (by decide), e2, fp_b2t, if_neg (nI_pos (by have := ht.2 q hlt2; omega)), k2, fp_b2t]
      have fs : fr2 Pc s s2 := fr2_tr (fr2_mono a1 (fun q j h => by unfold Pc; omega)) k3
      have fu : fr2 Pm u u2 := fr2_tr (fr2_mono b1 (fun q j h => by unfold Pm; omega)) k4
      rcases k5 with ⟨rfl, e, nb, T', W', fa', fb', x1, x2, x3, x4, x5⟩ | K
      · obtain ⟨s', u', f, g1, g2, g3, g4, g5⟩ := ih e (v + 1) m1 m2 s2 u2 nb 1 T' W' fa' fb' (by omega) x2 (by omega) (by omega) (by omega) x3 x4 x5
        exact ⟨s', u', f, es.trans g1, eu.trans g2, fr2_tr fs g3, fr2_tr fu g4, g5⟩
      · obtain ⟨m1', rfl⟩ : ∃ m, m1 = m + 1 := ⟨m1 - 1, by omega⟩
        obtain ⟨m2', rfl⟩ : ∃ m, m2 = m + 1 := ⟨m2 - 1, by omega⟩
        refine ⟨s2, u2, r, es.trans ?_, eu.trans ?_, fs, fu, Or.inr K⟩
        · rw [m_X6_reads_29, if_neg (nI_nlt (by omega) (by decide)), if_neg (Dd_5 K)]
        · rw [m_X12_realm_27, if_neg (nI_ne0 K.1 (by have := K.2.1; omega))]
end LP

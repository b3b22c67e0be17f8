/-! a way is read; the clause's end; a clause -/
/-- there is such a way among the first n -/
def dup (fa fb : Nat → Nat) (a b n : Nat) : Bool := anyT (fun k => (fa k == a && fb k == b) || (fa k == b && fb k == a)) n
theorem dup_t {fa fb : Nat → Nat} {a b n k : Nat} (hk : k < n) (h : (fa k = a ∧ fb k = b) ∨ (fa k = b ∧ fb k = a)) : dup fa fb a b n = true := anyT_y hk (by
  rcases h with ⟨h1, h2⟩ | ⟨h1, h2⟩
  · simp [h1, h2]
  · simp [h1, h2])
theorem dup_n {fa fb : Nat → Nat} {a b n : Nat} (h : ∀ k, k < n → ¬ ((fa k = a ∧ fb k = b) ∨ (fa k = b ∧ fb k = a))) : dup fa fb a b n = false := by
  cases hd : dup fa fb a b n with
  | false => rfl
  | true =>
    obtain ⟨k, hk, h1⟩ := anyT_e hd
    refine absurd ?_ (h k hk)
    simpa using h1
theorem c_joins {M : fp_Mem} {W a b : Nat} {fa fb : Nat → Nat} (hW : W ≤ 14) (h4 : M 2 4 = nI W) (hr : ∀ w, w < W → M 5 w = nI (fa w) ∧ M 6 w = nI (fb w) ∧ fa w < 9 ∧ fb w < 9) (ha : a < 9) (hb : b < 9) : m_X7_joins M 2 (nI a) (nI b) = some (nI (if dup fa fb a b W = true then 1 else 0)) := by
  obtain ⟨r, hQ, he⟩ := loopE (ρ := Int32) (fun n i (_ : Unit) => m_X7_joins_2 M 2 (nI a) (nI b) n (nI i)) W (fun i _ => ∀ k, k < i → ¬ ((fa k = a ∧ fb k = b) ∨ (fa k = b ∧ fb k = a))) (fun r => r = nI (if dup fa fb a b W = true then 1 else 0)) (by
    intro n i s hi hI
    obtain ⟨g1, g2, g3, g4⟩ := hr i hi
    by_cases hc : (fa i = a ∧ fb i = b) ∨ (fa i = b ∧ fb i = a)
    · refine Or.inr ⟨nI 1, by rw [dup_t hi hc, if_pos rfl], ?_⟩
      show m_X7_joins_2 M 2 (nI a) (nI b) (n + 1) (nI i) = _
      rw [m_X7_joins_2, h4, if_neg (nI_ge hi (by omega)), fp_inN (show i < 14 by omega) (by decide), fp_gdt, fp_gdt, q_cl (by omega), g1, g2]
      by_cases c1 : fa i = a
      · rw [if_pos (by rw [c1])]
        by_cases c2 : fb i = b
        · rw [if_pos (by rw [c2]), m_X7_joins_50]
        · rw [if_neg (by rw [nI_eq (by omega) (by omega)]; exact c2), m_X7_joins_30, fp_inN (show i < 14 by omega) (by decide), fp_gdt, fp_gdt, q_cl (by omega), g1, g2, if_pos (by rw [nI_eq (by omega) (by omega)]; omega), if_pos (by rw [nI_eq (by omega) (by omega)]; omega), m_X7_joins_50]
      · rw [if_neg (by rw [nI_eq (by omega) (by omega)]; exact c1), m_X7_joins_30, fp_inN (show i < 14 by omega) (by decide), fp_gdt, fp_gdt, q_cl (by omega), g1, g2, if_pos (by rw [nI_eq (by omega) (by omega)]; omega), if_pos (by rw [nI_eq (by omega) (by omega)]; omega), m_X7_joins_50]
    · refine Or.inl ⟨(), fun k hk => ?_, ?_⟩
      · by_cases e : k = i
        · subst e
          exact hc
        · exact hI k (by omega)
      · have e30 : m_X7_joins_30 M 2 (nI a) (nI b) (m_X7_joins_2 M 2 (nI a) (nI b) n) (nI i) = m_X7_joins_2 M 2 (nI a) (nI b) n (nI (i + 1)) := by
          rw [m_X7_joins_30, fp_inN (show i < 14 by omega) (by decide), fp_gdt, fp_gdt, q_cl (by omega), g1, g2]
          by_cases c1 : fa i = b
          · rw [if_pos (by rw [c1]), if_neg (by rw [nI_eq (by omega) (by omega)]; omega), m_X7_joins_52, fp_ltt, nI_add]
          · rw [if_neg (by rw [nI_eq (by omega) (by omega)]; exact c1), m_X7_joins_52, fp_ltt, nI_add]
        show m_X7_joins_2 M 2 (nI a) (nI b) (n + 1) (nI i) = _
        rw [m_X7_joins_2, h4, if_neg (nI_ge hi (by omega)), fp_inN (show i < 14 by omega) (by decide), fp_gdt, fp_gdt, q_cl (by omega), g1, g2]
        by_cases c1 : fa i = a
        · rw [if_pos (by rw [c1]), if_neg (by rw [nI_eq (by omega) (by omega)]; omega), e30]
        · rw [if_neg (by rw [nI_eq (by omega) (by omega)]; exact c1), e30]) (by
    intro n s hI
    refine ⟨nI 0, by rw [dup_n hI, if_neg (by decide)], ?_⟩
    show m_X7_joins_2 M 2 (nI a) (nI b) (n + 1) (nI W) = _
    rw [m_X7_joins_2, h4, if_pos (nI_le (Nat.le_refl _) (by omega))]) W 0 fp_fu () (by omega) (fu_lt (by omega)) (fun k hk => absurd hk (Nat.not_lt_zero k))
  rw [m_X7_joins, ← hQ]
  exact he
theorem m_isWay {M : fp_Mem} {W a b : Nat} {fa fb : Nat → Nat} (hW : W < 14) (hr : ∀ w, w < W → M 128 w = nI (fa w) ∧ M 129 w = nI (fb w) ∧ fa w < 9 ∧ fb w < 9) (h1 : M 128 W = nI a) (h2 : M 129 W = nI b) (ha : a < 9) (hb : b < 9) : m_X12_isWayAlready M (nI W) = some (nI (if a = b ∨ dup fa fb a b W = true then 1 else 0)) := by
  have key : ∀ z : Bool, m_X12_isWayAlready_23 M (nI W) fp_fu (nI (if z = true then 1 else 0)) (nI 0) = some (nI (if (z || dup fa fb a b W) = true then 1 else 0)) := by
    intro z
    obtain ⟨n1, s, i1, he⟩ := loopI (fun n i s => m_X12_isWayAlready_23 M (nI W) n s (nI i)) W (fun i s => s = nI (if (z || dup fa fb a b i) = true then 1 else 0)) (by
      rintro n i s hi rfl
      obtain ⟨g1, g2, g3, g4⟩ := hr i hi
      refine ⟨_, rfl, ?_⟩
      show m_X12_isWayAlready_23 M (nI W) (n + 1) _ (nI i) = m_X12_isWayAlready_23 M (nI W) n _ (nI (i + 1))
      have e2 : dup fa fb a b (i + 1) = (dup fa fb a b i || ((fa i == a && fb i == b) || (fa i == b && fb i == a))) := rfl
      rw [e2]
      generalize dup fa fb a b i = dd
      have e100 : ∀ (x y : Bool), m_X12_isWayAlready_100 M (nI W) (m_X12_isWayAlready_23 M (nI W) n) (nI (if (z || dd) = true then 1 else 0)) (nI i) (nI (if x = true then 1 else 0)) (nI (if y = true then 1 else 0)) = m_X12_isWayAlready_23 M (nI W) n (nI (if ((z || dd) || (x || y)) = true then 1 else 0)) (nI (i + 1)) := by
        intro x y
        rw [m_X12_isWayAlready_100]
        generalize (z || dd) = zd
        cases zd with
        | true => rw [if_neg (by decide), m_X12_isWayAlready_116, m_X12_isWayAlready_121, fp_ltt, nI_add]; simp
        | false =>
          rw [if_pos (by decide)]
          cases x with
          | true => rw [if_neg (by decide), m_X12_isWayAlready_116, m_X12_isWayAlready_121, fp_ltt, nI_add]; simp
          | false =>
            rw [if_pos (by decide)]
            cases y with
            | true => rw [if_neg (by decide), m_X12_isWayAlready_116, m_X12_isWayAlready_121, fp_ltt, nI_add]; simp
            | false => rw [if_pos (by decide), m_X12_isWayAlready_121, fp_ltt, nI_add]; simp
      have e63 : ∀ (x : Bool), m_X12_isWayAlready_63 M (nI W) (m_X12_isWayAlready_23 M (nI W) n) (nI (if (z || dd) = true then 1 else 0)) (nI i) (nI (if x = true then 1 else 0)) = m_X12_isWayAlready_23 M (nI W) n (nI (if ((z || dd) || (x || (fa i == b && fb i == a))) = true then 1 else 0)) (nI (i + 1)) := by
        intro x
        rw [← e100 x, m_X12_isWayAlready_63, fp_inN (show i < 14 by omega) (by decide), fp_inN hW (by decide), fp_gdt, fp_gdt, fp_gdt, fp_gdt, q_cl (by omega), q_cl (by omega), g1, g2, h1, h2]
        by_cases c1 : fa i = b
        · rw [if_pos (by rw [c1])]
          by_cases c2 : fb i = a
          · rw [if_pos (by rw [c2])]
            simp [c1, c2]
          · rw [if_neg (by rw [nI_eq (by omega) (by omega)]; exact c2), m_X12_isWayAlready_99]
            simp [c2]
        · rw [if_neg (by rw [nI_eq (by omega) (by omega)]; exact c1), m_X12_isWayAlready_99]
          simp [c1]
      rw [← Bool.or_assoc, ← e63, m_X12_isWayAlready_23, if_neg (nI_ge hi (by omega)), fp_inN (show i < 14 by omega) (by decide), fp_inN hW (by decide), fp_gdt, fp_gdt, fp_gdt, fp_gdt, q_cl (by omega), q_cl (by omega), g1, g2, h1, h2]
      by_cases c1 : fa i = a
      · rw [if_pos (by rw [c1])]
        by_cases c2 : fb i = b
        · rw [if_pos (by rw [c2])]
          simp [c1, c2]
        · rw [if_neg (by rw [nI_eq (by omega) (by omega)]; exact c2), m_X12_isWayAlready_62]
          simp [c2]
      · rw [if_neg (by rw [nI_eq (by omega) (by omega)]; exact c1), m_X12_isWayAlready_62]
        simp [c1]) W 0 fp_fu (nI (if z = true then 1 else 0)) (by omega) (fu_lt (by omega)) (by rw [dup, anyT, Bool.or_false])
    refine he.trans ?_
    show m_X12_isWayAlready_23 M (nI W) (n1 + 1) s (nI W) = _
    rw [i1, m_X12_isWayAlready_23, if_pos (nI_le (Nat.le_refl _) (by omega))]
    cases (z || dup fa fb a b W) <;> rfl
  rw [m_X12_isWayAlready, fp_inN hW (by decide), fp_gdt, fp_gdt, q_cl (by omega), h1, h2]
  by_cases hab : a = b
  · rw [if_pos (by rw [hab]), m_X12_isWayAlready_20]
    have := key true
    rw [if_pos rfl] at this
    rw [this, if_pos (Or.inl hab)]
    rfl
  · rw [if_neg (by rw [nI_eq (by omega) (by omega)]; exact hab), m_X12_isWayAlready_20]
    have := key false
    rw [if_neg (by decide)] at this
    rw [this, Bool.false_or]
    simp [hab]
section CLS2
variable {c : Nat → Nat} {len : Nat} {s u : fp_Mem} {p na : Nat} {pl : Int32}
theorem q_pred_lt {v T : Nat} (hv : v < 1000) (hT : T ≤ 9) (h : ¬ nI T - nI 1 < nI v) : v < T := by
  by_cases h0 : T = 0
  · subst h0
    exact absurd (q_m1lt (nI_pos (by omega))) h
  · rw [q_sub (by omega), q_lt (by omega) (by omega)] at h
    omega
/-- 'w' -/
theorem k_way (ht : TX c len) (hp : p ≤ len) (C : CP c len s p na 0 pl) (D : MP c len u p pl) {T W : Nat} {fa fb : Nat → Nat} (hT : T ≤ 9) (hW : W < 14) (r1 : s 2 3 = nI T) (r2 : u 120 16 = nI T) (r3 : s 2 4 = nI W) (r4 : u 120 19 = nI W) (hw : ∀ w, w < W → s 5 w = nI (fa w) ∧ s 6 w = nI (fb w) ∧ u 128 w = nI (fa w) ∧ u 129 w = nI (fb w) ∧ fa w < T ∧ fb w < T) :
    ∃ s' r u', m_X6_readWay s = some s' ∧ m_X12_takeWay u = some (nI r, u') ∧ fr2 (fun q j => (q = 1 ∧ 3 ≤ j ∧ j ≤ 6) ∨ (q = 2 ∧ j = 4) ∨ (q = 5 ∧ j = W) ∨ (q = 6 ∧ j = W)) s s' ∧ fr2 (fun q j => (q = 120 ∧ ((10 ≤ j ∧ j ≤ 13) ∨ j = 19)) ∨ (q = 128 ∧ j = W) ∨ (q = 129 ∧ j = W)) u u' ∧
      ((r = 0 ∧ ∃ e nb a b, p ≤ e ∧ e ≤ len ∧ CP c len s' e nb 0 pl ∧ MP c len u' e pl ∧ s' 2 4 = nI (W + 1) ∧ u' 120 19 = nI (W + 1) ∧ s' 5 W = nI a ∧ s' 6 W = nI b ∧ u' 128 W = nI a ∧ u' 129 W = nI b ∧ a < T ∧ b < T ∧ a ≠ b) ∨ Dead c len s' u' r) := by
  have b1 : fr2 (fun q j => q = 120 ∧ j = 19) u (fp_set u 120 19 (nI (W + 1))) := fr2_set ⟨rfl, rfl⟩
  have t1 : (fp_set u 120 19 (nI (W + 1))) 120 16 = nI T := by rw [set_ne (by decide), r2]
  obtain ⟨x, s2, f1, u2, e1, e2, a2, b2, R1⟩ := n_live ht hp C (MP_fr D b1 (fun j _ _ z => by omega) (fun j z => by omega)) (nI 0) (nI T - nI 1)
  have b3 : fr2 (fun q j => q = 128 ∧ j = W) u2 (fp_set u2 128 W (u2 120 12)) := fr2_set ⟨rfl, rfl⟩
  have s23 : s2 2 3 = nI T := by rw [a2 2 3 (by omega), r1]
  rcases R1 with ⟨rfl, e, q, v, h1, h2, C2, D2, rfl, h3, -, h5, h6, h7⟩ | ⟨hf, hf4, K⟩
  · have hv := q_pred_lt h5 hT h7
    obtain ⟨y, s4, f2, u4, e3, e4, a4, b4, R2⟩ := n_live ht h2 C2 (MP_fr D2 b3 (fun j _ _ z => by omega) (fun j z => by omega)) (nI 0) (nI T - nI 1)
    have t3 : (fp_set u2 128 W (u2 120 12)) 120 16 = nI T := by rw [b3 120 16 (by omega), b2 120 16 (by omega), t1]
    have b5 : fr2 (fun q j => q = 129 ∧ j = W) u4 (fp_set u4 129 W (u4 120 12)) := fr2_set ⟨rfl, rfl⟩
    have em : m_X12_takeWay u = m_X12_takeWay_56 (nI W) (nI f2) (fp_set u4 129 W (u4 120 12)) := by
      rw [m_X12_takeWay, r4, fp_ltt, nI_add, fp_ltt, t1, m_into e2 hW (by decide), fp_b2t, if_pos (by decide), t3, m_into e4 hW (by decide), fp_b2t]
    have fu : fr2 (fun q j => (q = 120 ∧ ((10 ≤ j ∧ j ≤ 13) ∨ j = 19)) ∨ (q = 128 ∧ j = W) ∨ (q = 129 ∧ j = W)) u (fp_set u4 129 W (u4 120 12)) := fr2_tr (fr2_mono b1 (fun q j h => by omega)) (fr2_tr (fr2_mono b2 (fun q j h => by omega)) (fr2_tr (fr2_mono b3 (fun q j h => by omega)) (fr2_tr (fr2_mono b4 (fun q j h => by omega)) (fr2_mono b5 (fun q j h => by omega)))))
    have fs : fr2 (fun q j => q = 1 ∧ 3 ≤ j ∧ j ≤ 6) s s4 := fr2_tr a2 a4
    rcases R2 with ⟨rfl, e', q', w, g1, g2, C4, D4, rfl, g3, g4, g5, g6, g7⟩ | ⟨hf, hf4, K⟩
    · have hwT := q_pred_lt g5 hT g7
      have z5 : s4 1 5 = 0 := C4.2.2.2.1
      generalize hu5 : fp_set u4 129 W (u4 120 12) = u5 at b5 em fu
      have k128 : u5 128 W = nI v := by rw [b5 128 W (by omega), b4 128 W (by omega), set_at, h3]
      have k129 : u5 129 W = nI w := by rw [← hu5, set_at, g3]
      have k13 : u5 120 13 = nI q' := by rw [b5 120 13 (by omega), g4]
      have kW : u5 120 19 = nI (W + 1) := by rw [b5 120 19 (by omega), b4 120 19 (by omega), b3 120 19 (by omega), b2 120 19 (by omega), set_at]
      have D5 := MP_fr D4 b5 (fun j _ _ z => by omega) (fun j z => by omega)
      have ew := m_isWay (M := u5) (fa := fa) (fb := fb) hW (fun k hk => by
        obtain ⟨-, -, z1, z2, z3, z4⟩ := hw k hk
        exact ⟨by rw [fu 128 k (by omega), z1], by rw [fu 129 k (by omega), z2], by omega, by omega⟩) k128 k129 (by omega) (by omega)
      have s44 : s4 2 4 = nI W := by rw [fs 2 4 (by omega), r3]
      have ej := c_joins (M := s4) (W := W) (fa := fa) (fb := fb) (a := v) (b := w) (by omega) s44 (fun k hk => by
        obtain ⟨z1, z2, -, -, z3, z4⟩ := hw k hk
        exact ⟨by rw [fs 5 k (by omega), z1], by rw [fs 6 k (by omega), z2], by omega, by omega⟩) (by omega) (by omega)
      by_cases hd : v = w ∨ dup fa fb v w W = true
      · obtain ⟨s5, k1, k2, k3⟩ := c_fails C4 4 (nI q') (by decide)
        rw [if_pos rfl, if_pos rfl] at k2
        obtain ⟨l1, l2, l3⟩ := m_fails D5 (nI 4) (nI q')
        have K : Dead c len s5 (fp_set u5 120 10 (nI q')) 4 := ⟨by decide, by decide, e', q', nI q', g2, k2, set_at _ _ _ _⟩
        have e54 : m_X6_readWay_54 (nI v) (nI w) s4 = some s5 := by
          rw [m_X6_readWay_54, C4.2.2.1, k1, fp_b1t, m_X6_readWay_63, if_neg (Dead_5 K), m_X6_readWay_79]
        refine ⟨s5, 4, fp_set u5 120 10 (nI q'), ?_, ?_, fr2_tr (fr2_mono fs (fun q j h => by omega)) (fr2_mono k3 (fun q j h => by omega)), fr2_tr fu (fr2_mono l3 (fun q j h => by omega)), Or.inr K⟩
        · rw [m_X6_readWay, r1, e1, fp_b2t, s23, e3, fp_b2t, if_pos z5]
          by_cases hvw : v = w
          · rw [if_pos (by rw [hvw]), e54]
          · rw [if_neg (by rw [nI_eq (by omega) (by omega)]; exact hvw), ej, if_pos (hd.resolve_left hvw), fp_b1t, if_neg (by decide), e54]
        · rw [em, m_X12_takeWay_56, if_pos (by decide), ew, if_pos hd, fp_b1t, if_neg (by decide), k13, l1, fp_b2t, m_X12_takeWay_82]
      · have hvw : ¬ v = w := fun z => hd (Or.inl z)
        have hdd : ¬ dup fa fb v w W = true := fun z => hd (Or.inr z)
        have a6 : fr2 (fun q j => (q = 2 ∧ j = 4) ∨ (q = 5 ∧ j = W) ∨ (q = 6 ∧ j = W)) s4 (fp_set (fp_set (fp_set s4 5 W (nI v)) 6 W (nI w)) 2 4 (nI (W + 1))) := fr2_tr (fr2_set (by omega)) (fr2_tr (fr2_set (by omega)) (fr2_set (by omega)))
        refine ⟨_, 0, u5, ?_, ?_, fr2_tr (fr2_mono fs (fun q j h => by omega)) (fr2_mono a6 (fun q j h => by omega)), fu, Or.inl ⟨rfl, e', q', v, w, by omega, g2, CP_fr C4 a6 (fun j _ _ z => by omega) (fun j z => by omega), D5, set_at _ _ _ _, kW, ?_, ?_, k128, k129, hv, hwT, hvw⟩⟩
        · rw [m_X6_readWay, r1, e1, fp_b2t, s23, e3, fp_b2t, if_pos z5, if_neg (by rw [nI_eq (by omega) (by omega)]; exact hvw), ej, if_neg hdd, fp_b1t, if_pos (by decide), m_X6_readWay_63, if_pos z5, c_addWay s44 hW, fp_b1t, m_X6_readWay_79]
        · rw [em, m_X12_takeWay_56, if_pos (by decide), ew, if_neg hd, fp_b1t, if_pos (by decide), m_X12_takeWay_81, m_X12_takeWay_82]
        · rw [set_off (by decide), set_off (by decide), set_at]
        · rw [set_off (by decide), set_at]
    · refine ⟨s4, f2, _, ?_, ?_, fr2_mono fs (fun q j h => by omega), fu, Or.inr (Dead_fr K (P := fun _ _ => False) fr2_rf b5 (fun j _ _ z => z) (fun j z => z) (by omega))⟩
      · rw [m_X6_readWay, r1, e1, fp_b2t, s23, e3, fp_b2t, if_neg (Dead_5 K), m_X6_readWay_63, if_neg (Dead_5 K), m_X6_readWay_79]
      · rw [em, m_X12_takeWay_56, if_neg (nI_ne0 hf (by omega)), m_X12_takeWay_81, m_X12_takeWay_82]
  · obtain ⟨y, s4, e3, K2, a4⟩ := Dead_num ht K (nI 0) (nI T - nI 1)
    refine ⟨s4, f1, fp_set u2 128 W (u2 120 12), ?_, ?_, fr2_tr (fr2_mono a2 (fun q j h => by omega)) (fr2_mono a4 (fun q j h => by omega)), fr2_tr (fr2_mono b1 (fun q j h => by omega)) (fr2_tr (fr2_mono b2 (fun q j h => by omega)) (fr2_mono b3 (fun q j h => by omega))), Or.inr (Dead_fr K2 (P := fun _ _ => False) fr2_rf b3 (fun j _ _ z => z) (fun j z => z) (by omega))⟩
    · rw [m_X6_readWay, r1, e1, fp_b2t, s23, e3, fp_b2t, if_neg (Dead_5 K2), m_X6_readWay_63, if_neg (Dead_5 K2), m_X6_readWay_79]
    · rw [m_X12_takeWay, r4, fp_ltt, nI_add, fp_ltt, t1, m_into e2 hW (by decide), fp_b2t, if_neg (nI_nle hf (by omega)), m_X12_takeWay_56, if_neg (nI_ne0 hf (by omega)), m_X12_takeWay_81, m_X12_takeWay_82]
/-- the ';' -/
theorem k_end (ht : TX c len) (hp : p ≤ len) (C : CP c len s p na 0 pl) (D : MP c len u p pl) :
    ∃ s' r u', m_X6_readEnd s = some s' ∧ m_X12_takeClause_161 (nI 0) u = some (nI r, u') ∧ fr2 (fun q j => q = 1 ∧ 3 ≤ j ∧ j ≤ 6) s s' ∧ fr2 (fun q j => q = 120 ∧ 10 ≤ j ∧ j ≤ 11) u u' ∧
      ((r = 0 ∧ ∃ e, p < e ∧ e ≤ len ∧ CP c len s' e na 0 pl ∧ MP c len u' e pl) ∨ Dd s' u' r) := by
  obtain ⟨q, hq⟩ := RunE c len isBl _ p rfl
  have hl := ht.1
  have hql := Run_le hq hp
  obtain ⟨s1, e1, C1, a1⟩ := c_skip ht hp C hq
  obtain ⟨u1, e2, D1, b1⟩ := m_here ht hp D hq
  by_cases h : q < len ∧ c q = 59
  · obtain ⟨g1, g2⟩ := CP_at C1 (q + 1)
    obtain ⟨l1, l2⟩ := MP_at D1 (q + 1)
    refine ⟨_, 0, _, ?_, ?_, fr2_tr (fr2_mono a1 (fun q j h => by omega)) (fr2_mono g2 (fun q j h => by omega)), fr2_tr (fr2_mono b1 (fun q j h => by omega)) (fr2_mono l2 (fun q j h => by omega)), Or.inl ⟨rfl, q + 1, by have := hq.1; omega, h.1, g1, l1⟩⟩
    · rw [m_X6_readEnd, e1, fp_b1t, c_lh_y ht C1 h.1, fp_b1t, h.2, if_pos rfl, m_X6_readEnd_22, C1.2.1, nI_add, fp_ltt]
    · rw [m_X12_takeClause_161, if_pos (by decide), e2, fp_b2t, ltr, if_pos h.1, h.2, if_pos rfl, m_X12_takeClause_187, D1.2.2.1, nI_add, fp_ltt]
  · obtain ⟨s2, k1, k2, k3⟩ := c_fails C1 1 (nI q) (by decide)
    rw [if_pos rfl, if_pos rfl] at k2
    obtain ⟨l1, l2, l3⟩ := m_fails D1 (nI 1) (nI q)
    obtain ⟨g1, g2⟩ := CP_at k2 (q + 1)
    refine ⟨_, 1, _, ?_, ?_, fr2_tr (fr2_mono a1 (fun q j h => by omega)) (fr2_tr (fr2_mono k3 (fun q j h => by omega)) (fr2_mono g2 (fun q j h => by omega))), fr2_tr (fr2_mono b1 (fun q j h => by omega)) (fr2_mono l3 (fun q j h => by omega)), Or.inr ⟨by decide, by decide, g1.2.2.2.1, by rw [g1.2.2.2.2.1, set_at]⟩⟩
    · by_cases hx : q < len
      · rw [m_X6_readEnd, e1, fp_b1t, c_lh_y ht C1 hx, fp_b1t, if_neg (by rw [nI_eq (by have := ht.2 q hx; omega) (by decide)]; exact fun z => h ⟨hx, z⟩), C1.2.1, k1, fp_b1t, m_X6_readEnd_22, k2.2.1, nI_add, fp_ltt]
      · rw [m_X6_readEnd, e1, fp_b1t, c_lh_n ht C1 (by omega) (by omega), fp_b1t, if_neg (by decide), C1.2.1, k1, fp_b1t, m_X6_readEnd_22, k2.2.1, nI_add, fp_ltt]
    · rw [m_X12_takeClause_161, if_pos (by decide), e2, fp_b2t, ltr]
      by_cases hx : q < len
      · rw [if_pos hx, if_neg (by rw [nI_eq (by have := ht.2 q hx; omega) (by decide)]; exact fun z => h ⟨hx, z⟩), D1.2.2.1, l1, fp_b2t]
      · rw [if_neg hx, if_neg (by decide), D1.2.2.1, l1, fp_b2t]
theorem k_endD (ht : TX c len) {r : Nat} (K : Dead c len s u r) : ∃ s' u', m_X6_readEnd s = some s' ∧ m_X12_takeClause_161 (nI r) u = some (nI r, u') ∧ fr2 (fun q j => q = 1 ∧ 3 ≤ j ∧ j ≤ 6) s s' ∧ fr2 (fun q j => q = 120 ∧ 10 ≤ j ∧ j ≤ 11) u u' ∧ Dd s' u' r := by
  obtain ⟨hr, hr4, p, na, pl, hp, C, e⟩ := K
  obtain ⟨q, hq⟩ := RunE c len isBl _ p rfl
  have hl := ht.1
  have hql := Run_le hq hp
  obtain ⟨s1, e1, C1, a1⟩ := c_skip ht hp C hq
  obtain ⟨s2, k1, k2, k3⟩ := c_fails C1 1 (nI q) (by omega)
  rw [if_neg (by omega), if_neg (by omega)] at k2
  have em : m_X12_takeClause_161 (nI r) u = some (nI r, fp_set u 120 11 (u 120 11 + nI 1)) := by
    rw [m_X12_takeClause_161, if_neg (nI_ne0 hr (by omega)), m_X12_takeClause_187, fp_ltt]
  have b2 : fr2 (fun q j => q = 120 ∧ j = 11) u (fp_set u 120 11 (u 120 11 + nI 1)) := fr2_set ⟨rfl, rfl⟩
  have fin : ∀ s3, CP c len s3 q na r pl → fr2 (fun q j => q = 1 ∧ 3 ≤ j ∧ j ≤ 6) s s3 → (m_X6_readEnd s = m_X6_readEnd_22 s3) → ∃ s' u', m_X6_readEnd s = some s' ∧ m_X12_takeClause_161 (nI r) u = some (nI r, u') ∧ fr2 (fun q j => q = 1 ∧ 3 ≤ j ∧ j ≤ 6) s s' ∧ fr2 (fun q j => q = 120 ∧ 10 ≤ j ∧ j ≤ 11) u u' ∧ Dd s' u' r := by
    intro s3 C3 a3 e3
    obtain ⟨g1, g2⟩ := CP_at C3 (q + 1)
    refine ⟨_, _, ?_, em, fr2_tr a3 (fr2_mono g2 (fun q j h => by omega)), fr2_mono b2 (fun q j h => by omega), hr, hr4, g1.2.2.2.1, by rw [g1.2.2.2.2.1, b2 120 10 (by omega), e]⟩
    rw [e3, m_X6_readEnd_22, C3.2.1, nI_add, fp_ltt]
  by_cases h : q < len ∧ c q = 59
  · exact fin s1 C1 (fr2_mono a1 (fun q j h => by omega)) (by rw [m_X6_readEnd, e1, fp_b1t, c_lh_y ht C1 h.1, fp_b1t, h.2, if_pos rfl])
  · refine fin s2 k2 (fr2_tr (fr2_mono a1 (fun q j h => by omega)) (fr2_mono k3 (fun q j h => by omega))) ?_
    by_cases hx : q < len
    · rw [m_X6_readEnd, e1, fp_b1t, c_lh_y ht C1 hx, fp_b1t, if_neg (by rw [nI_eq (by have := ht.2 q hx; omega) (by decide)]; exact fun z => h ⟨hx, z⟩), C1.2.1, k1, fp_b1t]
    · rw [m_X6_readEnd, e1, fp_b1t, c_lh_n ht C1 (by omega) (by omega), fp_b1t, if_neg (by decide), C1.2.1, k1, fp_b1t]
end CLS2

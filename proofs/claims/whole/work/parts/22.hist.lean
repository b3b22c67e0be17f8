/-! what could be undone: the program's ring of states, the model's rows one behind another -/
theorem q_mod {a : Nat} (h : a < 2 ^ 31) : nI a - nI a / nI 20 * nI 20 = nI (a % 20) := pk_rem h (by decide) (by decide)
theorem c_push {M : fp_Mem} {c nx : Nat} {f : Nat → Int32} (hc : c ≤ 20) (hx : nx < 20) (h0 : M 48 0 = nI c) (h1 : M 48 1 = nI nx) (hS : SR M 13 f) :
    ∃ M', m_X4_push M 13 = some M' ∧ fr (fun q => q = 48 ∨ (50 + 3 * nx ≤ q ∧ q < 53 + 3 * nx)) M M' ∧ SR M' (50 + 3 * nx) f ∧ M' 48 1 = nI ((nx + 1) % 20) ∧ M' 48 0 = nI (if c < 20 then c + 1 else 20) := by
  obtain ⟨M1, hb, hS1, hf⟩ := c_becomes (k := 50 + 3 * nx) hS (by omega)
  have e0 : M1 48 0 = nI c := by rw [hf 48 (by omega)]; exact h0
  have e1 : M1 48 1 = nI nx := by rw [hf 48 (by omega)]; exact h1
  refine ⟨fp_set (fp_set M1 48 1 (nI ((nx + 1) % 20))) 48 0 (nI (if c < 20 then c + 1 else 20)), ?_, ?_, ?_, ?_, ?_⟩
  · rw [m_X4_push, h1, if_neg (nI_pos (by omega)), if_pos (nI_lt hx (by decide)), fp_inN hx (by decide), fp_gdt, q_cl (by omega), hb, fp_b1t, e1, nI_add, q_mod (by omega), fp_ltt, fp_ltt, set_ne (by decide), e0, nI_add]
    have e : (if nI (c + 1) < nI 20 then nI (c + 1) else nI 20) = nI (if c < 20 then c + 1 else 20) := by
      by_cases h : c + 1 < 20
      · rw [if_pos (nI_lt h (by decide)), if_pos (by omega)]
      · rw [if_neg (by rw [q_lt (by omega) (by decide)]; exact h)]
        by_cases h2 : c < 20
        · rw [if_pos h2, show c + 1 = 20 by omega]
        · rw [if_neg h2]
    rw [e]
  · exact fr_tr (fr_mono hf (fun q h => by omega)) (fr_tr (fr_set (Or.inl rfl)) (fr_set (Or.inl rfl)))
  · unfold SR
    rw [fp_set_ne (by omega), fp_set_ne (by omega), fp_set_ne (by omega), fp_set_ne (by omega), fp_set_ne (by omega), fp_set_ne (by omega)]
    exact hS1
  · rw [set_ne (by decide), set_at]
  · rw [set_at]
/-- the model's row, one behind the others -/
theorem m_rem52 {M : fp_Mem} {c : Nat} (hc : c < 20) (h0 : M 120 23 = nI c) : ∃ M', m_X12_remember_52 fp_fu (nI 0) M = some M' ∧ fr (fun q => q = 131 ∨ q = 120) M M' ∧ (∀ j, j ≠ 23 → M' 120 j = M 120 j) ∧ M' 120 23 = nI (c + 1) ∧ (∀ j, M' 131 j = if 25 * c ≤ j ∧ j < 25 * c + 25 then M 123 (j - 25 * c) else M 131 j) := by
  obtain ⟨n1, M1, ⟨i1, i2⟩, he⟩ := loopI (fun n i s => m_X12_remember_52 n (nI i) s) 25 (fun i s => fr (fun q => q = 131) M s ∧ ∀ j, s 131 j = if 25 * c ≤ j ∧ j < 25 * c + i then M 123 (j - 25 * c) else M 131 j) (by
    rintro n i s hi ⟨i1, i2⟩
    have e : s 120 23 = nI c := by rw [i1 120 (by decide)]; exact h0
    refine ⟨fp_set s 131 (25 * c + i) (M 123 i), ⟨fr_tr i1 (fr_set rfl), fun j => ?_⟩, ?_⟩
    · rw [set_q]
      by_cases h : j = 25 * c + i
      · rw [if_pos ⟨rfl, h⟩, if_pos (by omega), h, Nat.add_sub_cancel_left]
      · rw [if_neg (fun q => h q.2), i2]
        by_cases h2 : 25 * c ≤ j ∧ j < 25 * c + i
        · rw [if_pos h2, if_pos (by omega)]
        · rw [if_neg h2, if_neg (by omega)]
    · show m_X12_remember_52 (n + 1) (nI i) s = _
      rw [m_X12_remember_52, if_neg (nI_ge hi (by decide)), fp_inN hi (by decide), fp_gdt, e, pk_mul, nI_add, fp_inN (show 25 * c + i < 500 by omega) (by decide), fp_gdt, fp_ltt, fp_ltt, nI_add, q_cl (by omega), q_cl (by omega), i1 123 (by decide)]) 25 0 fp_fu M rfl (fu_lt (by decide)) ⟨fr_rf, fun j => by rw [if_neg (by omega)]⟩
  have e : M1 120 23 = nI c := by rw [i1 120 (by decide)]; exact h0
  refine ⟨fp_set M1 120 23 (nI (c + 1)), ?_, fr_tr (fr_mono i1 (fun q h => Or.inl h)) (fr_set (Or.inr rfl)), fun j hj => ?_, set_at _ _ _ _, fun j => ?_⟩
  · refine he.trans ?_
    show m_X12_remember_52 (n1 + 1) (nI 25) M1 = _
    rw [m_X12_remember_52, if_pos (nI_le (Nat.le_refl _) (by decide)), fp_ltt, e, nI_add]
  · rw [set_ne hj, i1 120 (by decide)]
  · rw [set_off (by decide), i2]
theorem m_remember {M : fp_Mem} {c : Nat} (hc : c ≤ 20) (h0 : M 120 23 = nI c) : ∃ M', m_X12_remember M = some M' ∧ fr (fun q => q = 131 ∨ q = 120) M M' ∧ (∀ j, j ≠ 23 → M' 120 j = M 120 j) ∧ M' 120 23 = nI (if c < 20 then c + 1 else 20) ∧ (∀ j, M' 131 j = if c < 20 then (if 25 * c ≤ j ∧ j < 25 * c + 25 then M 123 (j - 25 * c) else M 131 j) else (if j < 475 then M 131 (j + 25) else if j < 500 then M 123 (j - 475) else M 131 j)) := by
  by_cases h : c < 20
  · obtain ⟨M', a, b, d, e, f⟩ := m_rem52 h h0
    refine ⟨M', ?_, b, d, by rw [if_pos h]; exact e, fun j => by rw [if_pos h]; exact f j⟩
    rw [m_X12_remember, h0, if_neg (by rw [nI_eq (by omega) (by decide)]; omega), m_X12_remember_50, a]
  · obtain rfl : c = 20 := by omega
    obtain ⟨n1, M1, ⟨-, i1, i2⟩, he⟩ := loopI (fun n i s => m_X12_remember_12 n (nI i) s) 500 (fun i s => 25 ≤ i ∧ fr (fun q => q = 131) M s ∧ ∀ j, s 131 j = if j + 25 < i then M 131 (j + 25) else M 131 j) (by
      rintro n i s hi ⟨i0, i1, i2⟩
      refine ⟨fp_set s 131 (i - 25) (M 131 i), ⟨by omega, fr_tr i1 (fr_set rfl), fun j => ?_⟩, ?_⟩
      · rw [set_q]
        by_cases h : j = i - 25
        · rw [if_pos ⟨rfl, h⟩, if_pos (by omega), show j + 25 = i by omega]
        · rw [if_neg (fun q => h q.2), i2]
          by_cases h2 : j + 25 < i
          · rw [if_pos h2, if_pos (by omega)]
          · rw [if_neg h2, if_neg (by omega)]
      · show m_X12_remember_12 (n + 1) (nI i) s = _
        have hri : s 131 i = M 131 i := by rw [i2, if_neg (by omega)]
        rw [m_X12_remember_12, if_neg (nI_ge hi (by decide)), fp_inN hi (by decide), fp_gdt, q_sub i0, fp_inN (show i - 25 < 500 by omega) (by decide), fp_gdt, fp_ltt, fp_ltt, nI_add, q_cl (by omega), q_cl (by omega), hri]) 475 25 fp_fu M rfl (fu_lt (by decide)) ⟨Nat.le_refl _, fr_rf, fun j => by
        by_cases h2 : j + 25 < 25
        · omega
        · rw [if_neg h2]⟩
    have e20 : M1 120 23 = nI 20 := by rw [i1 120 (by decide)]; exact h0
    obtain ⟨M', a, b, d, e, f⟩ := m_rem52 (M := fp_set M1 120 23 (nI 19)) (c := 19) (by decide) (set_at _ _ _ _)
    refine ⟨M', ?_, ?_, ?_, ?_, ?_⟩
    · rw [m_X12_remember, h0, if_pos rfl]
      refine he.trans ?_
      show m_X12_remember_12 (n1 + 1) (nI 500) M1 = _
      rw [m_X12_remember_12, if_pos (nI_le (Nat.le_refl _) (by decide)), fp_ltt, e20, m_X12_remember_50, q_sub (by decide)]
      exact a
    · exact fr_tr (fr_mono i1 (fun q h => Or.inl h)) (fr_tr (fr_set (Or.inr rfl)) b)
    · intro j hj
      rw [d j hj, set_ne hj, i1 120 (by decide)]
    · rw [e, if_neg (by decide)]
    · intro j
      rw [f j, if_neg (show ¬ 20 < 20 by decide), set_off (show 123 ≠ 120 by decide), set_off (show 131 ≠ 120 by decide), i1 123 (by decide), i2]
      by_cases c1 : j < 475
      · rw [if_neg (by omega), if_pos c1, if_pos (by omega)]
      · rw [if_neg c1]
        by_cases c2 : j < 500
        · rw [if_pos (by omega), if_pos c2]
        · rw [if_neg (by omega), if_neg c2, if_neg (by omega)]
/-- both remember the state that is now -/
theorem both_push {M : fp_Mem} {nt : Nat} (hH : I_hist M nt) (hN : I_now M nt) : ∃ M1, m_X4_push M 13 = some M1 ∧ fr (fun q => q = 48 ∨ (50 ≤ q ∧ q < 110)) M M1 ∧
    ∀ M1' : fp_Mem, M1' 120 = M 120 → M1' 123 = M 123 → M1' 131 = M 131 → ∃ M2, m_X12_remember M1' = some M2 ∧ fr (fun q => q = 131 ∨ q = 120) M1' M2 ∧ (∀ j, j ≠ 23 → M2 120 j = M1' 120 j) ∧ (M1' 48 = M1 48 → (∀ q, 50 ≤ q → q < 110 → M1' q = M1 q) → I_hist M2 nt) := by
  obtain ⟨c, nx, hc, hx, h0, h1, h2, h3⟩ := hH
  obtain ⟨M1, p1, p2, p3, p4, p5⟩ := c_push hc hx h0 h2 hN.1
  refine ⟨M1, p1, fr_mono p2 (fun q h => by omega), fun M1' e120 e123 e131 => ?_⟩
  obtain ⟨M2, r1, r2, r3, r4, r5⟩ := m_remember (M := M1') hc (by rw [e120]; exact h1)
  refine ⟨M2, r1, r2, r3, fun e48 ecl => ?_⟩
  have g48 : M2 48 = M1 48 := (r2 48 (by decide)).trans e48
  have gcl : ∀ q, 50 ≤ q → q < 110 → M2 q = M1 q := fun q a b => (r2 q (by omega)).trans (ecl q a b)
  refine ⟨(if c < 20 then c + 1 else 20), (nx + 1) % 20, by split <;> omega, Nat.mod_lt _ (by decide), by rw [g48]; exact p5, r4, by rw [g48]; exact p4, ?_⟩
  have srM2 : ∀ (k : Nat) (f : Nat → Int32), 50 ≤ k → k + 2 < 110 → SR M1 k f → SR M2 k f := by
    intro k f a b h
    unfold SR at h ⊢
    rw [gcl k (by omega) (by omega), gcl (k + 1) (by omega) (by omega), gcl (k + 2) (by omega) (by omega)]
    exact h
  have srM1 : ∀ (k : Nat) (f : Nat → Int32), 50 ≤ k → k + 2 < 110 → (k + 3 ≤ 50 + 3 * nx ∨ 53 + 3 * nx ≤ k) → SR M k f → SR M1 k f := by
    intro k f a b d h
    exact SR_fr h p2 (by omega) (by omega) (by omega)
  intro j hj
  by_cases hc20 : c < 20
  · rw [if_pos hc20] at hj
    by_cases hjc : j < c
    · obtain ⟨g1, g2⟩ := h3 j hjc
      have hs : ((nx + 1) % 20 + 20 - (if c < 20 then c + 1 else 20) + j) % 20 = (nx + 20 - c + j) % 20 := by rw [if_pos hc20]; omega
      have hrow : ∀ i, i < 25 → M 131 (25 * j + i) = M2 131 (25 * j + i) := fun i hi => by rw [r5, if_pos hc20, if_neg (by omega), e131]
      rw [hs]
      have hm : (nx + 20 - c + j) % 20 < 20 := Nat.mod_lt _ (by decide)
      have hne : (nx + 20 - c + j) % 20 ≠ nx := by omega
      exact ⟨SR_congr (srM2 _ _ (by omega) (by omega) (srM1 _ _ (by omega) (by omega) (by omega) g1)) hrow, SV_congr g2 hrow⟩
    · obtain rfl : j = c := by omega
      have hs : ((nx + 1) % 20 + 20 - (if j < 20 then j + 1 else 20) + j) % 20 = nx := by rw [if_pos hc20]; omega
      have hrow : ∀ i, i < 25 → M 123 i = M2 131 (25 * j + i) := fun i hi => by rw [r5, if_pos hc20, if_pos (by omega), Nat.add_sub_cancel_left, e123]
      rw [hs]
      exact ⟨SR_congr (srM2 _ _ (by omega) (by omega) p3) hrow, SV_congr hN.2 hrow⟩
  · obtain rfl : c = 20 := by omega
    rw [if_neg hc20] at hj
    by_cases hj19 : j < 19
    · obtain ⟨g1, g2⟩ := h3 (j + 1) (by omega)
      have hs : ((nx + 1) % 20 + 20 - (if 20 < 20 then 20 + 1 else 20) + j) % 20 = (nx + 20 - 20 + (j + 1)) % 20 := by rw [if_neg (by decide)]; omega
      have hrow : ∀ i, i < 25 → M 131 (25 * (j + 1) + i) = M2 131 (25 * j + i) := fun i hi => by rw [r5, if_neg (by decide), if_pos (by omega), e131, show 25 * j + i + 25 = 25 * (j + 1) + i by omega]
      rw [hs]
      have hm : (nx + 20 - 20 + (j + 1)) % 20 < 20 := Nat.mod_lt _ (by decide)
      have hne : (nx + 20 - 20 + (j + 1)) % 20 ≠ nx := by omega
      exact ⟨SR_congr (srM2 _ _ (by omega) (by omega) (srM1 _ _ (by omega) (by omega) (by omega) g1)) hrow, SV_congr g2 hrow⟩
    · obtain rfl : j = 19 := by omega
      have hs : ((nx + 1) % 20 + 20 - (if 20 < 20 then 20 + 1 else 20) + 19) % 20 = nx := by rw [if_neg (by decide)]; omega
      have hrow : ∀ i, i < 25 → M 123 i = M2 131 (25 * 19 + i) := fun i hi => by rw [r5, if_neg (by decide), if_neg (by omega), if_pos (by omega), e123, show 25 * 19 + i - 475 = i by omega]
      rw [hs]
      exact ⟨SR_congr (srM2 _ _ (by omega) (by omega) p3) hrow, SV_congr hN.2 hrow⟩

/-! the text becomes the realm -/
theorem k_reads {c : Nat → Nat} {len : Nat} {M u : fp_Mem} (ht : TX c len) (h1 : M 1 2 = nI len) (h2 : ∀ j, j < len → M 7 j = nI (c j)) (g1 : u 120 9 = nI len) (g2 : ∀ j, j < len → u 124 j = nI (c j)) :
    ∃ x S f u', m_X6_reads M = some (x, S) ∧ m_X12_realm u = m_X12_realm_46 (nI f) u' ∧ fr2 (fun q j => (q = 1 ∧ 2 ≤ j ∧ j ≤ 6) ∨ (2 ≤ q ∧ q ≤ 6)) M S ∧ fr2 Pm u u' ∧ S 1 2 = nI 0 ∧ ((f = 0 ∧ x = nI 1 ∧ S 1 6 = u' 120 10 ∧ ∃ th T W fa fb, LV S u' th T W fa fb) ∨ (Dd S u' f ∧ x = nI 0)) := by
  have hlt := ht.1
  generalize hs : fp_set (fp_set (fp_set (fp_set (fp_set (fp_set (fp_set (fp_set (fp_set M 1 3 (nI 0)) 1 4 (nI 0)) 1 5 (nI 0)) 1 6 (-1 : Int32)) 2 0 (nI 0)) 2 1 (nI 0)) 2 2 (nI 0)) 2 3 (nI 0)) 2 4 (nI 0) = s
  have a1 : fr2 (fun q j => (q = 1 ∧ 3 ≤ j ∧ j ≤ 6) ∨ (q = 2 ∧ j ≤ 4)) M s := by
    rw [← hs]
    exact fr2_tr (fr2_set (by omega)) (fr2_tr (fr2_set (by omega)) (fr2_tr (fr2_set (by omega)) (fr2_tr (fr2_set (by omega)) (fr2_tr (fr2_set (by omega)) (fr2_tr (fr2_set (by omega)) (fr2_tr (fr2_set (by omega)) (fr2_tr (fr2_set (by omega)) (fr2_set (by omega)))))))))
  have v : ∀ q j, s q j = if q = 2 ∧ j = 4 then nI 0 else if q = 2 ∧ j = 3 then nI 0 else if q = 2 ∧ j = 2 then nI 0 else if q = 2 ∧ j = 1 then nI 0 else if q = 2 ∧ j = 0 then nI 0 else if q = 1 ∧ j = 6 then (-1 : Int32) else if q = 1 ∧ j = 5 then nI 0 else if q = 1 ∧ j = 4 then nI 0 else if q = 1 ∧ j = 3 then nI 0 else M q j := fun q j => by
    rw [← hs, set_q, set_q, set_q, set_q, set_q, set_q, set_q, set_q, set_q]
  have C : CP c len s 0 0 0 (-1 : Int32) := ⟨by rw [a1 1 2 (by omega)]; exact h1, by rw [v]; simp, by rw [v]; simp, by rw [v]; simp, by rw [v]; simp, fun j hj => by rw [a1 7 j (by omega)]; exact h2 j hj⟩
  generalize hw : fp_set (fp_set (fp_set (fp_set (fp_set u 120 10 (-1 : Int32)) 120 11 (nI 0)) 120 14 (nI 0)) 120 16 (nI 0)) 120 19 (nI 0) = w
  have b1 : fr2 Pm u w := by
    rw [← hw]
    exact fr2_tr (fr2_set (by unfold Pm; omega)) (fr2_tr (fr2_set (by unfold Pm; omega)) (fr2_tr (fr2_set (by unfold Pm; omega)) (fr2_tr (fr2_set (by unfold Pm; omega)) (fr2_set (by unfold Pm; omega)))))
  have vw : ∀ q j, w q j = if q = 120 ∧ j = 19 then nI 0 else if q = 120 ∧ j = 16 then nI 0 else if q = 120 ∧ j = 14 then nI 0 else if q = 120 ∧ j = 11 then nI 0 else if q = 120 ∧ j = 10 then (-1 : Int32) else u q j := fun q j => by
    rw [← hw, set_q, set_q, set_q, set_q, set_q]
  have D : MP c len w 0 (-1 : Int32) := ⟨by rw [vw]; simp; exact g1, by rw [vw]; simp, by rw [vw]; simp, fun j hj => by rw [vw]; simp; exact g2 j hj⟩
  have L : LV s w 0 0 0 (fun _ => 0) (fun _ => 0) := ⟨by decide, by decide, by decide, fun _ => ⟨rfl, rfl, by rw [v]; simp, by rw [v]; simp⟩, by rw [v]; simp, by rw [vw]; simp, (fun z => nomatch z), by rw [v]; simp, by rw [vw]; simp, by rw [v]; simp, by rw [vw]; simp, fun t ht => absurd ht (Nat.not_lt_zero t), fun t ht => absurd ht (Nat.not_lt_zero t)⟩
  obtain ⟨s', u', f, k1, k2, k3, k4, k5⟩ := k_loop ht len 0 0 fp_fu fp_fu s w 0 0 0 0 _ _ (Nat.le_refl _) (Nat.zero_le _) (Nat.le_refl _) (fu_lt (by decide)) (fu_lt (by omega)) C D L
  have e1 : m_X6_reads M = m_X6_reads_68 s' := by
    rw [← k1, m_X6_reads, fp_ltt, fp_ltt, fp_ltt, fp_ltt, m_X7_forget, fp_ltt, fp_ltt, fp_ltt, fp_ltt, fp_ltt, fp_b1t, hs]
  have e2 : m_X12_realm u = m_X12_realm_46 (nI f) u' := by
    rw [← k2, m_X12_realm, fp_ltt, fp_ltt, fp_ltt, fp_ltt, fp_ltt, hw]
  have z : fr2 (fun q j => q = 1 ∧ j = 2) s' (fp_set s' 1 2 (nI 0)) := fr2_set ⟨rfl, rfl⟩
  have fS : fr2 (fun q j => (q = 1 ∧ 2 ≤ j ∧ j ≤ 6) ∨ (2 ≤ q ∧ q ≤ 6)) M (fp_set s' 1 2 (nI 0)) := fr2_tr (fr2_mono a1 (fun q j h => by omega)) (fr2_tr (fr2_mono k3 (fun q j h => by unfold Pc at h; omega)) (fr2_mono z (fun q j h => by omega)))
  rcases k5 with ⟨rfl, x1, x2, x3, th, T, W, fa, fb, x4⟩ | K
  · refine ⟨nI 1, _, 0, u', ?_, e2, fS, fr2_tr b1 k4, set_at _ _ _ _, Or.inl ⟨rfl, rfl, ?_, th, T, W, fa, fb, LV_fr x4 z (Q := fun _ _ => False) fr2_rf (fun q j _ _ z => by omega) (fun q j _ _ z => z) (fun j _ z => z)⟩⟩
    · rw [e1, m_X6_reads_68, fp_ltt, set_ne (by decide), x1, if_pos (by decide), m_X6_reads_85]
      rfl
    · rw [set_ne (by decide), x2, x3]
  · refine ⟨nI 0, _, f, u', ?_, e2, fS, fr2_tr b1 k4, set_at _ _ _ _, Or.inr ⟨⟨K.1, K.2.1, ?_, ?_⟩, rfl⟩⟩
    · rw [e1, m_X6_reads_68, fp_ltt, set_ne (by decide), if_neg (Dd_5 K), m_X6_reads_85]
      rfl
    · rw [set_ne (by decide)]
      exact K.2.2.1
    · rw [set_ne (by decide)]
      exact K.2.2.2
/-- the realm is taken over -/
theorem c_rbec {M : fp_Mem} (h0 : fp_zb (M 2 0) = true) : ∃ M', m_X7_becomes M 8 2 = some M' ∧ fr (fun q => 8 ≤ q ∧ q < 13) M M' ∧ (∀ j, j < 5 → M' 8 j = M 2 j) ∧ (∀ t, t < 9 → M' 9 t = M 3 t ∧ M' 10 t = M 4 t) ∧ ∀ w, w < 14 → M' 11 w = M 5 w ∧ M' 12 w = M 6 w := by
  generalize hs : fp_set (fp_set (fp_set (fp_set (fp_set M 8 0 (M 2 0)) 8 1 (M 2 1)) 8 2 (M 2 2)) 8 3 (M 2 3)) 8 4 (M 2 4) = s0
  have a0 : fr (fun q => q = 8) M s0 := by
    rw [← hs]
    exact fr_tr (fr_set rfl) (fr_tr (fr_set rfl) (fr_tr (fr_set rfl) (fr_tr (fr_set rfl) (fr_set rfl))))
  have v0 : ∀ j, j < 5 → s0 8 j = M 2 j := by
    intro j hj
    rw [← hs, set_q, set_q, set_q, set_q, set_q]
    rcases (by omega : j = 0 ∨ j = 1 ∨ j = 2 ∨ j = 3 ∨ j = 4) with rfl | rfl | rfl | rfl | rfl <;> simp
  obtain ⟨n1, s1, ⟨i1, i2⟩, he1⟩ := loopI (fun n i s => m_X7_becomes_42 8 2 n (nI i) s) 9 (fun i s => fr (fun q => q = 9 ∨ q = 10) s0 s ∧ ∀ t, t < i → s 9 t = M 3 t ∧ s 10 t = M 4 t) (by
    rintro n i s hi ⟨i1, i2⟩
    refine ⟨fp_set (fp_set s 9 i (M 3 i)) 10 i (M 4 i), ⟨fr_tr i1 (fr_tr (fr_set (Or.inl rfl)) (fr_set (Or.inr rfl))), fun t ht => ?_⟩, ?_⟩
    · rw [set_off (by decide), set_q s, set_q _ 10, set_off (by decide)]
      by_cases e : t = i
      · subst e
        simp
      · rw [if_neg (by simp [e]), if_neg (by simp [e])]
        exact i2 t (by omega)
    · show m_X7_becomes_42 8 2 (n + 1) (nI i) s = _
      rw [m_X7_becomes_42, if_neg (nI_ge hi (by decide)), fp_inN hi (by decide), fp_gdt, fp_gdt, fp_ltt, fp_gdt, fp_gdt, fp_ltt, fp_ltt, nI_add, q_cl (by omega), set_off (by decide), i1 3 (by decide), i1 4 (by decide), a0 3 (by decide), a0 4 (by decide)]) 9 0 fp_fu s0 rfl (fu_lt (by decide)) ⟨fr_rf, fun t ht => absurd ht (Nat.not_lt_zero t)⟩
  obtain ⟨n2, s2, ⟨l1, l2⟩, he2⟩ := loopI (fun n i s => m_X7_becomes_80 8 2 n (nI i) s) 14 (fun i s => fr (fun q => q = 11 ∨ q = 12) s1 s ∧ ∀ t, t < i → s 11 t = M 5 t ∧ s 12 t = M 6 t) (by
    rintro n i s hi ⟨l1, l2⟩
    refine ⟨fp_set (fp_set s 11 i (M 5 i)) 12 i (M 6 i), ⟨fr_tr l1 (fr_tr (fr_set (Or.inl rfl)) (fr_set (Or.inr rfl))), fun t ht => ?_⟩, ?_⟩
    · rw [set_off (by decide), set_q s, set_q _ 12, set_off (by decide)]
      by_cases e : t = i
      · subst e
        simp
      · rw [if_neg (by simp [e]), if_neg (by simp [e])]
        exact l2 t (by omega)
    · show m_X7_becomes_80 8 2 (n + 1) (nI i) s = _
      rw [m_X7_becomes_80, if_neg (nI_ge hi (by decide)), fp_inN hi (by decide), fp_gdt, fp_gdt, fp_ltt, fp_gdt, fp_gdt, fp_ltt, fp_ltt, nI_add, q_cl (by omega), set_off (by decide), l1 5 (by decide), l1 6 (by decide), i1 5 (by decide), i1 6 (by decide), a0 5 (by decide), a0 6 (by decide)]) 14 0 fp_fu s1 rfl (fu_lt (by decide)) ⟨fr_rf, fun t ht => absurd ht (Nat.not_lt_zero t)⟩
  refine ⟨s2, ?_, fr_tr (fr_mono a0 (fun q h => by omega)) (fr_tr (fr_mono i1 (fun q h => by omega)) (fr_mono l1 (fun q h => by omega))), fun j hj => ?_, fun t ht => ?_, l2⟩
  · rw [m_X7_becomes, h0, fp_gdt, fp_ltt, fp_ltt, fp_ltt, fp_ltt, fp_ltt]
    simp only [set_off (show 2 ≠ 8 by decide)]
    rw [hs]
    refine he1.trans ?_
    show m_X7_becomes_42 8 2 (n1 + 1) (nI 9) s1 = _
    rw [m_X7_becomes_42, if_pos (nI_le (Nat.le_refl _) (by decide))]
    refine he2.trans ?_
    show m_X7_becomes_80 8 2 (n2 + 1) (nI 14) s2 = _
    rw [m_X7_becomes_80, if_pos (nI_le (Nat.le_refl _) (by decide))]
  · rw [l1 8 (by decide), i1 8 (by decide)]
    exact v0 j hj
  · rw [l1 9 (by decide), l1 10 (by decide)]
    exact i2 t ht
theorem c_begins {M : fp_Mem} {T : Nat} (hT : T ≤ 9) (h3 : M 8 3 = nI T) : ∃ M', m_X9_begins M 13 8 = some M' ∧ fr (fun q => 13 ≤ q ∧ q < 16) M M' ∧ (∀ t, t < 9 → M' 14 t = (if t < T then M 9 t else nI 0) ∧ M' 15 t = (if t < T then M 10 t else nI 0)) ∧ M' 13 2 = M 8 2 ∧ ∀ j, 3 ≤ j → j ≤ 8 → M' 13 j = nI 0 := by
  obtain ⟨n1, s1, ⟨i1, i2⟩, he1⟩ := loopI (fun n i s => m_X9_begins_2 13 8 n (nI i) s) 9 (fun i s => fr (fun q => q = 14 ∨ q = 15) M s ∧ ∀ t, t < i → s 14 t = (if t < T then M 9 t else nI 0) ∧ s 15 t = (if t < T then M 10 t else nI 0)) (by
    rintro n i s hi ⟨i1, i2⟩
    have g3 : s 8 3 = nI T := by rw [i1 8 (by decide)]; exact h3
    refine ⟨fp_set (fp_set s 14 i (if i < T then M 9 i else nI 0)) 15 i (if i < T then M 10 i else nI 0), ⟨fr_tr i1 (fr_tr (fr_set (Or.inl rfl)) (fr_set (Or.inr rfl))), fun t ht => ?_⟩, ?_⟩
    · rw [set_off (by decide), set_q s, set_q _ 15, set_off (by decide)]
      by_cases e : t = i
      · subst e
        rw [if_pos (show 14 = 14 ∧ t = t from ⟨rfl, rfl⟩), if_pos (show 15 = 15 ∧ t = t from ⟨rfl, rfl⟩)]
        exact ⟨rfl, rfl⟩
      · rw [if_neg (show ¬ (14 = 14 ∧ t = i) from fun z => e z.2), if_neg (show ¬ (15 = 15 ∧ t = i) from fun z => e z.2)]
        exact i2 t (by omega)
    · show m_X9_begins_2 13 8 (n + 1) (nI i) s = _
      by_cases e : i < T
      · rw [m_X9_begins_2, if_neg (nI_ge hi (by decide)), c_hasTable_y g3 hT e, fp_b1t, if_neg (by decide), fp_inN hi (by decide), fp_gdt, m_X9_begins_33, fp_inN hi (by decide), fp_gdt, fp_ltt, if_neg (by decide), fp_gdt, m_X9_begins_53, fp_inN hi (by decide), fp_gdt, fp_ltt, fp_ltt, nI_add, q_cl (by omega), set_off (by decide), i1 (8 + 1) (by decide), i1 (8 + 2) (by decide), if_pos e, if_pos e]
      · rw [m_X9_begins_2, if_neg (nI_ge hi (by decide)), c_hasTable_n g3 (Or.inr ⟨nI_pos (by omega), nI_le (by omega) (by omega)⟩), fp_b1t, if_pos (by decide), m_X9_begins_33, fp_inN hi (by decide), fp_gdt, fp_ltt, if_pos (by decide), m_X9_begins_53, fp_inN hi (by decide), fp_gdt, fp_ltt, fp_ltt, nI_add, q_cl (by omega), if_neg e, if_neg e]) 9 0 fp_fu M rfl (fu_lt (by decide)) ⟨fr_rf, fun t ht => absurd ht (Nat.not_lt_zero t)⟩
  generalize hs : fp_set (fp_set (fp_set (fp_set (fp_set (fp_set (fp_set s1 13 2 (M 8 2)) 13 3 (nI 0)) 13 4 (nI 0)) 13 5 (nI 0)) 13 6 (nI 0)) 13 7 (nI 0)) 13 8 (nI 0) = s2
  have a2 : fr (fun q => q = 13) s1 s2 := by
    rw [← hs]
    exact fr_tr (fr_set rfl) (fr_tr (fr_set rfl) (fr_tr (fr_set rfl) (fr_tr (fr_set rfl) (fr_tr (fr_set rfl) (fr_tr (fr_set rfl) (fr_set rfl))))))
  refine ⟨s2, ?_, fr_tr (fr_mono i1 (fun q h => by omega)) (fr_mono a2 (fun q h => by omega)), fun t ht => ?_, ?_, fun j h3 h8 => ?_⟩
  · rw [m_X9_begins]
    refine he1.trans ?_
    show m_X9_begins_2 13 8 (n1 + 1) (nI 9) s1 = _
    rw [m_X9_begins_2, if_pos (nI_le (Nat.le_refl _) (by decide)), fp_ltt, fp_ltt, fp_ltt, fp_ltt, fp_ltt, fp_ltt, fp_ltt, i1 8 (by decide), hs]
  · rw [a2 14 (by decide), a2 15 (by decide)]
    exact i2 t ht
  · rw [← hs, set_ne (by decide), set_ne (by decide), set_ne (by decide), set_ne (by decide), set_ne (by decide), set_ne (by decide), set_at]
  · rw [← hs, set_q, set_q, set_q, set_q, set_q, set_q, set_q]
    rcases (by omega : j = 3 ∨ j = 4 ∨ j = 5 ∨ j = 6 ∨ j = 7 ∨ j = 8) with rfl | rfl | rfl | rfl | rfl | rfl <;> simp
theorem m_takeRead {u : fp_Mem} {th T W : Nat} (hth : th ≤ 1) (hT : T ≤ 9) (hW : W ≤ 14) (h14 : u 120 14 = nI th) (h16 : u 120 16 = nI T) (h19 : u 120 19 = nI W) :
    ∃ M', m_X12_takeRead u = some M' ∧ fr (fun q => 120 ≤ q ∧ q ≤ 123) u M' ∧ (∀ j, j ≠ 0 ∧ j ≠ 1 ∧ j ≠ 2 ∧ j ≠ 7 → M' 120 j = u 120 j) ∧ M' 120 7 = nI th ∧ M' 120 0 = (if th = 0 then nI 0 else u 125 0) ∧ M' 120 1 = nI T ∧ M' 120 2 = nI W ∧ (∀ w, w < W → M' 121 w = u 128 w ∧ M' 122 w = u 129 w) ∧
      (∀ j, j < 25 → M' 123 j = if j < T then u 126 j else if 9 ≤ j ∧ j < 9 + T then u 127 (j - 9) else if j = 18 then (if th = 0 then nI 0 else u 125 1) else nI 0) := by
  generalize hs : fp_set (fp_set (fp_set (fp_set u 120 7 (nI th)) 120 0 (if th = 0 then nI 0 else u 125 0)) 120 1 (nI T)) 120 2 (nI W) = s0
  have a0 : fr (fun q => q = 120) u s0 := by
    rw [← hs]
    exact fr_tr (fr_set rfl) (fr_tr (fr_set rfl) (fr_tr (fr_set rfl) (fr_set rfl)))
  have v0 : ∀ j, s0 120 j = if j = 2 then nI W else if j = 1 then nI T else if j = 0 then (if th = 0 then nI 0 else u 125 0) else if j = 7 then nI th else u 120 j := by
    intro j
    rw [← hs, set_q, set_q, set_q, set_q]
    simp
  have v1 : s0 120 1 = nI T := by rw [v0, if_neg (by decide), if_pos rfl]
  have est : m_X12_takeRead u = m_X12_takeRead_47 fp_fu (nI 0) s0 := by
    rw [m_X12_takeRead, h14]
    have z : fp_zb (nI th) = true := by
      rcases (by omega : th = 0 ∨ th = 1) with rfl | rfl <;> decide
    rw [z, fp_gdt, fp_ltt, set_ne (by decide), h14]
    have e26 : ∀ x, m_X12_takeRead_26 x (fp_set u 120 7 (nI th)) = m_X12_takeRead_47 fp_fu (nI 0) (fp_set (fp_set (fp_set (fp_set u 120 7 (nI th)) 120 0 x) 120 1 (nI T)) 120 2 (nI W)) := by
      intro x
      rw [m_X12_takeRead_26, fp_ltt, fp_ltt, fp_ltt, set_ne (by decide), set_ne (by decide), set_ne (by decide), set_ne (by decide), set_ne (by decide), h16, h19]
    by_cases h0 : th = 0
    · rw [if_pos (by rw [h0]; decide), e26, ← hs, if_pos h0]
    · rw [if_neg (nI_ne0 (by omega) (by omega)), show fp_in (nI 0) 2 = true by decide, fp_gdt, q_cl (by decide), set_off (by decide), e26, ← hs, if_neg h0]
  obtain ⟨n1, s1, ⟨i1, i2⟩, he1⟩ := loopI (fun n i s => m_X12_takeRead_47 n (nI i) s) W (fun i s => fr (fun q => q = 121 ∨ q = 122) s0 s ∧ ∀ t, t < i → s 121 t = u 128 t ∧ s 122 t = u 129 t) (by
    rintro n i s hi ⟨i1, i2⟩
    refine ⟨fp_set (fp_set s 121 i (u 128 i)) 122 i (u 129 i), ⟨fr_tr i1 (fr_tr (fr_set (Or.inl rfl)) (fr_set (Or.inr rfl))), fun t ht => ?_⟩, ?_⟩
    · rw [set_off (by decide), set_q s, set_q _ 122, set_off (by decide)]
      by_cases e : t = i
      · subst e
        simp
      · rw [if_neg (by simp [e]), if_neg (by simp [e])]
        exact i2 t (by omega)
    · show m_X12_takeRead_47 (n + 1) (nI i) s = _
      rw [m_X12_takeRead_47, i1 120 (by decide), v0, if_pos rfl, if_neg (nI_ge hi (by omega)), fp_inN (show i < 14 by omega) (by decide), fp_gdt, fp_gdt, fp_ltt, fp_gdt, fp_gdt, fp_ltt, fp_ltt, nI_add, q_cl (by omega), set_off (by decide), i1 128 (by decide), i1 129 (by decide), a0 128 (by decide), a0 129 (by decide)]) W 0 fp_fu s0 (by omega) (fu_lt (by omega)) ⟨fr_rf, fun t ht => absurd ht (Nat.not_lt_zero t)⟩
  obtain ⟨n2, s2, ⟨l1, l2⟩, he2⟩ := loopI (fun n i s => m_X12_takeRead_87 n (nI i) s) 25 (fun i s => fr (fun q => q = 123) s1 s ∧ ∀ j, j < i → s 123 j = nI 0) (by
    rintro n i s hi ⟨l1, l2⟩
    refine ⟨fp_set s 123 i (nI 0), ⟨fr_tr l1 (fr_set rfl), fun j hj => ?_⟩, ?_⟩
    · rw [set_q]
      by_cases e : j = i
      · rw [if_pos ⟨rfl, e⟩]
      · rw [if_neg (fun z => e z.2)]
        exact l2 j (by omega)
    · show m_X12_takeRead_87 (n + 1) (nI i) s = _
      rw [m_X12_takeRead_87, if_neg (nI_ge hi (by decide)), fp_inN hi (by decide), fp_gdt, fp_ltt, fp_ltt, nI_add, q_cl (by omega)]) 25 0 fp_fu s1 rfl (fu_lt (by decide)) ⟨fr_rf, fun t ht => absurd ht (Nat.not_lt_zero t)⟩
  have back : ∀ s, fr (fun q => q = 123) s2 s → (∀ j, s 120 j = s0 120 j) ∧ (∀ q, 125 ≤ q → s q = u q) := fun s hs2 => ⟨fun j => by rw [hs2 120 (by decide), l1 120 (by decide), i1 120 (by decide)], fun q hq => by rw [hs2 q (by omega), l1 q (by omega), i1 q (by omega), a0 q (by omega)]⟩
  obtain ⟨n3, s3, ⟨m1, m2⟩, he3⟩ := loopI (fun n i s => m_X12_takeRead_108 n (nI i) s) T (fun i s => fr (fun q => q = 123) s2 s ∧ ∀ j, j < 25 → s 123 j = if j < i then u 126 j else if 9 ≤ j ∧ j < 9 + i then u 127 (j - 9) else nI 0) (by
    rintro n i s hi ⟨m1, m2⟩
    refine ⟨fp_set (fp_set s 123 i (u 126 i)) 123 (9 + i) (u 127 i), ⟨fr_tr m1 (fr_tr (fr_set rfl) (fr_set rfl)), fun j hj => ?_⟩, ?_⟩
    · rw [set_q, set_q]
      by_cases e : j = 9 + i
      · rw [if_pos ⟨rfl, e⟩, if_neg (by omega), if_pos (by omega), e, Nat.add_sub_cancel_left]
      · rw [if_neg (fun z => e z.2)]
        by_cases e2 : j = i
        · rw [if_pos ⟨rfl, e2⟩, if_pos (by omega), e2]
        · rw [if_neg (fun z => e2 z.2), m2 j hj]
          by_cases e3 : j < i
          · rw [if_pos e3, if_pos (by omega)]
          · rw [if_neg e3, if_neg (show ¬ j < i + 1 by omega)]
            by_cases e4 : 9 ≤ j ∧ j < 9 + i
            · rw [if_pos e4, if_pos (by omega)]
            · rw [if_neg e4, if_neg (by omega)]
    · show m_X12_takeRead_108 (n + 1) (nI i) s = _
      obtain ⟨w1, w2⟩ := back s m1
      rw [m_X12_takeRead_108, w1, v1, if_neg (nI_ge hi (by omega)), fp_inN (show i < 9 by omega) (by decide), fp_inN (show i < 25 by omega) (by decide), fp_gdt, fp_gdt, fp_ltt, nI_add, fp_gdt, fp_inN (show 9 + i < 25 by omega) (by decide), fp_gdt, fp_ltt, fp_ltt, nI_add, q_cl (by omega), q_cl (by omega), set_off (by decide), w2 126 (by decide), w2 127 (by decide)]) T 0 fp_fu s2 (by omega) (fu_lt (by omega)) ⟨fr_rf, fun j hj => by rw [l2 j hj, if_neg (by omega), if_neg (by omega)]⟩
  obtain ⟨w1, w2⟩ := back s3 m1
  refine ⟨fp_set s3 123 18 (if th = 0 then nI 0 else u 125 1), ?_, ?_, fun j hj => ?_, ?_, ?_, ?_, ?_, fun w hw => ?_, fun j hj => ?_⟩
  · rw [est]
    refine he1.trans ?_
    show m_X12_takeRead_47 (n1 + 1) (nI W) s1 = _
    rw [m_X12_takeRead_47, i1 120 (by decide), v0, if_pos rfl, if_pos (nI_le (Nat.le_refl _) (by omega))]
    refine he2.trans ?_
    show m_X12_takeRead_87 (n2 + 1) (nI 25) s2 = _
    rw [m_X12_takeRead_87, if_pos (nI_le (Nat.le_refl _) (by decide))]
    refine he3.trans ?_
    show m_X12_takeRead_108 (n3 + 1) (nI T) s3 = _
    have e172 : ∀ x, m_X12_takeRead_172 (nI 18) x s3 = some (fp_set s3 123 18 x) := fun x => by
      rw [m_X12_takeRead_172, show fp_in (nI 18) 25 = true by decide, fp_gdt, fp_ltt, q_cl (by decide)]
    have e14 : s3 120 14 = nI th := by rw [w1, v0, if_neg (by decide), if_neg (by decide), if_neg (by decide), if_neg (by decide), h14]
    rw [m_X12_takeRead_108, e14, w1, v1, if_pos (nI_le (Nat.le_refl _) (by omega))]
    by_cases h0 : th = 0
    · rw [if_pos (by rw [h0]; decide), e172, if_pos h0]
    · rw [if_neg (nI_ne0 (by omega) (by omega)), show fp_in (nI 1) 2 = true by decide, fp_gdt, q_cl (by decide), w2 125 (by decide), e172, if_neg h0]
  · exact fr_tr (fr_mono a0 (fun q h => by omega)) (fr_tr (fr_mono i1 (fun q h => by omega)) (fr_tr (fr_mono l1 (fun q h => by omega)) (fr_tr (fr_mono m1 (fun q h => by omega)) (fr_set (by omega)))))
  · rw [set_off (by decide), w1, v0, if_neg hj.2.2.1, if_neg hj.2.1, if_neg hj.1, if_neg hj.2.2.2]
  · rw [set_off (by decide), w1, v0, if_neg (by decide), if_neg (by decide), if_neg (by decide), if_pos rfl]
  · rw [set_off (by decide), w1, v0, if_neg (by decide), if_neg (by decide), if_pos rfl]
  · rw [set_off (by decide), w1, v0, if_neg (by decide), if_pos rfl]
  · rw [set_off (by decide), w1, v0, if_pos rfl]
  · rw [set_off (by decide), set_off (by decide), m1 121 (by decide), m1 122 (by decide), l1 121 (by decide), l1 122 (by decide)]
    exact i2 w hw
  · rw [set_q]
    by_cases e : j = 18
    · rw [if_pos ⟨rfl, e⟩, if_neg (show ¬ j < T by omega), if_neg (show ¬ (9 ≤ j ∧ j < 9 + T) by omega), if_pos e]
    · rw [if_neg (fun z => e z.2), m2 j hj, if_neg e]

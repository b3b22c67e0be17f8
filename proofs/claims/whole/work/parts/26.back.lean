/-! undone, kept, gone back to -/
theorem m_undo22 {M : fp_Mem} {c : Nat} (hc : c < 20) (h0 : M 120 23 = nI c) : ∃ M', m_X12_undo_22 fp_fu (nI 0) M = some (nI c, M') ∧ fr (fun q => q = 123) M M' ∧ RW M' (fun j => M 131 (25 * c + j)) := by
  obtain ⟨n1, M1, ⟨i1, i2⟩, he⟩ := loopI (fun n i s => m_X12_undo_22 n (nI i) s) 25 (fun i s => fr (fun q => q = 123) M s ∧ ∀ j, j < i → s 123 j = M 131 (25 * c + j)) (by
    rintro n i s hi ⟨i1, i2⟩
    refine ⟨fp_set s 123 i (M 131 (25 * c + i)), ⟨fr_tr i1 (fr_set rfl), fun j hj => ?_⟩, ?_⟩
    · rw [set_q]
      by_cases h : j = i
      · rw [if_pos ⟨rfl, h⟩, h]
      · rw [if_neg (fun q => h q.2)]
        exact i2 j (by omega)
    · show m_X12_undo_22 (n + 1) (nI i) s = _
      have e : s 120 23 = nI c := by rw [i1 120 (by decide)]; exact h0
      rw [m_X12_undo_22, if_neg (nI_ge hi (by decide)), e, pk_mul, nI_add, fp_inN (show 25 * c + i < 500 by omega) (by decide), fp_gdt, fp_inN hi (by decide), fp_gdt, fp_ltt, fp_ltt, nI_add, q_cl (by omega), q_cl (by omega), i1 131 (by decide)]) 25 0 fp_fu M rfl (fu_lt (by decide)) ⟨fr_rf, fun j hj => absurd hj (Nat.not_lt_zero j)⟩
  refine ⟨M1, ?_, i1, fun j hj => i2 j hj⟩
  refine he.trans ?_
  show m_X12_undo_22 (n1 + 1) (nI 25) M1 = _
  rw [m_X12_undo_22, if_pos (nI_le (Nat.le_refl _) (by decide)), i1 120 (by decide), h0]
theorem st_undo {M : fp_Mem} (hI : fp_Inv M) : ok_undo M := by
  have hI0 := hI
  obtain ⟨nt, nw, fa, fb, hP⟩ := hI
  have hP0 := hP
  obtain ⟨h1, h2, h3, h4, h5, h6, h7, h8, h9⟩ := hP
  obtain ⟨c, nx, hc, hx, c0, m0, c1, hr⟩ := h8
  have emod : ((M 48 1 + nI 20) - nI 1) - ((M 48 1 + nI 20) - nI 1) / nI 20 * nI 20 = nI ((nx + 19) % 20) := by
    rw [c1, nI_add, q_sub (by omega), q_mod (by omega), show nx + 20 - 1 = nx + 19 by omega]
  by_cases hz : c = 0
  · refine ⟨(-1000000003 : Int32), M, M, ?_, ?_, hI0⟩
    · rw [m_X11_undo, m_X4_pop, emod, fp_ltt, c0, if_pos (by rw [hz]; decide), m_X4_pop_30, fp_b2t, if_pos (by decide)]
    · rw [m_X12_undo, m0, if_pos (by rw [hz]; rfl)]
  · obtain ⟨hs, hv⟩ := hr (c - 1) (by omega)
    have hnx : (nx + 20 - c + (c - 1)) % 20 = (nx + 19) % 20 := by rw [show nx + 20 - c + (c - 1) = nx + 19 by omega]
    rw [hnx] at hs
    have hm20 : (nx + 19) % 20 < 20 := Nat.mod_lt _ (by decide)
    generalize hX : (nx + 19) % 20 = x at emod hs hm20
    obtain ⟨M0, p1, s1, f1⟩ := c_becomes (k := 13) hs (by omega)
    have e0 : M0 48 0 = nI c := by rw [f1 48 (by omega)]; exact c0
    generalize hM1 : fp_set (fp_set M0 48 1 (nI x)) 48 0 (nI (c - 1)) = M1
    have f2 : fr (fun q => q = 48) M0 M1 := by rw [← hM1]; exact fr_tr (fr_set rfl) (fr_set rfl)
    have f3 : fr (fun q => (13 ≤ q ∧ q < 16) ∨ q = 48) M M1 := fr_tr (fr_mono f1 (fun q h => by omega)) (fr_mono f2 (fun q h => by omega))
    have n23 : M1 120 23 = nI c := by rw [f3 120 (by omega)]; exact m0
    obtain ⟨M2, p2, f4, hw⟩ := m_undo22 (M := fp_set M1 120 23 (nI (c - 1))) (c := c - 1) (by omega) (set_at _ _ _ _)
    rw [show (fp_set M1 120 23 (nI (c - 1))) 131 = M 131 by rw [fp_set_ne (by decide), f3 131 (by omega)]] at hw
    refine ⟨nI (c - 1), M1, M2, ?_, ?_, ?_⟩
    · rw [m_X11_undo, m_X4_pop, emod, fp_ltt, c0, if_neg (by rw [q_le0 (by omega)]; exact hz), if_neg (nI_pos (by omega)), if_pos (nI_lt hm20 (by decide)), fp_inN hm20 (by decide), fp_gdt, q_cl (by omega), p1, fp_b1t, fp_ltt, fp_ltt, set_ne (by decide), e0, q_sub (by omega), hM1, fp_b2t, if_neg (by decide), ← hM1, set_at]
    · rw [m_X12_undo, n23, if_neg (by rw [q_eq0 (by omega)]; exact hz), fp_ltt, q_sub (by omega), p2]
    · have e : fr (fun q => (13 ≤ q ∧ q < 16) ∨ q = 48 ∨ q = 120 ∨ q = 123) M M2 := fr_tr (fr_mono f3 (fun q h => by omega)) (fr_tr (fr_set (k := 120) (j := 23) (x := nI (c - 1)) (by omega)) (fr_mono f4 (fun q h => by omega)))
      have g : ∀ j, j ≠ 23 → M2 120 j = M 120 j := fun j hj => by rw [f4 120 (by decide), set_ne hj, f3 120 (by omega)]
      have f1' : ∀ j, j < 100 → M2 1 j = M 1 j := fun j _ => congrFun (e 1 (by omega)) j
      have z123 : ∀ q, q ≠ 120 → q ≠ 123 → M2 q = M1 q := fun q h1 h2 => by rw [f4 q h2, fp_set_ne h1]
      refine ⟨nt, nw, fa, fb, ⟨I_text_fr h1 (f1' 2 (by omega)) (g 9 (by omega)) (e 7 (by omega)) (e 124 (by omega)), (f1' 6 (by omega)).trans (h2.trans (g 10 (by omega)).symm), I_realm_fr h3 (e 8 (by omega)) (e 11 (by omega)) (e 12 (by omega)) (e 121 (by omega)) (e 122 (by omega)) (fun j hj => g j (by omega)), ?_, I_seed_fr h5 (congrFun (e 47 (by omega)) 0) (g 6 (by omega)), I_sight_fr h6 (e 43 (by omega)) (g 27 (by omega)) (e 134 (by omega)) (e 135 (by omega)), I_book_fr h7 (e 44 (by omega)) (g 30 (by omega)) (e 45 (by omega)) (e 46 (by omega)) (e 136 (by omega)) (e 137 (by omega)), ?_, I_img_fr h9 (e 112 (by omega)) (e 113 (by omega)) (fun q a b => e q (by omega)) (e 138 (by omega)) (e 139 (by omega))⟩⟩
      · refine ⟨SR_congr ?_ (fun j hj => (hw j hj).symm), SV_congr hv (fun j hj => (hw j hj).symm)⟩
        have s2 := SR_fr s1 f2 (by omega) (by omega) (by omega)
        unfold SR at s2 ⊢
        rw [z123 13 (by omega) (by omega), z123 (13 + 1) (by omega) (by omega), z123 (13 + 2) (by omega) (by omega)]
        exact s2
      · refine ⟨c - 1, x, by omega, hm20, ?_, ?_, ?_, fun j hj => ?_⟩
        · rw [z123 48 (by decide) (by decide), ← hM1, set_at]
        · rw [f4 120 (by decide), set_at]
        · rw [z123 48 (by decide) (by decide), ← hM1, set_ne (by decide), set_at]
        · obtain ⟨g1, g2⟩ := hr j (by omega)
          have em : (x + 20 - (c - 1) + j) % 20 = (nx + 20 - c + j) % 20 := by omega
          rw [em, e 131 (by omega)]
          have hm : (nx + 20 - c + j) % 20 < 20 := Nat.mod_lt _ (by decide)
          refine ⟨?_, g2⟩
          unfold SR at g1 ⊢
          rw [e (50 + 3 * ((nx + 20 - c + j) % 20)) (by omega), e (50 + 3 * ((nx + 20 - c + j) % 20) + 1) (by omega), e (50 + 3 * ((nx + 20 - c + j) % 20) + 2) (by omega)]
          exact g1
theorem has14_0 (M : fp_Mem) (p : Int32) : m_X5_has_14 M p (nI 0) = some (nI 0) := rfl
theorem has14_1 (M : fp_Mem) (p : Int32) : m_X5_has_14 M p (nI 1) = some (nI 1) := rfl
theorem c_has_y {M : fp_Mem} {c : Nat} (hc : c ≤ 1) : m_X5_has M (nI c) = some (nI 1) := by
  rw [m_X5_has, if_neg (nI_pos (by omega)), if_neg (by rw [q_le (by decide) (by omega)]; omega), has14_1]
theorem c_has_n {M : fp_Mem} {p : Int32} (h : p < 0 ∨ ¬ p < 0 ∧ nI 1 < p) : m_X5_has M p = some (nI 0) := by
  rw [m_X5_has]
  rcases h with h | ⟨ha, hb⟩
  · rw [if_pos h, m_X5_has_13, has14_0]
  · obtain ⟨j, hj, rfl⟩ := nI_of ha
    rw [q_lt (by decide) hj] at hb
    rw [if_neg ha, if_pos (nI_le (by omega) hj), m_X5_has_13, has14_0]
theorem m_keep15 {M : fp_Mem} {p sd : Nat} (hp : p ≤ 1) (hs : M 120 6 = nI sd) : ∃ M', m_X12_keep_15 (nI p) fp_fu (nI 0) M = some (nI 1, M') ∧ fr (fun q => q = 138 ∨ q = 139 ∨ q = 120) M M' ∧ (∀ j, j ≠ 23 → M' 120 j = M 120 j) ∧ M' 120 23 = nI 0 ∧ (∀ i, M' 139 i = if i = p then nI 1 else M 139 i) ∧ (∀ j, M' 138 j = if 26 * p ≤ j ∧ j < 26 * p + 25 then M 123 (j - 26 * p) else if j = 26 * p + 25 then nI sd else M 138 j) := by
  obtain ⟨n1, M1, ⟨i1, i2⟩, he⟩ := loopI (fun n i s => m_X12_keep_15 (nI p) n (nI i) s) 25 (fun i s => fr (fun q => q = 138) M s ∧ ∀ j, s 138 j = if 26 * p ≤ j ∧ j < 26 * p + i then M 123 (j - 26 * p) else M 138 j) (by
    rintro n i s hi ⟨i1, i2⟩
    refine ⟨fp_set s 138 (26 * p + i) (M 123 i), ⟨fr_tr i1 (fr_set rfl), fun j => ?_⟩, ?_⟩
    · rw [set_q]
      by_cases h : j = 26 * p + i
      · rw [if_pos ⟨rfl, h⟩, if_pos (by omega), h, Nat.add_sub_cancel_left]
      · rw [if_neg (fun q => h q.2), i2]
        by_cases h2 : 26 * p ≤ j ∧ j < 26 * p + i
        · rw [if_pos h2, if_pos (by omega)]
        · rw [if_neg h2, if_neg (by omega)]
    · show m_X12_keep_15 (nI p) (n + 1) (nI i) s = _
      rw [m_X12_keep_15, if_neg (nI_ge hi (by decide)), fp_inN hi (by decide), fp_gdt, pk_mul, nI_add, fp_inN (show 26 * p + i < 52 by omega) (by decide), fp_gdt, fp_ltt, fp_ltt, nI_add, q_cl (by omega), q_cl (by omega), i1 123 (by decide)]) 25 0 fp_fu M rfl (fu_lt (by decide)) ⟨fr_rf, fun j => by rw [if_neg (by omega)]⟩
  refine ⟨fp_set (fp_set (fp_set M1 138 (26 * p + 25) (nI sd)) 139 p (nI 1)) 120 23 (nI 0), ?_, ?_, fun j hj => ?_, set_at _ _ _ _, fun i => ?_, fun j => ?_⟩
  · refine he.trans ?_
    show m_X12_keep_15 (nI p) (n1 + 1) (nI 25) M1 = _
    rw [m_X12_keep_15, if_pos (nI_le (Nat.le_refl _) (by decide)), pk_mul, nI_add, fp_inN (show 26 * p + 25 < 52 by omega) (by decide), fp_gdt, fp_ltt, fp_inN (show p < 2 by omega) (by decide), fp_gdt, fp_ltt, fp_ltt, q_cl (by omega), q_cl (by omega), q_nb1, i1 120 (by decide), hs]
  · exact fr_tr (fr_mono i1 (fun q h => by omega)) (fr_tr (fr_set (by omega)) (fr_tr (fr_set (by omega)) (fr_set (by omega))))
  · rw [set_ne hj, set_off (by decide), set_off (by decide), i1 120 (by decide)]
  · rw [set_off (by decide), set_q, set_off (by decide), i1 139 (by decide)]
    simp
  · rw [set_off (by decide), set_off (by decide), set_q, i2]
    by_cases h : j = 26 * p + 25
    · rw [if_pos ⟨rfl, h⟩, if_neg (by omega), if_pos h]
    · rw [if_neg (fun q => h q.2), if_neg h]
theorem st_keep {M : fp_Mem} (hI : fp_Inv M) (a1 : Int32) : ok_keep M a1 := by
  have hI0 := hI
  obtain ⟨nt, nw, fa, fb, hP⟩ := hI
  have hP0 := hP
  obtain ⟨h1, h2, h3, h4, h5, h6, h7, h8, h9⟩ := hP
  rcases q_rng a1 (b := 1) (by decide) with ⟨p, hp, rfl⟩ | hout
  · obtain ⟨sd, hsd, d1, d2⟩ := id h5
    obtain ⟨M0, p1, s1, f1⟩ := c_becomes (k := 114 + 3 * p) h4.1 (by omega)
    generalize hM1 : fp_set (fp_set (fp_set M0 112 p (nI sd)) 113 p (nI 1)) 48 0 (nI 0) = M1
    have f2 : fr (fun q => q = 112 ∨ q = 113 ∨ q = 48) M0 M1 := by rw [← hM1]; exact fr_tr (fr_set (by omega)) (fr_tr (fr_set (by omega)) (fr_set (by omega)))
    have f3 : fr (fun q => (114 + 3 * p ≤ q ∧ q < 114 + 3 * p + 3) ∨ q = 112 ∨ q = 113 ∨ q = 48) M M1 := fr_tr (fr_mono f1 (fun q h => by omega)) (fr_mono f2 (fun q h => by omega))
    obtain ⟨M2, p2, f4, g1, g2, g3, g4⟩ := m_keep15 (M := M1) hp (by rw [f3 120 (by omega)]; exact d2)
    rw [f3 139 (by omega)] at g3
    rw [f3 138 (by omega), f3 123 (by omega)] at g4
    refine ⟨nI 1, M1, M2, ?_, ?_, ?_⟩
    · rw [m_X11_keep, c_has_y hp, fp_b1t, if_neg (by decide), m_X5_take, c_has_y hp, fp_b1t, if_neg (by decide), fp_inN (show p < 2 by omega) (by decide), fp_gdt, q_cl (by omega), p1, fp_b1t, fp_gdt, fp_ltt, fp_gdt, fp_ltt, f1 47 (by omega), d1, q_nb1, m_X5_take_35, fp_b1t, m_X4_forget, fp_ltt, fp_b1t, hM1]
    · rw [m_X12_keep, q_in_y (Nat.zero_le _) hp (by decide), fp_b1t, if_neg (by decide), p2]
    · have e : fr (fun q => (114 + 3 * p ≤ q ∧ q < 114 + 3 * p + 3) ∨ q = 112 ∨ q = 113 ∨ q = 48 ∨ q = 138 ∨ q = 139 ∨ q = 120) M M2 := fr_tr (fr_mono f3 (fun q h => by omega)) (fr_mono f4 (fun q h => by omega))
      have g : ∀ j, j ≠ 23 → M2 120 j = M 120 j := fun j hj => by rw [g1 j hj, f3 120 (by omega)]
      have f1' : ∀ j, j < 100 → M2 1 j = M 1 j := fun j _ => congrFun (e 1 (by omega)) j
      refine ⟨nt, nw, fa, fb, ⟨I_text_fr h1 (f1' 2 (by omega)) (g 9 (by omega)) (e 7 (by omega)) (e 124 (by omega)), (f1' 6 (by omega)).trans (h2.trans (g 10 (by omega)).symm), I_realm_fr h3 (e 8 (by omega)) (e 11 (by omega)) (e 12 (by omega)) (e 121 (by omega)) (e 122 (by omega)) (fun j hj => g j (by omega)), I_now_fr h4 (e 13 (by omega)) (e 14 (by omega)) (e 15 (by omega)) (e 123 (by omega)), I_seed_fr h5 (congrFun (e 47 (by omega)) 0) (g 6 (by omega)), I_sight_fr h6 (e 43 (by omega)) (g 27 (by omega)) (e 134 (by omega)) (e 135 (by omega)), I_book_fr h7 (e 44 (by omega)) (g 30 (by omega)) (e 45 (by omega)) (e 46 (by omega)) (e 136 (by omega)) (e 137 (by omega)), ?_, ?_⟩⟩
      · obtain ⟨c, nx, hc, hx, c0, m0, c1, hr⟩ := h8
        refine ⟨0, nx, by decide, hx, ?_, g2, ?_, fun j hj => absurd hj (Nat.not_lt_zero j)⟩
        · rw [f4 48 (by omega), ← hM1, set_at]
        · rw [f4 48 (by omega), ← hM1, set_ne (by decide), set_off (by decide), set_off (by decide), f1 48 (by omega)]
          exact c1
      · intro i hi
        have q113 : M2 113 i = if i = p then nI 1 else M 113 i := by
          rw [f4 113 (by omega), ← hM1, set_off (by decide), set_q, set_off (by decide), f1 113 (by omega)]
          simp
        have q112 : M2 112 i = if i = p then nI sd else M 112 i := by
          rw [f4 112 (by omega), ← hM1, set_off (by decide), set_off (by decide), set_q, f1 112 (by omega)]
          simp
        rw [q113, q112, g3]
        by_cases ei : i = p
        · subst ei
          rw [if_pos rfl, if_pos rfl, if_pos rfl]
          have q138 : ∀ j, j < 25 → M 123 j = M2 138 (26 * i + j) := fun j hj => by rw [g4, if_pos (by omega), Nat.add_sub_cancel_left]
          refine Or.inr ⟨rfl, rfl, SR_congr ?_ q138, SV_congr h4.2 q138, sd, hsd, rfl, ?_⟩
          · exact SR_fr (SR_fr s1 f2 (by omega) (by omega) (by omega)) f4 (by omega) (by omega) (by omega)
          · rw [g4, if_neg (by omega), if_pos rfl]
        · rw [if_neg ei, if_neg ei, if_neg ei]
          have q138 : ∀ j, j < 26 → M2 138 (26 * i + j) = M 138 (26 * i + j) := fun j hj => by rw [g4, if_neg (by omega), if_neg (by omega)]
          rcases h9 i hi with h | ⟨k1, k2, k3, k4, s', hs', k5, k6⟩
          · exact Or.inl h
          · refine Or.inr ⟨k1, k2, SR_congr ?_ (fun j hj => (q138 j (by omega)).symm), SV_congr k4 (fun j hj => (q138 j (by omega)).symm), s', hs', k5, by rw [q138 25 (by decide)]; exact k6⟩
            exact SR_fr k3 e (by omega) (by omega) (by omega)
  · refine ⟨(-1000000001 : Int32), M, M, ?_, ?_, hI0⟩
    · rw [m_X11_keep, c_has_n hout, fp_b1t, if_pos (by decide)]
    · rw [m_X12_keep, q_in_n hout (by decide), fp_b1t, if_pos (by decide)]
theorem m_back27 {M : fp_Mem} {p : Nat} (hp : p ≤ 1) : ∃ M', m_X12_goBack_27 (nI p) fp_fu (nI 0) M = some (nI 1, M') ∧ fr (fun q => q = 123 ∨ q = 120) M M' ∧ (∀ j, j ≠ 23 ∧ j ≠ 6 → M' 120 j = M 120 j) ∧ M' 120 23 = nI 0 ∧ M' 120 6 = M 138 (26 * p + 25) ∧ RW M' (fun j => M 138 (26 * p + j)) := by
  obtain ⟨n1, M1, ⟨i1, i2⟩, he⟩ := loopI (fun n i s => m_X12_goBack_27 (nI p) n (nI i) s) 25 (fun i s => fr (fun q => q = 123) M s ∧ ∀ j, j < i → s 123 j = M 138 (26 * p + j)) (by
    rintro n i s hi ⟨i1, i2⟩
    refine ⟨fp_set s 123 i (M 138 (26 * p + i)), ⟨fr_tr i1 (fr_set rfl), fun j hj => ?_⟩, ?_⟩
    · rw [set_q]
      by_cases h : j = i
      · rw [if_pos ⟨rfl, h⟩, h]
      · rw [if_neg (fun q => h q.2)]
        exact i2 j (by omega)
    · show m_X12_goBack_27 (nI p) (n + 1) (nI i) s = _
      rw [m_X12_goBack_27, if_neg (nI_ge hi (by decide)), pk_mul, nI_add, fp_inN (show 26 * p + i < 52 by omega) (by decide), fp_gdt, fp_inN hi (by decide), fp_gdt, fp_ltt, fp_ltt, nI_add, q_cl (by omega), q_cl (by omega), i1 138 (by decide)]) 25 0 fp_fu M rfl (fu_lt (by decide)) ⟨fr_rf, fun j hj => absurd hj (Nat.not_lt_zero j)⟩
  refine ⟨fp_set (fp_set M1 120 6 (M 138 (26 * p + 25))) 120 23 (nI 0), ?_, ?_, fun j hj => ?_, set_at _ _ _ _, ?_, fun j hj => ?_⟩
  · refine he.trans ?_
    show m_X12_goBack_27 (nI p) (n1 + 1) (nI 25) M1 = _
    rw [m_X12_goBack_27, if_pos (nI_le (Nat.le_refl _) (by decide)), pk_mul, nI_add, fp_inN (show 26 * p + 25 < 52 by omega) (by decide), fp_gdt, fp_ltt, fp_ltt, q_cl (by omega), i1 138 (by decide)]
  · exact fr_tr (fr_mono i1 (fun q h => by omega)) (fr_tr (fr_set (by omega)) (fr_set (by omega)))
  · rw [set_ne hj.1, set_ne hj.2, i1 120 (by decide)]
  · rw [set_ne (by decide), set_at]
  · rw [set_off (by decide), set_off (by decide)]
    exact i2 j hj
theorem st_goBack {M : fp_Mem} (hI : fp_Inv M) (a1 : Int32) : ok_goBack M a1 := by
  have hI0 := hI
  obtain ⟨nt, nw, fa, fb, hP⟩ := hI
  have hP0 := hP
  obtain ⟨h1, h2, h3, h4, h5, h6, h7, h8, h9⟩ := hP
  rcases q_rng a1 (b := 1) (by decide) with ⟨p, hp, rfl⟩ | hout
  · rcases h9 p (by omega) with ⟨k1, k2⟩ | ⟨k1, k2, k3, k4, sd, hsd, k5, k6⟩
    · refine ⟨(-1000000003 : Int32), M, M, ?_, ?_, hI0⟩
      · rw [m_X11_goBack, c_has_y hp, fp_b1t, if_neg (by decide), m_X5_give, c_has_y hp, fp_b1t, if_neg (by decide), fp_inN (show p < 2 by omega) (by decide), fp_gdt, q_cl (by omega), k1, if_pos (by decide), m_X5_give_17, fp_b2t, if_pos (by decide)]
      · rw [m_X12_goBack, q_in_y (Nat.zero_le _) hp (by decide), fp_b1t, if_neg (by decide), fp_inN (show p < 2 by omega) (by decide), fp_gdt, q_cl (by omega), k2, if_pos (by decide)]
    · obtain ⟨M0, p1, s1, f1⟩ := c_becomes (k := 13) k3 (by omega)
      generalize hM1 : fp_set (fp_set M0 47 0 (nI sd)) 48 0 (nI 0) = M1
      have f2 : fr (fun q => q = 47 ∨ q = 48) M0 M1 := by rw [← hM1]; exact fr_tr (fr_set (by omega)) (fr_set (by omega))
      have f3 : fr (fun q => (13 ≤ q ∧ q < 16) ∨ q = 47 ∨ q = 48) M M1 := fr_tr (fr_mono f1 (fun q h => by omega)) (fr_mono f2 (fun q h => by omega))
      obtain ⟨M2, p2, f4, g1, g2, g3, g4⟩ := m_back27 (M := M1) hp
      rw [f3 138 (by omega)] at g3 g4
      refine ⟨nI 1, M1, M2, ?_, ?_, ?_⟩
      · rw [m_X11_goBack, c_has_y hp, fp_b1t, if_neg (by decide), m_X5_give, c_has_y hp, fp_b1t, if_neg (by decide), fp_inN (show p < 2 by omega) (by decide), fp_gdt, q_cl (by omega), k1, if_neg (by decide), fp_gdt, p1, fp_b1t, fp_gdt, fp_ltt, f1 112 (by omega), k5, fp_b2t, if_neg (by decide), m_X4_forget, fp_ltt, fp_b1t, hM1]
      · rw [m_X12_goBack, q_in_y (Nat.zero_le _) hp (by decide), fp_b1t, if_neg (by decide), fp_inN (show p < 2 by omega) (by decide), fp_gdt, q_cl (by omega), f3 139 (by omega), k2, if_neg (by decide), p2]
      · have e : fr (fun q => (13 ≤ q ∧ q < 16) ∨ q = 47 ∨ q = 48 ∨ q = 123 ∨ q = 120) M M2 := fr_tr (fr_mono f3 (fun q h => by omega)) (fr_mono f4 (fun q h => by omega))
        have g : ∀ j, j ≠ 23 ∧ j ≠ 6 → M2 120 j = M 120 j := fun j hj => by rw [g1 j hj, f3 120 (by omega)]
        have f1' : ∀ j, j < 100 → M2 1 j = M 1 j := fun j _ => congrFun (e 1 (by omega)) j
        refine ⟨nt, nw, fa, fb, ⟨I_text_fr h1 (f1' 2 (by omega)) (g 9 (by omega)) (e 7 (by omega)) (e 124 (by omega)), (f1' 6 (by omega)).trans (h2.trans (g 10 (by omega)).symm), I_realm_fr h3 (e 8 (by omega)) (e 11 (by omega)) (e 12 (by omega)) (e 121 (by omega)) (e 122 (by omega)) (fun j hj => g j (by omega)), ?_, ?_, I_sight_fr h6 (e 43 (by omega)) (g 27 (by omega)) (e 134 (by omega)) (e 135 (by omega)), I_book_fr h7 (e 44 (by omega)) (g 30 (by omega)) (e 45 (by omega)) (e 46 (by omega)) (e 136 (by omega)) (e 137 (by omega)), ?_, I_img_fr h9 (e 112 (by omega)) (e 113 (by omega)) (fun q a b => e q (by omega)) (e 138 (by omega)) (e 139 (by omega))⟩⟩
        · exact ⟨SR_congr (SR_fr (SR_fr s1 f2 (by omega) (by omega) (by omega)) f4 (by omega) (by omega) (by omega)) (fun j hj => (g4 j hj).symm), SV_congr k4 (fun j hj => (g4 j hj).symm)⟩
        · refine ⟨sd, hsd, ?_, g3.trans k6⟩
          rw [f4 47 (by omega), ← hM1, set_off (by decide), set_at]
        · obtain ⟨c, nx, hc, hx, c0, m0, c1, hr⟩ := h8
          refine ⟨0, nx, by decide, hx, ?_, g2, ?_, fun j hj => absurd hj (Nat.not_lt_zero j)⟩
          · rw [f4 48 (by omega), ← hM1, set_at]
          · rw [f4 48 (by omega), ← hM1, set_ne (by decide), set_off (by decide), f1 48 (by omega)]
            exact c1
  · refine ⟨(-1000000001 : Int32), M, M, ?_, ?_, hI0⟩
    · rw [m_X11_goBack, c_has_n hout, fp_b1t, if_pos (by decide)]
    · rw [m_X12_goBack, q_in_n hout (by decide), fp_b1t, if_pos (by decide)]

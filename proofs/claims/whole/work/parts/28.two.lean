/-! two guests one behind another, either way round -/
def mc (r : Int32) : Int32 := if 0 ≤ r then r else nI 1000
def gF (nt nw : Nat) (fa fb : Nat → Nat) (fine : Int32) (f : Nat → Int32) (t : Nat) : Int32 × (Nat → Int32) := gR nt (adjN (f 19) fa fb nw) (seF f) (siF f) fine f t
def twoF (nt nw : Nat) (fa fb : Nat → Nat) (fine : Int32) (f : Nat → Int32) (a b : Nat) : Int32 := mc (gF nt nw fa fb fine f a).1 + mc (gF nt nw fa fb fine (gF nt nw fa fb fine f a).2 b).1
theorem gF_SV {nt nw t : Nat} {fa fb : Nat → Nat} {fine : Int32} {f : Nat → Int32} (hn : nt ≤ 9) (ht : t < nt) (h : SV nt f) : SV nt (gF nt nw fa fb fine f t).2 := by
  obtain ⟨hN, hb, w, hw, hw9⟩ := SV_F h
  exact gR_SV hn ht hN hb hw hw9
theorem InvS2 {M M' : fp_Mem} {nt nw : Nat} {fa fb : Nat → Nat} (h : InvP M nt nw fa fb) (hf : fr (fun q => q = 123 ∨ scr q) M M') (hr : RW M' (M 123)) : fp_Inv M' := by
  obtain ⟨h1, h2, h3, h4, h5, h6, h7, h8, h9⟩ := h
  have e : ∀ q, ¬ (q = 123 ∨ scr q) → M' q = M q := hf
  simp only [scr] at e
  refine ⟨nt, nw, fa, fb, I_text_fr h1 (by rw [e 1 (by omega)]) (by rw [e 120 (by omega)]) (e 7 (by omega)) (e 124 (by omega)), by rw [e 1 (by omega), e 120 (by omega)]; exact h2,
    I_realm_fr h3 (e 8 (by omega)) (e 11 (by omega)) (e 12 (by omega)) (e 121 (by omega)) (e 122 (by omega)) (fun j _ => by rw [e 120 (by omega)]), ⟨?_, SV_congr h4.2 (fun j hj => (hr j hj).symm)⟩,
    I_seed_fr h5 (by rw [e 47 (by omega)]) (by rw [e 120 (by omega)]), I_sight_fr h6 (e 43 (by omega)) (by rw [e 120 (by omega)]) (e 134 (by omega)) (e 135 (by omega)),
    I_book_fr h7 (e 44 (by omega)) (by rw [e 120 (by omega)]) (e 45 (by omega)) (e 46 (by omega)) (e 136 (by omega)) (e 137 (by omega)),
    I_hist_fr h8 (e 48 (by omega)) (by rw [e 120 (by omega)]) (fun q _ _ => e q (by omega)) (e 131 (by omega)), I_img_fr h9 (e 112 (by omega)) (e 113 (by omega)) (fun q _ _ => e q (by omega)) (e 138 (by omega)) (e 139 (by omega))⟩
  refine SR_congr ?_ (fun j hj => (hr j hj).symm)
  have hS := h4.1
  unfold SR at hS ⊢
  rw [e 13 (by omega), e (13 + 1) (by omega), e (13 + 2) (by omega)]
  exact hS
theorem c_count {M : fp_Mem} {nt nw t : Nat} {fa fb : Nat → Nat} {f : Nat → Int32} (hR : CR M 8 nt nw fa fb) (hS : SR M 39 f) (hV : SV nt f) (ht : t < nt) :
    ∃ M', m_X10_movesCounted M 8 (nI t) = some (mc (gF nt nw fa fb (M 8 1) f t).1, M') ∧ SR M' 39 (gF nt nw fa fb (M 8 1) f t).2 ∧ fr (fun q => 34 ≤ q ∧ q < 42) M M' := by
  obtain ⟨hN, hb, w, hw, hw9⟩ := SV_F hV
  obtain ⟨M', p, s, f1⟩ := c_guest (k := 33) hR hS hN ht (by omega) (by omega) (by omega)
  refine ⟨M', ?_, s, fr_mono f1 (fun q h => by omega)⟩
  rw [m_X10_movesCounted, p, fp_b2t, mc, gF]
  by_cases c : 0 ≤ (gR nt (adjN (f 19) fa fb nw) (seF f) (siF f) (M 8 1) f t).1
  · rw [if_pos c, if_pos c, m_X10_movesCounted_25]
  · rw [if_neg c, if_neg c, m_X10_movesCounted_25]
theorem c_two {M : fp_Mem} {nt nw a b : Nat} {fa fb : Nat → Nat} {f : Nat → Int32} (hR : CR M 8 nt nw fa fb) (hS : SR M 13 f) (hV : SV nt f) (ha : a < nt) (hb : b < nt) :
    ∃ M', m_X10_movesOfTwo M 8 13 (nI a) (nI b) = some (twoF nt nw fa fb (M 8 1) f a b, M') ∧ fr (fun q => 34 ≤ q ∧ q < 42) M M' := by
  have hn := hR.1
  obtain ⟨M1, p1, s1, f1⟩ := c_becomes (k := 39) hS (by omega)
  have hCR : ∀ {M' : fp_Mem}, fr (fun q => 34 ≤ q ∧ q < 42) M M' → CR M' 8 nt nw fa fb := fun {M'} h => by
    unfold CR
    rw [h 8 (by omega), h (8 + 3) (by omega), h (8 + 4) (by omega)]
    exact hR
  have f1' : fr (fun q => 34 ≤ q ∧ q < 42) M M1 := fr_mono f1 (fun q h => by omega)
  obtain ⟨M2, p2, s2, f2⟩ := c_count (hCR f1') s1 hV ha
  have f2' := fr_tr f1' f2
  rw [f1' 8 (by omega)] at p2 s2
  obtain ⟨M3, p3, s3, f3⟩ := c_count (hCR f2') s2 (gF_SV hn ha hV) hb
  rw [f2' 8 (by omega)] at p3
  exact ⟨M3, by rw [m_X10_movesOfTwo, p1, fp_b1t, p2, fp_b2t, p3, fp_b2t, twoF], fr_tr f2' f3⟩
theorem m_save {M : fp_Mem} : ∃ M', m_X12_save M = some M' ∧ fr (fun q => q = 132) M M' ∧ ∀ j, j < 25 → M' 132 j = M 123 j := by
  obtain ⟨n1, M1, ⟨i1, i2⟩, he⟩ := loopI (fun n i s => m_X12_save_2 n (nI i) s) 25 (fun i s => fr (fun q => q = 132) M s ∧ ∀ j, j < i → s 132 j = M 123 j) (by
    rintro n i s hi ⟨i1, i2⟩
    refine ⟨fp_set s 132 i (M 123 i), ⟨fr_tr i1 (fr_set rfl), fun j hj => ?_⟩, ?_⟩
    · rw [set_q]
      by_cases h : j = i
      · rw [if_pos ⟨rfl, h⟩, h]
      · rw [if_neg (fun q => h q.2)]
        exact i2 j (by omega)
    · show m_X12_save_2 (n + 1) (nI i) s = _
      rw [m_X12_save_2, if_neg (nI_ge hi (by decide)), fp_inN hi (by decide), fp_gdt, fp_gdt, fp_ltt, fp_ltt, nI_add, q_cl (by omega), i1 123 (by decide)]) 25 0 fp_fu M rfl (fu_lt (by decide)) ⟨fr_rf, fun j hj => absurd hj (Nat.not_lt_zero j)⟩
  refine ⟨M1, ?_, i1, i2⟩
  rw [m_X12_save]
  refine he.trans ?_
  show m_X12_save_2 (n1 + 1) (nI 25) M1 = _
  rw [m_X12_save_2, if_pos (nI_le (Nat.le_refl _) (by decide))]
theorem m_putBack {M : fp_Mem} : ∃ M', m_X12_putBack M = some M' ∧ fr (fun q => q = 123) M M' ∧ ∀ j, j < 25 → M' 123 j = M 132 j := by
  obtain ⟨n1, M1, ⟨i1, i2⟩, he⟩ := loopI (fun n i s => m_X12_putBack_2 n (nI i) s) 25 (fun i s => fr (fun q => q = 123) M s ∧ ∀ j, j < i → s 123 j = M 132 j) (by
    rintro n i s hi ⟨i1, i2⟩
    refine ⟨fp_set s 123 i (M 132 i), ⟨fr_tr i1 (fr_set rfl), fun j hj => ?_⟩, ?_⟩
    · rw [set_q]
      by_cases h : j = i
      · rw [if_pos ⟨rfl, h⟩, h]
      · rw [if_neg (fun q => h q.2)]
        exact i2 j (by omega)
    · show m_X12_putBack_2 (n + 1) (nI i) s = _
      rw [m_X12_putBack_2, if_neg (nI_ge hi (by decide)), fp_inN hi (by decide), fp_gdt, fp_gdt, fp_ltt, fp_ltt, nI_add, q_cl (by omega), i1 132 (by decide)]) 25 0 fp_fu M rfl (fu_lt (by decide)) ⟨fr_rf, fun j hj => absurd hj (Nat.not_lt_zero j)⟩
  refine ⟨M1, ?_, i1, i2⟩
  rw [m_X12_putBack]
  refine he.trans ?_
  show m_X12_putBack_2 (n1 + 1) (nI 25) M1 = _
  rw [m_X12_putBack_2, if_pos (nI_le (Nat.le_refl _) (by decide))]
theorem m_two {M : fp_Mem} {nt nw a b : Nat} {fa fb : Nat → Nat} {f : Nat → Int32} (hR : MR M nt nw fa fb) (hS : RW M f) (hK : ∀ j, j < 25 → M 132 j = f j) (hV : SV nt f) (ha : a < nt) (hb : b < nt) :
    ∃ M', m_X12_bothMoves M (nI a) (nI b) = some (twoF nt nw fa fb (M 120 0) f a b, M') ∧ RW M' f ∧ fr (fun q => q = 123 ∨ q = 130) M M' := by
  have hn := hR.1
  have hMR : ∀ {M' : fp_Mem}, fr (fun q => q = 123 ∨ q = 130) M M' → MR M' nt nw fa fb := fun {M'} h => by
    unfold MR
    rw [h 120 (by decide), h 121 (by decide), h 122 (by decide)]
    exact hR
  obtain ⟨hN, hb1, w, hw, hw9⟩ := SV_F hV
  obtain ⟨M1, p1, s1, f1⟩ := m_guest hR hS hN ha
  obtain ⟨hN2, -⟩ := SV_F (gF_SV (nw := nw) (fa := fa) (fb := fb) (fine := M 120 0) hn ha hV)
  obtain ⟨M2, p2, s2, f2⟩ := m_guest (hMR f1) s1 hN2 hb
  rw [f1 120 (by decide)] at p2
  have f12 := fr_tr f1 f2
  obtain ⟨M3, p3, f3, s3⟩ := m_putBack (M := M2)
  refine ⟨M3, ?_, fun j hj => by rw [s3 j hj, f12 132 (by decide)]; exact hK j hj, fr_tr f12 (fr_mono f3 (fun q h => Or.inl h))⟩
  rw [m_X12_bothMoves, p1, fp_b2t, p2, fp_b2t, p3, fp_b1t, twoF, mc, mc, gF, gF]
  have fin : ∀ x : Int32, m_X12_bothMoves_28 (nI a) (nI b) ((gR nt (adjN ((gR nt (adjN (f 19) fa fb nw) (seF f) (siF f) (M 120 0) f a).2 19) fa fb nw) (seF (gR nt (adjN (f 19) fa fb nw) (seF f) (siF f) (M 120 0) f a).2) (siF (gR nt (adjN (f 19) fa fb nw) (seF f) (siF f) (M 120 0) f a).2) (M 120 0) (gR nt (adjN (f 19) fa fb nw) (seF f) (siF f) (M 120 0) f a).2 b).1) x M3 = some (x + (if 0 ≤ (gR nt (adjN ((gR nt (adjN (f 19) fa fb nw) (seF f) (siF f) (M 120 0) f a).2 19) fa fb nw) (seF (gR nt (adjN (f 19) fa fb nw) (seF f) (siF f) (M 120 0) f a).2) (siF (gR nt (adjN (f 19) fa fb nw) (seF f) (siF f) (M 120 0) f a).2) (M 120 0) (gR nt (adjN (f 19) fa fb nw) (seF f) (siF f) (M 120 0) f a).2 b).1 then (gR nt (adjN ((gR nt (adjN (f 19) fa fb nw) (seF f) (siF f) (M 120 0) f a).2 19) fa fb nw) (seF (gR nt (adjN (f 19) fa fb nw) (seF f) (siF f) (M 120 0) f a).2) (siF (gR nt (adjN (f 19) fa fb nw) (seF f) (siF f) (M 120 0) f a).2) (M 120 0) (gR nt (adjN (f 19) fa fb nw) (seF f) (siF f) (M 120 0) f a).2 b).1 else nI 1000), M3) := by
    intro x
    generalize (gR nt (adjN ((gR nt (adjN (f 19) fa fb nw) (seF f) (siF f) (M 120 0) f a).2 19) fa fb nw) (seF (gR nt (adjN (f 19) fa fb nw) (seF f) (siF f) (M 120 0) f a).2) (siF (gR nt (adjN (f 19) fa fb nw) (seF f) (siF f) (M 120 0) f a).2) (M 120 0) (gR nt (adjN (f 19) fa fb nw) (seF f) (siF f) (M 120 0) f a).2 b).1 = r
    rw [m_X12_bothMoves_28]
    by_cases c : 0 ≤ r
    · rw [if_pos c, if_pos c, m_X12_bothMoves_41]
    · rw [if_neg c, if_neg c, m_X12_bothMoves_41]
  by_cases c : 0 ≤ (gR nt (adjN (f 19) fa fb nw) (seF f) (siF f) (M 120 0) f a).1
  · rw [if_pos c, if_pos c]
    exact fin _
  · rw [if_neg c, if_neg c]
    exact fin _
theorem st_two {M : fp_Mem} (hI : fp_Inv M) (a1 : Int32) (a2 : Int32) (a3 : Int32) : ok_two M a1 a2 a3 := by
  have hI0 := hI
  obtain ⟨nt, nw, fa, fb, hP⟩ := hI
  have hP0 := hP
  obtain ⟨h1, h2, h3, h4, h5, h6, h7, h8, h9⟩ := hP
  obtain ⟨hS, hV⟩ := id h4
  have hn := h3.1.1
  have r1 : M 8 3 = nI nt := h3.1.2.2.1
  have r2 : M 120 1 = nI nt := h3.2.1.2.2.1
  rcases q_tab a1 (n := nt) (by omega) with ⟨a, ha, rfl⟩ | hno
  · rcases q_tab a2 (n := nt) (by omega) with ⟨b, hb, rfl⟩ | hno
    · rcases q_rng a3 (b := 1) (by decide) with ⟨c, hc, rfl⟩ | hout
      · obtain ⟨M1, p1, f1⟩ := c_two h3.1 hS hV ha hb
        have hCR : CR M1 8 nt nw fa fb := by
          unfold CR
          rw [f1 8 (by omega), f1 (8 + 3) (by omega), f1 (8 + 4) (by omega)]
          exact h3.1
        obtain ⟨M2, p2, f2⟩ := c_two hCR (SR_fr hS f1 (by omega) (by omega) (by omega)) hV hb ha
        rw [f1 8 (by omega)] at p2
        have f12 := fr_tr f1 f2
        obtain ⟨N1, k1, g1, kv⟩ := m_save (M := M2)
        have e123 : ∀ j, M2 123 j = M 123 j := fun j => by rw [f12 123 (by omega)]
        have e0 : M2 120 0 = M 8 1 := by rw [f12 120 (by omega), h3.2.2.1]
        have hMR2 : ∀ {M' : fp_Mem}, fr (fun q => q = 123 ∨ q = 130 ∨ q = 132) M2 M' → MR M' nt nw fa fb := fun {M'} h => by
          unfold MR
          rw [h 120 (by decide), h 121 (by decide), h 122 (by decide), f12 120 (by omega), f12 121 (by omega), f12 122 (by omega)]
          exact h3.2.1
        obtain ⟨N2, k2, s2, g2⟩ := m_two (f := M 123) (hMR2 (fr_mono g1 (fun q h => by omega))) (fun j _ => by rw [g1 123 (by decide)]; exact e123 j) (fun j hj => by rw [kv j hj]; exact e123 j) hV ha hb
        have g12 : fr (fun q => q = 123 ∨ q = 130 ∨ q = 132) M2 N2 := fr_tr (fr_mono g1 (fun q h => by omega)) (fr_mono g2 (fun q h => by omega))
        obtain ⟨N3, k3, s3, g3⟩ := m_two (f := M 123) (hMR2 g12) s2 (fun j hj => by rw [g2 132 (by decide), kv j hj]; exact e123 j) hV hb ha
        rw [g1 120 (by decide), e0] at k2
        rw [g12 120 (by decide), e0] at k3
        have hIv : fp_Inv N3 := InvS2 hP0 (fr_tr (fr_mono f12 (fun q h => by simp only [scr]; omega)) (fr_tr (fr_mono g12 (fun q h => by simp only [scr]; omega)) (fr_mono g3 (fun q h => by simp only [scr]; omega)))) s3
        have r3 : M2 120 1 = nI nt := by rw [f12 120 (by omega)]; exact r2
        generalize twoF nt nw fa fb (M 8 1) (M 123) a b = x at p1 k2
        generalize twoF nt nw fa fb (M 8 1) (M 123) b a = y at p2 k3
        refine ⟨if nI c = 0 then (if x ≤ y then nI 0 else nI 1) else (if x ≤ y then x else y), M2, N3, ?_, ?_, hIv⟩
        · rw [m_X11_two, c_hasTable_y r1 hn ha, fp_b1t, if_neg (by decide), c_hasTable_y r1 hn hb, fp_b1t, if_neg (by decide), if_neg (nI_pos (by omega)), if_pos (nI_le hc (by decide)), p1, fp_b2t, p2, fp_b2t]
          by_cases e : nI c = 0
          · rw [if_pos e, if_pos e]
            by_cases d : x ≤ y
            · rw [if_pos d, if_pos d, m_X11_two_91]
            · rw [if_neg d, if_neg d, m_X11_two_91]
          · rw [if_neg e, if_neg e]
            by_cases d : x ≤ y
            · rw [if_pos d, if_neg (Int32.not_lt.mpr d)]
            · rw [if_neg d, if_pos (Int32.not_le.mp d)]
        · rw [m_X12_two, m_isTable_y r3 hn ha, fp_b1t, if_neg (by decide), m_isTable_y r3 hn hb, fp_b1t, if_neg (by decide), q_in_y (Nat.zero_le _) hc (by decide), fp_b1t, if_neg (by decide), k1, fp_b1t, k2, fp_b2t, k3, fp_b2t]
          by_cases e : nI c = 0
          · rw [if_pos e, if_pos e]
            by_cases d : x ≤ y
            · rw [if_pos d, if_pos d, m_X12_two_68]
            · rw [if_neg d, if_neg d, m_X12_two_68]
          · rw [if_neg e, if_neg e]
            by_cases d : x ≤ y
            · rw [if_pos d, if_pos d, m_X12_two_83]
            · rw [if_neg d, if_neg d, m_X12_two_83]
      · refine ⟨(-1000000002 : Int32), M, M, ?_, ?_, hI0⟩
        · rw [m_X11_two, c_hasTable_y r1 hn ha, fp_b1t, if_neg (by decide), c_hasTable_y r1 hn hb, fp_b1t, if_neg (by decide)]
          rcases hout with h | ⟨ha, hb⟩
          · rw [if_pos h, m_X11_two_34]
          · rw [if_neg ha, if_neg (Int32.not_le.mpr hb), m_X11_two_34]
        · rw [m_X12_two, m_isTable_y r2 hn ha, fp_b1t, if_neg (by decide), m_isTable_y r2 hn hb, fp_b1t, if_neg (by decide), q_in_n hout (by decide), fp_b1t, if_pos (by decide)]
    · refine ⟨(-1000000001 : Int32), M, M, ?_, ?_, hI0⟩
      · rw [m_X11_two, c_hasTable_y r1 hn ha, fp_b1t, if_neg (by decide), c_hasTable_n r1 hno, fp_b1t, if_pos (by decide), m_X11_two_22]
      · rw [m_X12_two, m_isTable_y r2 hn ha, fp_b1t, if_neg (by decide), m_isTable_n r2 hn hno, fp_b1t, if_pos (by decide), m_X12_two_16]
  · refine ⟨(-1000000001 : Int32), M, M, ?_, ?_, hI0⟩
    · rw [m_X11_two, c_hasTable_n r1 hno, fp_b1t, if_pos (by decide), m_X11_two_22]
    · rw [m_X12_two, m_isTable_n r2 hn hno, fp_b1t, if_pos (by decide), m_X12_two_16]

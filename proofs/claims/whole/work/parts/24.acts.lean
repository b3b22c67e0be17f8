/-! the acts: both remember, then the state changes -/
theorem act_inv {M M1 M1' M2 M2' : fp_Mem} {nt nw : Nat} {fa fb : Nat → Nat} {g : Nat → Int32} (h : InvP M nt nw fa fb) (f1 : fr (fun q => q = 48 ∨ (50 ≤ q ∧ q < 110)) M M1) (f2 : fr (fun q => (13 ≤ q ∧ q < 16) ∨ q = 47 ∨ scr q) M1 M1')
    (f3 : fr (fun q => q = 131 ∨ q = 120) M1' M2) (g3 : ∀ j, j ≠ 23 → M2 120 j = M1' 120 j) (hH : M1' 48 = M1 48 → (∀ q, 50 ≤ q → q < 110 → M1' q = M1 q) → I_hist M2 nt)
    (f4 : fr (fun q => q = 123 ∨ q = 120 ∨ scr q) M2 M2') (g4 : ∀ j, j ≠ 6 → M2' 120 j = M2 120 j) (hS : SR M1' 13 g) (hR : RW M2' g) (hV : SV nt g) (hsd : I_seed M2') : fp_Inv M2' := by
  obtain ⟨h1, h2, h3, h4, h5, h6, h7, h8, h9⟩ := h
  unfold scr at f2 f4
  have e34 : fr (fun q => q = 131 ∨ q = 120 ∨ q = 123 ∨ (2 ≤ q ∧ q < 7) ∨ (16 ≤ q ∧ q < 43) ∨ (125 ≤ q ∧ q < 131) ∨ q = 132 ∨ q = 133) M1' M2' := fr_tr (fr_mono f3 (fun q h => by omega)) (fr_mono f4 (fun q h => by omega))
  have e : fr (fun q => q = 48 ∨ (50 ≤ q ∧ q < 110) ∨ (13 ≤ q ∧ q < 16) ∨ q = 47 ∨ q = 131 ∨ q = 120 ∨ q = 123 ∨ (2 ≤ q ∧ q < 7) ∨ (16 ≤ q ∧ q < 43) ∨ (125 ≤ q ∧ q < 131) ∨ q = 132 ∨ q = 133) M M2' := fr_tr (fr_mono f1 (fun q h => by omega)) (fr_tr (fr_mono f2 (fun q h => by omega)) (fr_mono e34 (fun q h => by omega)))
  have g : ∀ j, j ≠ 6 ∧ j ≠ 23 → M2' 120 j = M 120 j := fun j hj => by rw [g4 j hj.1, g3 j hj.2, f2 120 (by omega), f1 120 (by omega)]
  have f1 : ∀ j, j < 100 → M2' 1 j = M 1 j := fun j _ => congrFun (e 1 (by omega)) j
  have hH2 := hH (f2 48 (by omega)) (fun q a b => f2 q (by omega))
  refine ⟨nt, nw, fa, fb, ⟨I_text_fr h1 (f1 2 (by omega)) (g 9 (by omega)) (e 7 (by omega)) (e 124 (by omega)), (f1 6 (by omega)).trans (h2.trans (g 10 (by omega)).symm), I_realm_fr h3 (e 8 (by omega)) (e 11 (by omega)) (e 12 (by omega)) (e 121 (by omega)) (e 122 (by omega)) (fun j hj => g j (by omega)), ?_, ?_, I_sight_fr h6 (e 43 (by omega)) (g 27 (by omega)) (e 134 (by omega)) (e 135 (by omega)), I_book_fr h7 (e 44 (by omega)) (g 30 (by omega)) (e 45 (by omega)) (e 46 (by omega)) (e 136 (by omega)) (e 137 (by omega)), ?_, I_img_fr h9 (e 112 (by omega)) (e 113 (by omega)) (fun q a b => e q (by omega)) (e 138 (by omega)) (e 139 (by omega))⟩⟩
  · exact ⟨SR_congr (SR_fr hS e34 (by omega) (by omega) (by omega)) (fun j hj => (hR j hj).symm), SV_congr hV (fun j hj => (hR j hj).symm)⟩
  · exact hsd
  · exact I_hist_fr hH2 (f4 48 (by omega)) (g4 23 (by decide)) (fun q a b => f4 q (by omega)) (f4 131 (by omega))
theorem act_inv1 {M M1 M1' M2 M2' : fp_Mem} {nt nw : Nat} {fa fb : Nat → Nat} {g : Nat → Int32} (h : InvP M nt nw fa fb) (f1 : fr (fun q => q = 48 ∨ (50 ≤ q ∧ q < 110)) M M1) (f2 : fr (fun q => (13 ≤ q ∧ q < 16) ∨ scr q) M1 M1')
    (f3 : fr (fun q => q = 131 ∨ q = 120) M1' M2) (g3 : ∀ j, j ≠ 23 → M2 120 j = M1' 120 j) (hH : M1' 48 = M1 48 → (∀ q, 50 ≤ q → q < 110 → M1' q = M1 q) → I_hist M2 nt)
    (f4 : fr (fun q => q = 123 ∨ scr q) M2 M2') (hS : SR M1' 13 g) (hR : RW M2' g) (hV : SV nt g) : fp_Inv M2' := by
  refine act_inv h f1 (fr_mono f2 (fun q h => by simp only [scr] at h ⊢; omega)) f3 g3 hH (fr_mono f4 (fun q h => by simp only [scr] at h ⊢; omega)) (fun j _ => by rw [f4 120 (by unfold scr; omega)]) hS hR hV ?_
  obtain ⟨h1, h2, h3, h4, h5, h6, h7, h8, h9⟩ := h
  unfold scr at f2 f4
  exact I_seed_fr h5 (by rw [f4 47 (by omega), f3 47 (by omega), f2 47 (by omega), f1 47 (by omega)]) (by rw [f4 120 (by omega), g3 6 (by decide), f2 120 (by omega), f1 120 (by omega)])
/-- the realm of both, once they have remembered -/
theorem realm1 {M M1 : fp_Mem} {nt nw : Nat} {fa fb : Nat → Nat} (h3 : I_realm M nt nw fa fb) (f1 : fr (fun q => q = 48 ∨ (50 ≤ q ∧ q < 110)) M M1) : I_realm M1 nt nw fa fb :=
  I_realm_fr h3 (f1 8 (by omega)) (f1 11 (by omega)) (f1 12 (by omega)) (f1 121 (by omega)) (f1 122 (by omega)) (fun j _ => by rw [f1 120 (by omega)])
theorem realm2 {M M1 : fp_Mem} {nt nw : Nat} {fa fb : Nat → Nat} (h3 : I_realm M nt nw fa fb) (f1 : fr (fun q => q = 131 ∨ q = 120) M M1) (g3 : ∀ j, j ≠ 23 → M1 120 j = M 120 j) : I_realm M1 nt nw fa fb :=
  I_realm_fr h3 (f1 8 (by omega)) (f1 11 (by omega)) (f1 12 (by omega)) (f1 121 (by omega)) (f1 122 (by omega)) (fun j _ => g3 j (by omega))
theorem realmS {M M1 : fp_Mem} {nt nw : Nat} {fa fb : Nat → Nat} (h3 : I_realm M nt nw fa fb) (f1 : fr (fun q => (13 ≤ q ∧ q < 16) ∨ q = 47 ∨ scr q ∨ q = 123) M M1) : I_realm M1 nt nw fa fb := by
  unfold scr at f1
  exact I_realm_fr h3 (f1 8 (by omega)) (f1 11 (by omega)) (f1 12 (by omega)) (f1 121 (by omega)) (f1 122 (by omega)) (fun j _ => by rw [f1 120 (by omega)])
theorem st_come {M : fp_Mem} (hI : fp_Inv M) (a1 : Int32) : ok_come M a1 := by
  have hI0 := hI
  obtain ⟨nt, nw, fa, fb, hP⟩ := hI
  have hP0 := hP
  obtain ⟨h1, h2, h3, h4, h5, h6, h7, h8, h9⟩ := hP
  obtain ⟨hS, se, si, w, hN, hb, hw, hw9⟩ := id h4
  have hn := h3.1.1
  have r1 : M 8 3 = nI nt := h3.1.2.2.1
  have r2 : M 120 1 = nI nt := h3.2.1.2.2.1
  have r3 : M 13 8 = M 123 24 := hS.2.2.2.2.2.2.2
  rcases q_tab a1 (n := nt) (by omega) with ⟨t, ht, rfl⟩ | hno
  · by_cases hfull : M 123 24 ≤ nI 9000
    · obtain ⟨M1, p1, f1, K⟩ := both_push h8 h4
      have h3a := realm1 h3 f1
      obtain ⟨M1', p2, s2, f2⟩ := c_guest (k := 21) h3a.1 (SR_fr hS f1 (by omega) (by omega) (by omega)) hN ht (by omega) (by omega) (by omega)
      have e12 : ∀ q, q = 120 ∨ q = 123 ∨ q = 131 → M1' q = M q := fun q hq => by rw [f2 q (by omega), f1 q (by omega)]
      obtain ⟨M2, p3, f3, g3, hH⟩ := K M1' (e12 120 (by omega)) (e12 123 (by omega)) (e12 131 (by omega))
      have f2' : fr (fun q => (13 ≤ q ∧ q < 16) ∨ scr q) M1 M1' := fr_mono f2 (fun q h => by unfold scr; omega)
      have h3b := realm2 (realmS h3a (fr_mono f2' (fun q h => by simp only [scr] at h ⊢; omega))) f3 g3
      obtain ⟨M2', p4, s4, f4⟩ := m_guest (f := M 123) h3b.2.1 (fun j _ => by rw [f3 123 (by omega), e12 123 (by omega)]) hN ht
      have hfine : M2 120 0 = M1 8 1 := by rw [g3 0 (by decide), e12 120 (by omega), f1 8 (by omega), h3.2.2.1]
      rw [hfine] at p4 s4
      refine ⟨(gR nt (adjN (M 123 19) fa fb nw) se si (M1 8 1) (M 123) t).1, M1', M2', ?_, ?_, act_inv1 hP0 f1 f2' f3 g3 hH (fr_mono f4 (fun q h => by unfold scr; omega)) s2 s4 (gR_SV hn ht hN hb hw hw9)⟩
      · rw [m_X11_come, c_hasTable_y r1 hn ht, fp_b1t, if_neg (by decide), r3, if_pos hfull, p1, fp_b1t, p2, fp_b2t]
      · have e24 : M1' 123 24 = M 123 24 := by rw [e12 123 (by omega)]
        rw [m_X12_come, m_isTable_y (by rw [e12 120 (by omega)]; exact r2) hn ht, fp_b1t, if_neg (by decide), fp_inN (show 24 < 25 by decide) (by decide), fp_gdt, q_cl (by decide), e24, if_pos hfull, p3, fp_b1t, p4, fp_b2t]
    · refine ⟨(-1000000004 : Int32), M, M, ?_, ?_, hI0⟩
      · rw [m_X11_come, c_hasTable_y r1 hn ht, fp_b1t, if_neg (by decide), r3, if_neg hfull]
      · rw [m_X12_come, m_isTable_y r2 hn ht, fp_b1t, if_neg (by decide), fp_inN (show 24 < 25 by decide) (by decide), fp_gdt, q_cl (by decide), if_neg hfull]
  · refine ⟨(-1000000001 : Int32), M, M, ?_, ?_, hI0⟩
    · rw [m_X11_come, c_hasTable_n r1 hno, fp_b1t, if_pos (by decide)]
    · rw [m_X12_come, m_isTable_n r2 hn hno, fp_b1t, if_pos (by decide)]
theorem st_go {M : fp_Mem} (hI : fp_Inv M) (a1 : Int32) : ok_go M a1 := by
  have hI0 := hI
  obtain ⟨nt, nw, fa, fb, hP⟩ := hI
  have hP0 := hP
  obtain ⟨h1, h2, h3, h4, h5, h6, h7, h8, h9⟩ := hP
  obtain ⟨hS, se, si, w, hN, hb, hw, hw9⟩ := id h4
  have hn := h3.1.1
  have r1 : M 8 3 = nI nt := h3.1.2.2.1
  have r2 : M 120 1 = nI nt := h3.2.1.2.2.1
  rcases q_tab a1 (n := nt) (by omega) with ⟨t, ht, rfl⟩ | hno
  · have ct : M 15 t = nI (si t) := (hS.1 t (by omega)).2.trans (hN t (by omega)).2.1
    have mt : M 123 (9 + t) = nI (si t) := (hN t (by omega)).2.1
    have hsi : si t ≤ 24 := Nat.le_trans (hN t (by omega)).2.2.1 (hN t (by omega)).2.2.2
    by_cases hz : si t = 0
    · refine ⟨(-1000000003 : Int32), M, M, ?_, ?_, hI0⟩
      · rw [m_X11_go, c_hasTable_y r1 hn ht, fp_b1t, if_neg (by decide), fp_inN (show t < 9 by omega) (by decide), fp_gdt, q_cl (by omega), ct, if_neg (by rw [q_0lt (by omega)]; omega)]
      · rw [m_X12_go, m_isTable_y r2 hn ht, fp_b1t, if_neg (by decide), nI_add, fp_inN (show 9 + t < 25 by omega) (by decide), fp_gdt, q_cl (by omega), mt, if_pos (by rw [hz]; rfl)]
    · obtain ⟨M1, p1, f1, K⟩ := both_push h8 h4
      have S1 := SR_fr hS f1 (by omega) (by omega) (by omega)
      generalize hM1 : fp_set M1 15 t (nI (si t - 1)) = M1'
      have f2 : fr (fun q => (13 ≤ q ∧ q < 16) ∨ scr q) M1 M1' := by rw [← hM1]; exact fr_set (by omega)
      have e12 : ∀ q, q = 120 ∨ q = 123 ∨ q = 131 → M1' q = M q := fun q hq => by rw [f2 q (by unfold scr; omega), f1 q (by omega)]
      obtain ⟨M2, p3, f3, g3, hH⟩ := K M1' (e12 120 (by omega)) (e12 123 (by omega)) (e12 131 (by omega))
      have R2 : ∀ j, M2 123 j = M 123 j := fun j => by rw [f3 123 (by omega), e12 123 (by omega)]
      have E123 : ∀ j, M1' 123 j = M 123 j := fun j => by rw [e12 123 (by omega)]
      have E120 : M1' 120 1 = nI nt := by rw [e12 120 (by omega)]; exact r2
      generalize hM2 : fp_set M2 123 (9 + t) (nI (si t - 1)) = M2'
      have f4 : fr (fun q => q = 123 ∨ scr q) M2 M2' := by rw [← hM2]; exact fr_set (Or.inl rfl)
      have hg : RW M2' (fun j => if j = 9 + t then nI (si t - 1) else M 123 j) := fun j hj => by
        rw [← hM2]
        simp only [set_q, R2, true_and]
      have hs : SR M1' 13 (fun j => if j = 9 + t then nI (si t - 1) else M 123 j) := by
        rw [← hM1]
        obtain ⟨a, b1, b2, b3, b4, b5, b6, b7⟩ := S1
        refine ⟨fun u hu => ⟨?_, ?_⟩, ?_, ?_, ?_, ?_, ?_, ?_, ?_⟩
        all_goals simp only [set_q]
        · rw [if_neg (by omega), if_neg (by omega)]; exact (a u hu).1
        · by_cases e : u = t
          · rw [if_pos ⟨trivial, e⟩, if_pos (by omega)]
          · rw [if_neg (fun h => e h.2), if_neg (by omega)]; exact (a u hu).2
        · rw [if_neg (by omega), if_neg (by omega)]; exact b1
        · rw [if_neg (by omega), if_neg (by omega)]; exact b2
        · rw [if_neg (by omega), if_neg (by omega)]; exact b3
        · rw [if_neg (by omega), if_neg (by omega)]; exact b4
        · rw [if_neg (by omega), if_neg (by omega)]; exact b5
        · rw [if_neg (by omega), if_neg (by omega)]; exact b6
        · rw [if_neg (by omega), if_neg (by omega)]; exact b7
      have M115 : M1 15 t = nI (si t) := by rw [f1 15 (by omega)]; exact ct
      refine ⟨nI (si t - 1), M1', M2', ?_, ?_, act_inv1 hP0 f1 f2 f3 g3 hH f4 hs hg ⟨se, fun u => if u = t then si t - 1 else si u, w, fun u hu => ?_, fun u hu => ⟨(hb u hu).1, fun h => ⟨((hb u hu).2 h).1, by show (if u = t then _ else _) = _; rw [if_neg (by omega)]; exact ((hb u hu).2 h).2⟩⟩, by show (if 18 = 9 + t then _ else _) = _; rw [if_neg (by omega)]; exact hw, hw9⟩⟩
      · rw [m_X11_go, c_hasTable_y r1 hn ht, fp_b1t, if_neg (by decide), fp_inN (show t < 9 by omega) (by decide), fp_gdt, q_cl (by omega), ct, if_pos (by rw [q_0lt (by omega)]; omega), p1, fp_b1t, fp_gdt, fp_gdt, fp_ltt, fp_gdt, M115, q_sub (by omega), hM1, ← hM1, set_at]
      · rw [m_X12_go, m_isTable_y E120 hn ht, fp_b1t, if_neg (by decide), nI_add, fp_inN (show 9 + t < 25 by omega) (by decide), fp_gdt, q_cl (by omega), E123, mt, if_neg (by rw [q_eq0 (by omega)]; exact hz), p3, fp_b1t, fp_gdt, fp_gdt, fp_ltt, fp_gdt, R2, mt, q_sub (by omega), hM2, ← hM2, set_at]
      · obtain ⟨x1, x2, x3, x4⟩ := hN u hu
        show (if u = 9 + t then _ else _) = _ ∧ (if 9 + u = 9 + t then _ else _) = nI (if u = t then si t - 1 else si u) ∧ (if u = t then si t - 1 else si u) ≤ _ ∧ _
        rw [if_neg (by omega)]
        by_cases e : u = t
        · subst e
          rw [if_pos rfl, if_pos rfl]
          exact ⟨x1, rfl, by omega, x4⟩
        · rw [if_neg (by omega), if_neg e]
          exact ⟨x1, x2, x3, x4⟩
  · refine ⟨(-1000000001 : Int32), M, M, ?_, ?_, hI0⟩
    · rw [m_X11_go, c_hasTable_n r1 hno, fp_b1t, if_pos (by decide)]
    · rw [m_X12_go, m_isTable_n r2 hn hno, fp_b1t, if_pos (by decide)]
theorem st_build {M : fp_Mem} (hI : fp_Inv M) (a1 : Int32) : ok_build M a1 := by
  have hI0 := hI
  obtain ⟨nt, nw, fa, fb, hP⟩ := hI
  have hP0 := hP
  obtain ⟨h1, h2, h3, h4, h5, h6, h7, h8, h9⟩ := hP
  obtain ⟨hS, se, si, w, hN, hb, hw, hw9⟩ := id h4
  have hn := h3.1.1
  have r1 : M 8 3 = nI nt := h3.1.2.2.1
  have r2 : M 120 1 = nI nt := h3.2.1.2.2.1
  rcases q_tab a1 (n := nt) (by omega) with ⟨t, ht, rfl⟩ | hno
  · have ct : M 14 t = nI (se t) := (hS.1 t (by omega)).1.trans (hN t (by omega)).1
    have mt : M 123 t = nI (se t) := (hN t (by omega)).1
    have cw : M 13 2 = nI w := hS.2.1.trans hw
    have hse : se t ≤ 20 := (hb t (by omega)).1
    by_cases hz : w = 0
    · refine ⟨(-1000000003 : Int32), M, M, ?_, ?_, hI0⟩
      · rw [m_X11_build, c_hasTable_y r1 hn ht, fp_b1t, if_neg (by decide), cw, if_pos (by rw [hz]; decide), m_X11_build_38]
      · rw [m_X12_build, m_isTable_y r2 hn ht, fp_b1t, if_neg (by decide), fp_inN (show 18 < 25 by omega) (by decide), fp_gdt, q_cl (by omega), hw, if_pos (by rw [hz]; rfl), m_X12_build_32]
    · by_cases h20 : se t = 20
      · refine ⟨(-1000000003 : Int32), M, M, ?_, ?_, hI0⟩
        · rw [m_X11_build, c_hasTable_y r1 hn ht, fp_b1t, if_neg (by decide), cw, if_neg (by rw [q_le0 (by omega)]; exact hz), fp_inN (show t < 9 by omega) (by decide), fp_gdt, q_cl (by omega), ct, if_neg (by rw [q_lt (by omega) (by decide)]; omega), m_X11_build_38]
        · rw [m_X12_build, m_isTable_y r2 hn ht, fp_b1t, if_neg (by decide), fp_inN (show 18 < 25 by omega) (by decide), fp_gdt, q_cl (by omega), hw, if_neg (by rw [q_eq0 (by omega)]; exact hz), fp_inN (show t < 25 by omega) (by decide), fp_gdt, q_cl (by omega), mt, if_pos (by rw [h20]), m_X12_build_32]
      · obtain ⟨M1, p1, f1, K⟩ := both_push h8 h4
        have S1 := SR_fr hS f1 (by omega) (by omega) (by omega)
        generalize hM1 : fp_set (fp_set M1 13 2 (nI (w - 1))) 14 t (nI (se t + 1)) = M1'
        have f2 : fr (fun q => (13 ≤ q ∧ q < 16) ∨ scr q) M1 M1' := by rw [← hM1]; exact fr_tr (fr_set (by omega)) (fr_set (by omega))
        have e12 : ∀ q, q = 120 ∨ q = 123 ∨ q = 131 → M1' q = M q := fun q hq => by rw [f2 q (by unfold scr; omega), f1 q (by omega)]
        obtain ⟨M2, p3, f3, g3, hH⟩ := K M1' (e12 120 (by omega)) (e12 123 (by omega)) (e12 131 (by omega))
        have R2 : ∀ j, M2 123 j = M 123 j := fun j => by rw [f3 123 (by omega), e12 123 (by omega)]
        have E123 : ∀ j, M1' 123 j = M 123 j := fun j => by rw [e12 123 (by omega)]
        have E120 : M1' 120 1 = nI nt := by rw [e12 120 (by omega)]; exact r2
        generalize hM2 : fp_set (fp_set M2 123 18 (nI (w - 1))) 123 t (nI (se t + 1)) = M2'
        have f4 : fr (fun q => q = 123 ∨ scr q) M2 M2' := by rw [← hM2]; exact fr_tr (fr_set (Or.inl rfl)) (fr_set (Or.inl rfl))
        have hg : RW M2' (fun j => if j = t then nI (se t + 1) else if j = 18 then nI (w - 1) else M 123 j) := fun j hj => by
          rw [← hM2]
          simp only [set_q, R2, true_and]
        have hs : SR M1' 13 (fun j => if j = t then nI (se t + 1) else if j = 18 then nI (w - 1) else M 123 j) := by
          rw [← hM1]
          obtain ⟨a, b1, b2, b3, b4, b5, b6, b7⟩ := S1
          refine ⟨fun u hu => ⟨?_, ?_⟩, ?_, ?_, ?_, ?_, ?_, ?_, ?_⟩
          all_goals simp only [set_q]
          · by_cases e : u = t
            · rw [if_pos ⟨trivial, e⟩, if_pos e]
            · rw [if_neg (fun h => e h.2), if_neg (by omega), if_neg e, if_neg (by omega)]; exact (a u hu).1
          · rw [if_neg (by omega), if_neg (by omega), if_neg (by omega), if_neg (by omega)]; exact (a u hu).2
          · have e18 : ¬ (18 : Nat) = t := by omega
            simp [e18]
          · rw [if_neg (by omega), if_neg (by omega), if_neg (by omega), if_neg (by omega)]; exact b2
          · rw [if_neg (by omega), if_neg (by omega), if_neg (by omega), if_neg (by omega)]; exact b3
          · rw [if_neg (by omega), if_neg (by omega), if_neg (by omega), if_neg (by omega)]; exact b4
          · rw [if_neg (by omega), if_neg (by omega), if_neg (by omega), if_neg (by omega)]; exact b5
          · rw [if_neg (by omega), if_neg (by omega), if_neg (by omega), if_neg (by omega)]; exact b6
          · rw [if_neg (by omega), if_neg (by omega), if_neg (by omega), if_neg (by omega)]; exact b7
        have M115 : M1 14 t = nI (se t) := by rw [f1 14 (by omega)]; exact ct
        have M113 : M1 13 2 = nI w := by rw [f1 13 (by omega)]; exact cw
        refine ⟨nI (se t + 1), M1', M2', ?_, ?_, act_inv1 hP0 f1 f2 f3 g3 hH f4 hs hg ⟨fun u => if u = t then se t + 1 else se u, si, w - 1, fun u hu => ?_, fun u hu => ⟨?_, fun h => ⟨?_, ((hb u hu).2 h).2⟩⟩, ?_, by omega⟩⟩
        · rw [m_X11_build, c_hasTable_y r1 hn ht, fp_b1t, if_neg (by decide), cw, if_neg (by rw [q_le0 (by omega)]; exact hz), fp_inN (show t < 9 by omega) (by decide), fp_gdt, q_cl (by omega), ct, if_pos (nI_lt (by omega) (by decide)), p1, fp_b1t, M113, q_sub (by omega), fp_ltt, fp_gdt, fp_gdt, fp_ltt, fp_gdt, set_off (show 14 ≠ 13 by decide), M115, nI_add, hM1, ← hM1, set_at]
        · rw [m_X12_build, m_isTable_y E120 hn ht, fp_b1t, if_neg (by decide), fp_inN (show 18 < 25 by omega) (by decide), fp_gdt, q_cl (show 18 < 2 ^ 31 by omega), E123, hw, if_neg (by rw [q_eq0 (by omega)]; exact hz), fp_inN (show t < 25 by omega) (by decide), fp_gdt, q_cl (show t < 2 ^ 31 by omega), E123, mt, if_neg (by rw [q_eq (by omega) (by decide)]; exact h20), p3, fp_b1t, fp_gdt, fp_gdt, fp_ltt, fp_gdt, fp_gdt, fp_ltt, fp_gdt, R2, hw, q_sub (by omega), set_ne (show t ≠ 18 by omega), R2, mt, nI_add, hM2, ← hM2, set_at]
        · obtain ⟨x1, x2, x3, x4⟩ := hN u hu
          show (if u = t then nI (se t + 1) else if u = 18 then _ else _) = nI (if u = t then se t + 1 else se u) ∧ (if 9 + u = t then _ else if 9 + u = 18 then _ else _) = _ ∧ _ ≤ (if u = t then se t + 1 else se u) ∧ (if u = t then se t + 1 else se u) ≤ 24
          by_cases e : u = t
          · subst e
            simp only [if_true]
            refine ⟨trivial, ?_, by omega, by omega⟩
            rw [if_neg (by omega), if_neg (by omega)]
            exact x2
          · rw [if_neg e, if_neg (by omega), if_neg e, if_neg (by omega), if_neg (by omega)]
            exact ⟨x1, x2, x3, x4⟩
        · show (if u = t then se t + 1 else se u) ≤ 20
          have := (hb u hu).1
          by_cases e : u = t
          · rw [if_pos e]; omega
          · rw [if_neg e]; exact this
        · show (if u = t then se t + 1 else se u) = 0
          rw [if_neg (by omega)]
          exact ((hb u hu).2 h).1
        · show (if 18 = t then _ else if 18 = 18 then _ else _) = _
          rw [if_neg (by omega), if_pos rfl]
  · refine ⟨(-1000000001 : Int32), M, M, ?_, ?_, hI0⟩
    · rw [m_X11_build, c_hasTable_n r1 hno, fp_b1t, if_pos (by decide)]
    · rw [m_X12_build, m_isTable_n r2 hn hno, fp_b1t, if_pos (by decide)]
theorem st_breakOne {M : fp_Mem} (hI : fp_Inv M) (a1 : Int32) : ok_breakOne M a1 := by
  have hI0 := hI
  obtain ⟨nt, nw, fa, fb, hP⟩ := hI
  have hP0 := hP
  obtain ⟨h1, h2, h3, h4, h5, h6, h7, h8, h9⟩ := hP
  obtain ⟨hS, se, si, w, hN, hb, hw, hw9⟩ := id h4
  have hn := h3.1.1
  have r1 : M 8 3 = nI nt := h3.1.2.2.1
  have r2 : M 120 1 = nI nt := h3.2.1.2.2.1
  rcases q_tab a1 (n := nt) (by omega) with ⟨t, ht, rfl⟩ | hno
  · have ct : M 14 t = nI (se t) := (hS.1 t (by omega)).1.trans (hN t (by omega)).1
    have mt : M 123 t = nI (se t) := (hN t (by omega)).1
    have hse : se t ≤ 20 := (hb t (by omega)).1
    have cf : m_X9_free M 13 (nI t) = some (nI (se t - si t)) := c_free (SR_CS hS hN) (by omega)
    have mf : m_X12_free M (nI t) = some (nI (se t - si t)) := m_free (fun u hu => hN u hu) (by omega)
    by_cases hz : se t - si t = 0
    · refine ⟨(-1000000003 : Int32), M, M, ?_, ?_, hI0⟩
      · rw [m_X11_breakOne, c_hasTable_y r1 hn ht, fp_b1t, if_neg (by decide), cf, fp_b1t, if_neg (by rw [hz]; decide)]
      · rw [m_X12_breakOne, m_isTable_y r2 hn ht, fp_b1t, if_neg (by decide), mf, fp_b1t, if_neg (by rw [hz]; decide)]
    · obtain ⟨M1, p1, f1, K⟩ := both_push h8 h4
      have S1 := SR_fr hS f1 (by omega) (by omega) (by omega)
      generalize hM1 : fp_set M1 14 t (nI (se t - 1)) = M1'
      have f2 : fr (fun q => (13 ≤ q ∧ q < 16) ∨ scr q) M1 M1' := by rw [← hM1]; exact fr_set (by omega)
      have e12 : ∀ q, q = 120 ∨ q = 123 ∨ q = 131 → M1' q = M q := fun q hq => by rw [f2 q (by unfold scr; omega), f1 q (by omega)]
      obtain ⟨M2, p3, f3, g3, hH⟩ := K M1' (e12 120 (by omega)) (e12 123 (by omega)) (e12 131 (by omega))
      have R2 : ∀ j, M2 123 j = M 123 j := fun j => by rw [f3 123 (by omega), e12 123 (by omega)]
      have E123 : ∀ j, M1' 123 j = M 123 j := fun j => by rw [e12 123 (by omega)]
      have E120 : M1' 120 1 = nI nt := by rw [e12 120 (by omega)]; exact r2
      generalize hM2 : fp_set M2 123 t (nI (se t - 1)) = M2'
      have f4 : fr (fun q => q = 123 ∨ scr q) M2 M2' := by rw [← hM2]; exact fr_set (Or.inl rfl)
      have hg : RW M2' (fun j => if j = t then nI (se t - 1) else M 123 j) := fun j hj => by
        rw [← hM2]
        simp only [set_q, R2, true_and]
      have hs : SR M1' 13 (fun j => if j = t then nI (se t - 1) else M 123 j) := by
        rw [← hM1]
        obtain ⟨a, b1, b2, b3, b4, b5, b6, b7⟩ := S1
        refine ⟨fun u hu => ⟨?_, ?_⟩, ?_, ?_, ?_, ?_, ?_, ?_, ?_⟩
        all_goals simp only [set_q]
        · by_cases e : u = t
          · rw [if_pos ⟨trivial, e⟩, if_pos e]
          · rw [if_neg (fun h => e h.2), if_neg e]; exact (a u hu).1
        · rw [if_neg (by omega), if_neg (by omega)]; exact (a u hu).2
        · rw [if_neg (by omega), if_neg (by omega)]; exact b1
        · rw [if_neg (by omega), if_neg (by omega)]; exact b2
        · rw [if_neg (by omega), if_neg (by omega)]; exact b3
        · rw [if_neg (by omega), if_neg (by omega)]; exact b4
        · rw [if_neg (by omega), if_neg (by omega)]; exact b5
        · rw [if_neg (by omega), if_neg (by omega)]; exact b6
        · rw [if_neg (by omega), if_neg (by omega)]; exact b7
      have M115 : M1 14 t = nI (se t) := by rw [f1 14 (by omega)]; exact ct
      have mf2 : m_X12_free M1' (nI t) = some (nI (se t - si t)) := m_free (fun u hu => by rw [E123, E123]; exact hN u hu) (by omega)
      refine ⟨nI (se t - 1), M1', M2', ?_, ?_, act_inv1 hP0 f1 f2 f3 g3 hH f4 hs hg ⟨fun u => if u = t then se t - 1 else se u, si, w, fun u hu => ?_, fun u hu => ⟨?_, fun h => ⟨?_, ((hb u hu).2 h).2⟩⟩, ?_, hw9⟩⟩
      · rw [m_X11_breakOne, c_hasTable_y r1 hn ht, fp_b1t, if_neg (by decide), cf, fp_b1t, if_pos (by rw [q_0lt (by omega)]; omega), p1, fp_b1t, fp_inN (show t < 9 by omega) (by decide), fp_gdt, fp_gdt, fp_ltt, fp_gdt, q_cl (by omega), M115, q_sub (by omega), hM1, ← hM1, set_at]
      · rw [m_X12_breakOne, m_isTable_y E120 hn ht, fp_b1t, if_neg (by decide), mf2, fp_b1t, if_pos (nI_le (by omega) (by omega)), p3, fp_b1t, fp_inN (show t < 25 by omega) (by decide), fp_gdt, fp_gdt, fp_ltt, fp_gdt, q_cl (by omega), R2, mt, q_sub (by omega), hM2, ← hM2, set_at]
      · obtain ⟨x1, x2, x3, x4⟩ := hN u hu
        show (if u = t then nI (se t - 1) else _) = nI (if u = t then se t - 1 else se u) ∧ (if 9 + u = t then _ else _) = _ ∧ _ ≤ (if u = t then se t - 1 else se u) ∧ (if u = t then se t - 1 else se u) ≤ 24
        by_cases e : u = t
        · subst e
          simp only [if_true]
          refine ⟨trivial, ?_, by omega, by omega⟩
          rw [if_neg (by omega)]
          exact x2
        · rw [if_neg e, if_neg e, if_neg (by omega)]
          exact ⟨x1, x2, x3, x4⟩
      · show (if u = t then se t - 1 else se u) ≤ 20
        have := (hb u hu).1
        by_cases e : u = t
        · rw [if_pos e]; omega
        · rw [if_neg e]; exact this
      · show (if u = t then se t - 1 else se u) = 0
        rw [if_neg (by omega)]
        exact ((hb u hu).2 h).1
      · show (if 18 = t then _ else _) = _
        rw [if_neg (by omega)]
        exact hw
  · refine ⟨(-1000000001 : Int32), M, M, ?_, ?_, hI0⟩
    · rw [m_X11_breakOne, c_hasTable_n r1 hno, fp_b1t, if_pos (by decide)]
    · rw [m_X12_breakOne, m_isTable_n r2 hn hno, fp_b1t, if_pos (by decide)]
theorem isShut16_0 (M : fp_Mem) (k : Nat) (p : Int32) : m_X9_isShut_16 M k p (nI 0) = some (nI 0) := rfl
theorem isShut16_1 (M : fp_Mem) (k : Nat) (p : Int32) : m_X9_isShut_16 M k p (nI 1) = some (nI 1) := rfl
theorem st_shut {M : fp_Mem} (hI : fp_Inv M) (a1 : Int32) (a2 : Int32) (hz1 : fp_zb a2 = true) : ok_shut M a1 a2 := by
  have hI0 := hI
  obtain ⟨nt, nw, fa, fb, hP⟩ := hI
  have hP0 := hP
  obtain ⟨h1, h2, h3, h4, h5, h6, h7, h8, h9⟩ := hP
  obtain ⟨hS, se, si, w, hN, hb, hw, hw9⟩ := id h4
  have hn := h3.1.1
  have r1 : M 8 3 = nI nt := h3.1.2.2.1
  have r2 : M 120 1 = nI nt := h3.2.1.2.2.1
  have hnw := h3.1.2.1
  have w1 : M 8 4 = nI nw := h3.1.2.2.2.1
  have w2 : M 120 2 = nI nw := h3.2.1.2.2.2.1
  rcases q_tab a1 (n := nw) hnw with ⟨t, ht, rfl⟩ | hno
  · have c3 : M 13 3 = M 123 19 := hS.2.2.1
    generalize hY : (if a2 = 0 then M 123 19 &&& (((nI 1) <<< (nI t &&& 31)) ^^^ (-1 : Int32)) else M 123 19 ||| ((nI 1) <<< (nI t &&& 31))) = y
    have hb01 := q_bit01 (M 123 19) (w := t) (by omega)
    obtain ⟨M1, p1, f1, K⟩ := both_push h8 h4
    have S1 := SR_fr hS f1 (by omega) (by omega) (by omega)
    generalize hM1 : fp_set M1 13 3 y = M1'
    have f2 : fr (fun q => (13 ≤ q ∧ q < 16) ∨ scr q) M1 M1' := by rw [← hM1]; exact fr_set (by omega)
    have e12 : ∀ q, q = 120 ∨ q = 123 ∨ q = 131 → M1' q = M q := fun q hq => by rw [f2 q (by unfold scr; omega), f1 q (by omega)]
    obtain ⟨M2, p3, f3, g3, hH⟩ := K M1' (e12 120 (by omega)) (e12 123 (by omega)) (e12 131 (by omega))
    have R2 : ∀ j, M2 123 j = M 123 j := fun j => by rw [f3 123 (by omega), e12 123 (by omega)]
    have E123 : ∀ j, M1' 123 j = M 123 j := fun j => by rw [e12 123 (by omega)]
    have E120 : M1' 120 1 = nI nt := by rw [e12 120 (by omega)]; exact r2
    generalize hM2 : fp_set M2 123 19 y = M2'
    have f4 : fr (fun q => q = 123 ∨ scr q) M2 M2' := by rw [← hM2]; exact fr_set (Or.inl rfl)
    have hg : RW M2' (fun j => if j = 19 then y else M 123 j) := fun j hj => by
      rw [← hM2]
      simp only [set_q, R2, true_and]
    have hs : SR M1' 13 (fun j => if j = 19 then y else M 123 j) := by
      rw [← hM1]
      obtain ⟨a, b1, b2, b3, b4, b5, b6, b7⟩ := S1
      refine ⟨fun u hu => ⟨?_, ?_⟩, ?_, ?_, ?_, ?_, ?_, ?_, ?_⟩
      all_goals simp only [set_q]
      · rw [if_neg (by omega), if_neg (by omega)]; exact (a u hu).1
      · rw [if_neg (by omega), if_neg (by omega)]; exact (a u hu).2
      · rw [if_neg (by omega), if_neg (by omega)]; exact b1
      · rw [if_pos ⟨trivial, trivial⟩, if_pos trivial]
      · rw [if_neg (by omega), if_neg (by omega)]; exact b3
      · rw [if_neg (by omega), if_neg (by omega)]; exact b4
      · rw [if_neg (by omega), if_neg (by omega)]; exact b5
      · rw [if_neg (by omega), if_neg (by omega)]; exact b6
      · rw [if_neg (by omega), if_neg (by omega)]; exact b7
    have M13 : M1 13 3 = M 123 19 := by rw [f1 13 (by omega)]; exact c3
    refine ⟨(M 123 19 >>> (nI t &&& 31)) &&& nI 1, M1', M2', ?_, ?_, act_inv1 hP0 f1 f2 f3 g3 hH f4 hs hg ⟨se, si, w, fun u hu => ?_, hb, ?_, hw9⟩⟩
    · have hset : m_X9_setShut M1 13 (nI t) a2 = some M1' := by
        rw [m_X9_setShut, M13]
        by_cases e : a2 = 0
        · rw [if_pos e, m_X9_setShut_26, fp_ltt]
          rw [if_pos e] at hY
          rw [hY, hM1]
        · rw [if_neg e, m_X9_setShut_26, fp_ltt]
          rw [if_neg e] at hY
          rw [hY, hM1]
      rw [m_X11_shut, c_hasWay_y w1 hnw ht, fp_b1t, if_neg (by decide), m_X9_isShut, c3]
      rcases hb01 with h01 | h01
      · rw [if_pos h01, isShut16_0, fp_b1t, if_pos (by decide), m_X11_shut_30, p1, fp_b1t, hset, fp_b1t, h01]
        rfl
      · rw [if_neg (by rw [h01]; decide), isShut16_1, fp_b1t, if_neg (by decide), m_X11_shut_30, p1, fp_b1t, hset, fp_b1t, h01]
    · have E2 : M1' 120 2 = nI nw := by rw [e12 120 (by omega)]; exact w2
      rw [m_X12_shut, E2, m_in0_y M1' ht hnw, fp_b1t, if_neg (by decide), p3, fp_b1t, fp_inN (show 19 < 25 by omega) (by decide), fp_gdt, q_cl (by omega), R2, fp_ltt, fp_gdt, fp_gdt, m_X12_shut_72, m_X12_shut_72, fp_inN (show 19 < 25 by omega) (by decide), fp_gdt, fp_gdt, fp_ltt, fp_ltt, q_cl (by omega)]
      by_cases e : a2 = 0
      · rw [if_pos e] at hY ⊢
        rw [hY, hM2]
      · rw [if_neg e] at hY ⊢
        rw [hY, hM2]
    · show (if u = 19 then _ else _) = _ ∧ (if 9 + u = 19 then _ else _) = _ ∧ _
      rw [if_neg (by omega), if_neg (by omega)]
      exact hN u hu
    · show (if 18 = 19 then _ else _) = _
      rw [if_neg (by omega)]
      exact hw
  · refine ⟨(-1000000001 : Int32), M, M, ?_, ?_, hI0⟩
    · rw [m_X11_shut, c_hasWay_n w1 hno, fp_b1t, if_pos (by decide)]
    · rw [m_X12_shut, w2, m_in0_n M hnw hno, fp_b1t, if_pos (by decide)]

/-! what is asked: chains of both -/
theorem q_nb0 : vp_nar .boolean (nI 0) = nI 0 := by decide +kernel
theorem q_nb1 : vp_nar .boolean (nI 1) = nI 1 := by decide +kernel
theorem InvS {M M' : fp_Mem} {nt nw : Nat} {fa fb : Nat → Nat} (h : InvP M nt nw fa fb) (hf : fr scr M M') : fp_Inv M' := ⟨nt, nw, fa, fb, InvP_fr h hf⟩
theorem both_away {M : fp_Mem} {nt nw : Nat} {fa fb : Nat → Nat} {se si : Nat → Nat} (h3 : I_realm M nt nw fa fb) (hS : SR M 13 (M 123)) (hN : NR (M 123) se si) :
    ∃ M1, m_X2_measure M 16 8 13 = some M1 ∧ CC M1 16 nt (adjN (M 123 19) fa fb nw) (fun t => decide (2 ≤ se t - si t)) ∧ fr scr M M1 ∧
      ∀ M1' : fp_Mem, fr scr M M1' → ∃ M2, m_X12_findAway M1' = some M2 ∧ MC M2 nt nw fa fb (adjN (M 123 19) fa fb nw) (fun t => decide (2 ≤ se t - si t)) ∧ fr scr M1' M2 := by
  obtain ⟨M1, p1, C1, f1⟩ := c_measure (k := 16) h3.1 (SR_CS hS hN) (by omega) (by omega)
  rw [hS.2.2.1] at C1
  refine ⟨M1, p1, C1, fr_mono f1 (fun q h => by simp only [scr]; omega), fun M1' f2 => ?_⟩
  have e123 : M1' 123 = M 123 := f2 123 (by simp only [scr]; omega)
  have h3a : I_realm M1' nt nw fa fb := realmS h3 (fr_mono f2 (fun q h => by simp only [scr] at h ⊢; omega))
  obtain ⟨M2, p2, f3, hv⟩ := m_findAway h3a.2.1 (RW_MS (f := M1' 123) (fun _ _ => rfl) (by rw [e123]; exact hN))
  rw [e123] at hv
  exact ⟨M2, p2, ⟨MR_fr h3a.2.1 f3, by rw [f3 123 (by decide), e123], hv⟩, fr_mono f3 (fun q h => by simp only [scr]; omega)⟩
theorem mvI_lt {d : Nat} (h : d < 9) : mvI d = nI d := if_pos h
theorem mvI_ge {d : Nat} (h : ¬ d < 9) : mvI d = -1 := if_neg h
theorem q_dv1000 (d : Nat) : (nI (dv d) = nI 1000) = ¬ d < 9 := by
  have h := dv_le d
  rw [q_eq (by omega) (by decide)]
  unfold dv
  by_cases h9 : d < 9
  · rw [if_pos h9]
    exact propext ⟨fun e => by omega, fun e => absurd h9 e⟩
  · rw [if_neg h9]
    exact propext ⟨fun _ => h9, fun _ => rfl⟩
theorem st_chain {M : fp_Mem} (hI : fp_Inv M) (a1 : Int32) (a2 : Int32) : ok_chain M a1 a2 := by
  have hI0 := hI
  obtain ⟨nt, nw, fa, fb, hP⟩ := hI
  have hP0 := hP
  obtain ⟨h1, h2, h3, h4, h5, h6, h7, h8, h9⟩ := hP
  obtain ⟨hS, se, si, w, hN, hb, hw, hw9⟩ := id h4
  have hn := h3.1.1
  have r1 : M 8 3 = nI nt := h3.1.2.2.1
  have r2 : M 120 1 = nI nt := h3.2.1.2.2.1
  rcases q_tab a1 (n := nt) (by omega) with ⟨t, ht, rfl⟩ | hno
  · obtain ⟨M1, p1, C1, f1, K⟩ := both_away h3 hS hN
    obtain ⟨M2, p2, C2, f2⟩ := K M1 f1
    have hIv : fp_Inv M2 := InvS hP0 (fr_tr f1 f2)
    have r3 : M1 120 1 = nI nt := by rw [f1 120 (by simp only [scr]; omega)]; exact r2
    have e130 := C2.2.2 t (by omega)
    have cl : ∀ x, (if a2 = (-1 : Int32) then m_X2_movesFrom M1 16 (nI t) else m_X2_tableOf M1 16 (nI t) a2) = some x → m_X11_chain M (nI t) a2 = some (x, M1) := by
      intro x hx
      rw [m_X11_chain, c_hasTable_y r1 hn ht, fp_b1t, if_neg (by decide), p1, fp_b1t]
      by_cases e : a2 = (-1 : Int32)
      · rw [if_pos e] at hx ⊢
        rw [hx, fp_b1t, m_X11_chain_54]
      · rw [if_neg e] at hx ⊢
        rw [hx, fp_b1t, m_X11_chain_54]
    have mo : ∀ y, (if nI (dv (dst nt (adjN (M 123 19) fa fb nw) (fun t => decide (2 ≤ se t - si t)) t)) = nI 1000 then some ((-1 : Int32), M2) else if a2 = (-1 : Int32) then some (nI (dv (dst nt (adjN (M 123 19) fa fb nw) (fun t => decide (2 ≤ se t - si t)) t)), M2) else fp_b1 (m_X12_in M2 (Int32.toInt64 a2) (lN 0) (Int32.toInt64 (nI (dv (dst nt (adjN (M 123 19) fa fb nw) (fun t => decide (2 ≤ se t - si t)) t))))) fun r_10 => if r_10 = 0 then some ((-1 : Int32), M2) else m_X12_chain_64 (nI t) a2 fp_fu (nI t) (nI 0) M2) = some y → m_X12_chain M1 (nI t) a2 = some y := by
      intro y hy
      rw [m_X12_chain, m_isTable_y r3 hn ht, fp_b1t, if_neg (by decide), p2, fp_b1t, fp_inN (show t < 9 by omega) (by decide), fp_gdt, fp_gdt, fp_gdt, q_cl (by omega), e130]
      exact hy
    generalize hA : adjN (M 123 19) fa fb nw = A at C1 C2 mo
    generalize hO : (fun t => decide (2 ≤ se t - si t)) = O at C1 C2 mo
    have hq := q_dv1000 (dst nt A O t)
    by_cases h9 : dst nt A O t < 9
    · have k9 : ¬ nI (dv (dst nt A O t)) = nI 1000 := by rw [hq]; exact fun h => h h9
      rw [if_neg k9, dv_lt _ h9] at mo
      by_cases e : a2 = (-1 : Int32)
      · rw [if_pos e] at mo cl
        exact ⟨nI (dst nt A O t), M1, M2, cl _ (by rw [cc_movesFrom C1 hn ht, mvI_lt h9]), mo _ rfl, hIv⟩
      · rw [if_neg e] at mo cl
        rw [nI_l (show dst nt A O t < 2 ^ 31 by omega)] at mo
        rcases q_rng a2 (b := dst nt A O t) (by omega) with ⟨c, hc, rfl⟩ | hout
        · exact ⟨nI (chn nt A O t c), M1, M2, cl _ (cc_tableOf_y C1 hn ht h9 hc), mo _ (by rw [q_in_y (Nat.zero_le _) hc (by omega), fp_b1t, if_neg (by decide), m_walk C2 ht h9 hc]), hIv⟩
        · refine ⟨-1, M1, M2, cl _ (cc_tableOf_n C1 hn ht ?_), mo _ (by rw [q_in_n hout (by omega), fp_b1t, if_pos (by decide)]), hIv⟩
          rw [mvI_lt h9]
          rcases hout with h | ⟨_, h⟩
          · exact Or.inl h
          · exact Or.inr (Int32.not_le.mpr h)
    · have k9 : nI (dv (dst nt A O t)) = nI 1000 := by rw [hq]; exact h9
      rw [if_pos k9] at mo
      refine ⟨-1, M1, M2, cl _ ?_, mo _ rfl, hIv⟩
      by_cases e : a2 = (-1 : Int32)
      · rw [if_pos e, cc_movesFrom C1 hn ht, mvI_ge h9]
      · rw [if_neg e, cc_tableOf_n C1 hn ht]
        rw [mvI_ge h9]
        by_cases h0 : a2 < 0
        · exact Or.inl h0
        · refine Or.inr (Int32.not_le.mpr ?_)
          obtain ⟨j, hj, rfl⟩ := nI_of h0
          exact Int32.lt_of_lt_of_le (by decide) (nI_pos' hj)
  · refine ⟨(-1000000001 : Int32), M, M, ?_, ?_, hI0⟩
    · rw [m_X11_chain, c_hasTable_n r1 hno, fp_b1t, if_pos (by decide)]
    · rw [m_X12_chain, m_isTable_n r2 hn hno, fp_b1t, if_pos (by decide)]
theorem far_some {v : Nat → Nat} : ∀ n, (farS v n).2 = 0 ↔ (farS v n).1 = none := by
  intro n
  rcases farS_inv v n with ⟨h1, h2, h3⟩ | ⟨b, h1, h2, h3⟩
  · rw [h1, h2]
    exact ⟨fun _ => rfl, fun _ => rfl⟩
  · rw [h2, h3]
    exact ⟨fun h => by omega, fun h => by cases h⟩
theorem st_far {M : fp_Mem} (hI : fp_Inv M) (a1 : Int32) : ok_far M a1 := by
  have hI0 := hI
  obtain ⟨nt, nw, fa, fb, hP⟩ := hI
  have hP0 := hP
  obtain ⟨h1, h2, h3, h4, h5, h6, h7, h8, h9⟩ := hP
  obtain ⟨hS, se, si, w, hN, hb, hw, hw9⟩ := id h4
  have hn := h3.1.1
  have r1 : M 8 3 = nI nt := h3.1.2.2.1
  have r2 : M 120 1 = nI nt := h3.2.1.2.2.1
  rcases q_rng a1 (b := 1) (by decide) with ⟨c, hc, rfl⟩ | hout
  · obtain ⟨M1, p1, C1, f1, K⟩ := both_away h3 hS hN
    obtain ⟨M2, p2, C2, f2⟩ := K M1 f1
    have hIv : fp_Inv M2 := InvS hP0 (fr_tr f1 f2)
    generalize hA : adjN (M 123 19) fa fb nw = A at C1 C2
    generalize hO : (fun t => decide (2 ≤ se t - si t)) = O at C1 C2
    have hm := m_far C2 (nI c)
    have hf := cc_farthest C1 hn
    have hinv := farS_inv (fun t => dv (dst nt A O t)) nt
    generalize hF : farS (fun t => dv (dst nt A O t)) nt = F at hm hf hinv
    by_cases e : c = 0
    · subst e
      rw [if_neg (by decide)] at hm
      have hmv : m_X2_movesFrom M1 16 (oI F.1) = some (if F.2 = 1001 then -1 else mI F.2) := by
        rcases hinv with ⟨g1, g2, g3⟩ | ⟨b, g1, g2, g3⟩
        · rw [g1, g2]
          exact cc_movesFrom_m1
        · rw [g2, g3]
          show m_X2_movesFrom M1 16 (nI b) = _
          rw [cc_movesFrom C1 hn g1, mI, if_neg (show ¬ dv (dst nt A O b) + 1 = 0 by omega), Nat.add_sub_cancel]
          by_cases h9 : dst nt A O b < 9
          · rw [mvI_lt h9, dv_lt _ h9, if_neg (by omega)]
          · rw [mvI_ge h9, dv_ge _ h9, if_pos rfl]
      refine ⟨(if F.2 = 1001 then -1 else mI F.2), M1, M2, ?_, ?_, hIv⟩
      · rw [m_X11_far, if_neg (by decide), if_pos (by decide), p1, fp_b1t, hf, fp_b1t, if_pos (by decide), hmv, fp_b1t, m_X11_far_51]
      · rw [m_X12_far, q_in_y (Nat.zero_le _) hc (by decide), fp_b1t, if_neg (by decide), p2, fp_b1t, hm]
    · obtain rfl : c = 1 := by omega
      rw [if_pos rfl] at hm
      refine ⟨oI F.1, M1, M2, ?_, ?_, hIv⟩
      · rw [m_X11_far, if_neg (by decide), if_pos (by decide), p1, fp_b1t, hf, fp_b1t, if_neg (by decide), m_X11_far_51]
      · rw [m_X12_far, q_in_y (Nat.zero_le _) hc (by decide), fp_b1t, if_neg (by decide), p2, fp_b1t, hm]
  · refine ⟨(-1000000002 : Int32), M, M, ?_, ?_, hI0⟩
    · rw [m_X11_far]
      rcases hout with h | ⟨ha, hb⟩
      · rw [if_pos h, m_X11_far_9]
      · rw [if_neg ha, if_neg (Int32.not_le.mpr hb), m_X11_far_9]
    · rw [m_X12_far, q_in_n hout (by decide), fp_b1t, if_pos (by decide)]
theorem st_told {M : fp_Mem} (hI : fp_Inv M) (a1 : Int32) : ok_told M a1 := by
  have hI0 := hI
  obtain ⟨nt, nw, fa, fb, hP⟩ := hI
  have hP0 := hP
  obtain ⟨h1, h2, h3, h4, h5, h6, h7, h8, h9⟩ := hP
  obtain ⟨hS, se, si, w, hN, hb, hw, hw9⟩ := id h4
  have hn := h3.1.1
  have r1 : M 8 3 = nI nt := h3.1.2.2.1
  have r2 : M 120 1 = nI nt := h3.2.1.2.2.1
  have w1 : M 8 4 = nI nw := h3.1.2.2.2.1
  have w2 : M 120 2 = nI nw := h3.2.1.2.2.2.1
  have x4 : M 1 2 = M 120 9 := by
    obtain ⟨len, _, a, b, _⟩ := h1
    rw [a, b]
  have x14 : M 43 0 = M 120 27 := by
    obtain ⟨c, _, a, b, _⟩ := h6
    rw [a, b]
  have x15 : M 44 0 = M 120 30 := by
    obtain ⟨c, _, a, b, _⟩ := h7
    rw [a, b]
  have x16 : M 48 0 = M 120 23 := by
    obtain ⟨c, _, _, _, a, b, _⟩ := h8
    rw [a, b]
  have hsum : isum (M (13 + 2)) 9 = isum (fun t => M 123 (9 + t)) nt := by
    have hm : isum (M (13 + 2)) (nt + (9 - nt)) = isum (M (13 + 2)) nt := by
      apply isum_more
      intro i h1 h2
      rw [(hS.1 i (by omega)).2, (hN i (by omega)).2.1, ((hb i (by omega)).2 h1).2]
    rw [show nt + (9 - nt) = 9 by omega] at hm
    rw [hm]
    exact isum_ext (fun i hi => (hS.1 i (by omega)).2)
  by_cases e0 : a1 = nI 0
  · exact ⟨M 8 1, M, M, by rw [m_X11_told, if_pos e0], by rw [m_X12_told, if_pos e0, (show M 8 1 = _ from h3.2.2.1)], hI0⟩
  by_cases e1 : a1 = nI 1
  · exact ⟨M 13 2, M, M, by rw [m_X11_told, if_neg e0, if_pos e1], by rw [m_X12_told, if_neg e0, if_pos e1, fp_inN (show 18 < 25 by decide) (by decide), fp_gdt, q_cl (by decide), (show M 13 2 = _ from hS.2.1)], hI0⟩
  by_cases e2 : a1 = nI 2
  · exact ⟨M 8 3, M, M, by rw [m_X11_told, if_neg e0, if_neg e1, if_pos e2], by rw [m_X12_told, if_neg e0, if_neg e1, if_pos e2, (show M 8 3 = _ from r1.trans r2.symm)], hI0⟩
  by_cases e3 : a1 = nI 3
  · exact ⟨M 8 4, M, M, by rw [m_X11_told, if_neg e0, if_neg e1, if_neg e2, if_pos e3], by rw [m_X12_told, if_neg e0, if_neg e1, if_neg e2, if_pos e3, (show M 8 4 = _ from w1.trans w2.symm)], hI0⟩
  by_cases e4 : a1 = nI 4
  · exact ⟨M 1 2, M, M, by rw [m_X11_told, if_neg e0, if_neg e1, if_neg e2, if_neg e3, if_pos e4], by rw [m_X12_told, if_neg e0, if_neg e1, if_neg e2, if_neg e3, if_pos e4, (show M 1 2 = _ from x4)], hI0⟩
  by_cases e5 : a1 = nI 5
  · exact ⟨isum (M (13 + 2)) 9, M, M, by rw [m_X11_told, if_neg e0, if_neg e1, if_neg e2, if_neg e3, if_neg e4, if_pos e5, c_sitting, fp_b1t], by rw [m_X12_told, if_neg e0, if_neg e1, if_neg e2, if_neg e3, if_neg e4, if_pos e5, m_allSit hn r2, fp_b1t, hsum], hI0⟩
  by_cases e6 : a1 = nI 6
  · exact ⟨M 13 4, M, M, by rw [m_X11_told, if_neg e0, if_neg e1, if_neg e2, if_neg e3, if_neg e4, if_neg e5, if_pos e6], by rw [m_X12_told, if_neg e0, if_neg e1, if_neg e2, if_neg e3, if_neg e4, if_neg e5, if_pos e6, fp_inN (show 20 < 25 by decide) (by decide), fp_gdt, q_cl (by decide), (show M 13 4 = _ from hS.2.2.2.1)], hI0⟩
  by_cases e7 : a1 = nI 7
  · exact ⟨M 13 5, M, M, by rw [m_X11_told, if_neg e0, if_neg e1, if_neg e2, if_neg e3, if_neg e4, if_neg e5, if_neg e6, if_pos e7], by rw [m_X12_told, if_neg e0, if_neg e1, if_neg e2, if_neg e3, if_neg e4, if_neg e5, if_neg e6, if_pos e7, fp_inN (show 21 < 25 by decide) (by decide), fp_gdt, q_cl (by decide), (show M 13 5 = _ from hS.2.2.2.2.1)], hI0⟩
  by_cases e8 : a1 = nI 8
  · exact ⟨M 13 6, M, M, by rw [m_X11_told, if_neg e0, if_neg e1, if_neg e2, if_neg e3, if_neg e4, if_neg e5, if_neg e6, if_neg e7, if_pos e8], by rw [m_X12_told, if_neg e0, if_neg e1, if_neg e2, if_neg e3, if_neg e4, if_neg e5, if_neg e6, if_neg e7, if_pos e8, fp_inN (show 22 < 25 by decide) (by decide), fp_gdt, q_cl (by decide), (show M 13 6 = _ from hS.2.2.2.2.2.1)], hI0⟩
  by_cases e9 : a1 = nI 9
  · exact ⟨M 13 7, M, M, by rw [m_X11_told, if_neg e0, if_neg e1, if_neg e2, if_neg e3, if_neg e4, if_neg e5, if_neg e6, if_neg e7, if_neg e8, if_pos e9], by rw [m_X12_told, if_neg e0, if_neg e1, if_neg e2, if_neg e3, if_neg e4, if_neg e5, if_neg e6, if_neg e7, if_neg e8, if_pos e9, fp_inN (show 23 < 25 by decide) (by decide), fp_gdt, q_cl (by decide), (show M 13 7 = _ from hS.2.2.2.2.2.2.1)], hI0⟩
  by_cases e10 : a1 = nI 10
  · exact ⟨M 13 8, M, M, by rw [m_X11_told, if_neg e0, if_neg e1, if_neg e2, if_neg e3, if_neg e4, if_neg e5, if_neg e6, if_neg e7, if_neg e8, if_neg e9, if_pos e10], by rw [m_X12_told, if_neg e0, if_neg e1, if_neg e2, if_neg e3, if_neg e4, if_neg e5, if_neg e6, if_neg e7, if_neg e8, if_neg e9, if_pos e10, fp_inN (show 24 < 25 by decide) (by decide), fp_gdt, q_cl (by decide), (show M 13 8 = _ from hS.2.2.2.2.2.2.2)], hI0⟩
  by_cases e11 : a1 = nI 11
  · obtain ⟨x, q1, q2⟩ := c_wfb (b := 1) (SR_CS hS hN) hn (by decide)
    obtain ⟨y, q3, q4⟩ := m_insp (RW_MS (f := M 123) (fun _ _ => rfl) hN) hn r2
    exact ⟨x, M, M, by rw [m_X11_told, if_neg e0, if_neg e1, if_neg e2, if_neg e3, if_neg e4, if_neg e5, if_neg e6, if_neg e7, if_neg e8, if_neg e9, if_neg e10, if_pos e11, r1, q1, fp_b1t], by rw [m_X12_told, if_neg e0, if_neg e1, if_neg e2, if_neg e3, if_neg e4, if_neg e5, if_neg e6, if_neg e7, if_neg e8, if_neg e9, if_neg e10, if_pos e11, q3, fp_b1t, isM_ext q2 q4 (fun _ _ => rfl)], hI0⟩
  by_cases e12 : a1 = nI 12
  · obtain ⟨M1, p1, C1, f1, K⟩ := both_away h3 hS hN
    obtain ⟨M2, p2, C2, f2⟩ := K M1 f1
    have hIv : fp_Inv M2 := InvS hP0 (fr_tr f1 f2)
    obtain ⟨x, q1, q2⟩ := cc_without C1 hn
    obtain ⟨y, q3, q4⟩ := m_emergency C2
    exact ⟨x, M1, M2, by rw [m_X11_told, if_neg e0, if_neg e1, if_neg e2, if_neg e3, if_neg e4, if_neg e5, if_neg e6, if_neg e7, if_neg e8, if_neg e9, if_neg e10, if_neg e11, if_pos e12, m_X11_emergencyNow, p1, fp_b1t, q1, fp_b1t, fp_b2t], by rw [m_X12_told, if_neg e0, if_neg e1, if_neg e2, if_neg e3, if_neg e4, if_neg e5, if_neg e6, if_neg e7, if_neg e8, if_neg e9, if_neg e10, if_neg e11, if_pos e12, m_X12_emergency, p2, fp_b1t, q3, fp_b2t, isM_ext q2 q4 (fun _ _ => rfl)], hIv⟩
  by_cases e13 : a1 = nI 13
  · exact ⟨M 13 3, M, M, by rw [m_X11_told, if_neg e0, if_neg e1, if_neg e2, if_neg e3, if_neg e4, if_neg e5, if_neg e6, if_neg e7, if_neg e8, if_neg e9, if_neg e10, if_neg e11, if_neg e12, if_pos e13], by rw [m_X12_told, if_neg e0, if_neg e1, if_neg e2, if_neg e3, if_neg e4, if_neg e5, if_neg e6, if_neg e7, if_neg e8, if_neg e9, if_neg e10, if_neg e11, if_neg e12, if_pos e13, fp_inN (show 19 < 25 by decide) (by decide), fp_gdt, q_cl (by decide), (show M 13 3 = _ from hS.2.2.1)], hI0⟩
  by_cases e14 : a1 = nI 14
  · exact ⟨M 43 0, M, M, by rw [m_X11_told, if_neg e0, if_neg e1, if_neg e2, if_neg e3, if_neg e4, if_neg e5, if_neg e6, if_neg e7, if_neg e8, if_neg e9, if_neg e10, if_neg e11, if_neg e12, if_neg e13, if_pos e14], by rw [m_X12_told, if_neg e0, if_neg e1, if_neg e2, if_neg e3, if_neg e4, if_neg e5, if_neg e6, if_neg e7, if_neg e8, if_neg e9, if_neg e10, if_neg e11, if_neg e12, if_neg e13, if_pos e14, (show M 43 0 = _ from x14)], hI0⟩
  by_cases e15 : a1 = nI 15
  · exact ⟨M 44 0, M, M, by rw [m_X11_told, if_neg e0, if_neg e1, if_neg e2, if_neg e3, if_neg e4, if_neg e5, if_neg e6, if_neg e7, if_neg e8, if_neg e9, if_neg e10, if_neg e11, if_neg e12, if_neg e13, if_neg e14, if_pos e15], by rw [m_X12_told, if_neg e0, if_neg e1, if_neg e2, if_neg e3, if_neg e4, if_neg e5, if_neg e6, if_neg e7, if_neg e8, if_neg e9, if_neg e10, if_neg e11, if_neg e12, if_neg e13, if_neg e14, if_pos e15, (show M 44 0 = _ from x15)], hI0⟩
  by_cases e16 : a1 = nI 16
  · exact ⟨M 48 0, M, M, by rw [m_X11_told, if_neg e0, if_neg e1, if_neg e2, if_neg e3, if_neg e4, if_neg e5, if_neg e6, if_neg e7, if_neg e8, if_neg e9, if_neg e10, if_neg e11, if_neg e12, if_neg e13, if_neg e14, if_neg e15, if_pos e16], by rw [m_X12_told, if_neg e0, if_neg e1, if_neg e2, if_neg e3, if_neg e4, if_neg e5, if_neg e6, if_neg e7, if_neg e8, if_neg e9, if_neg e10, if_neg e11, if_neg e12, if_neg e13, if_neg e14, if_neg e15, if_pos e16, (show M 48 0 = _ from x16)], hI0⟩
  exact ⟨(-1000000002 : Int32), M, M, by rw [m_X11_told, if_neg e0, if_neg e1, if_neg e2, if_neg e3, if_neg e4, if_neg e5, if_neg e6, if_neg e7, if_neg e8, if_neg e9, if_neg e10, if_neg e11, if_neg e12, if_neg e13, if_neg e14, if_neg e15, if_neg e16], by rw [m_X12_told, if_neg e0, if_neg e1, if_neg e2, if_neg e3, if_neg e4, if_neg e5, if_neg e6, if_neg e7, if_neg e8, if_neg e9, if_neg e10, if_neg e11, if_neg e12, if_neg e13, if_neg e14, if_neg e15, if_neg e16], hI0⟩
theorem st_table {M : fp_Mem} (hI : fp_Inv M) (a1 : Int32) (a2 : Int32) : ok_table M a1 a2 := by
  have hI0 := hI
  obtain ⟨nt, nw, fa, fb, hP⟩ := hI
  have hP0 := hP
  obtain ⟨h1, h2, h3, h4, h5, h6, h7, h8, h9⟩ := hP
  obtain ⟨hS, se, si, w, hN, hb, hw, hw9⟩ := id h4
  have hn := h3.1.1
  have r1 : M 8 3 = nI nt := h3.1.2.2.1
  have r2 : M 120 1 = nI nt := h3.2.1.2.2.1
  rcases q_tab a1 (n := nt) (by omega) with ⟨t, ht, rfl⟩ | hno
  · have cl : ∀ {y}, (if a2 = (nI 0) then some ((M 14 t), M) else if a2 = (nI 1) then some ((M 15 t), M) else if a2 = (nI 2) then fp_b1 (m_X9_free M 13 (nI t)) fun r_5 => some (r_5, M) else if a2 = (nI 3) then fp_b2 (m_X11_joinedNow M (nI t)) fun r_7 M_8 => some (r_7, M_8) else some ((-1000000002 : Int32), M)) = some y → m_X11_table M (nI t) a2 = some y := by
      intro y hy
      rw [m_X11_table, c_hasTable_y r1 hn ht, fp_b1t, if_neg (by decide), fp_inN (show t < 9 by omega) (by decide), fp_gdt, fp_gdt, q_cl (by omega)]
      exact hy
    have mo : ∀ {M1 y}, M1 120 1 = nI nt → (if a2 = (nI 0) then some (M1 123 t) else if a2 = (nI 1) then some (M1 123 (9 + t)) else if a2 = (nI 2) then fp_b1 (m_X12_free M1 (nI t)) fun r_5 => some r_5 else if a2 = (nI 3) then fp_b1 (m_X12_joined M1 (nI t)) fun r_7 => some r_7 else some (-1000000002 : Int32)) = some y → m_X12_table M1 (nI t) a2 = some y := by
      intro M1 y h hy
      rw [m_X12_table, m_isTable_y h hn ht, fp_b1t, if_neg (by decide), nI_add, fp_inN (show t < 25 by omega) (by decide), fp_inN (show 9 + t < 25 by omega) (by decide), fp_gdt, fp_gdt, q_cl (by omega), q_cl (by omega)]
      exact hy
    by_cases e0 : a2 = nI 0
    · exact ⟨M 14 t, M, cl (by rw [if_pos e0]), mo r2 (by rw [if_pos e0, (show M 14 t = _ from (hS.1 t (by omega)).1)]), hI0⟩
    by_cases e1 : a2 = nI 1
    · exact ⟨M 15 t, M, cl (by rw [if_neg e0, if_pos e1]), mo r2 (by rw [if_neg e0, if_pos e1, (show M 15 t = _ from (hS.1 t (by omega)).2)]), hI0⟩
    by_cases e2 : a2 = nI 2
    · exact ⟨nI (se t - si t), M, cl (by rw [if_neg e0, if_neg e1, if_pos e2, c_free (SR_CS hS hN) (by omega), fp_b1t]), mo r2 (by rw [if_neg e0, if_neg e1, if_pos e2, m_free (fun u hu => hN u hu) (by omega), fp_b1t]), hI0⟩
    by_cases e3 : a2 = nI 3
    · obtain ⟨M1, p1, J1, f1⟩ := c_join (k := 16) (sh := M 13 3) h3.1 (by omega)
      have fs : fr scr M M1 := fr_mono f1 (fun q h => by simp only [scr]; omega)
      obtain ⟨x, q1, q2⟩ := c_around J1 hn (isM_bit (t := t) (by omega))
      have h3a : I_realm M1 nt nw fa fb := realmS h3 (fr_mono fs (fun q h => by simp only [scr] at h ⊢; omega))
      obtain ⟨y, q3, q4⟩ := m_joined h3a.2.1 (t := t) (by omega)
      have exy : x = y := by
        refine isM_ext q2 q4 (fun u hu => ?_)
        rw [f1 123 (by omega), hS.2.2.1]
        cases h : adjN (M 123 19) fa fb nw t u with
        | true => exact anyT_y ht (by rw [beq_self_eq_true, h]; rfl)
        | false =>
          cases h2 : anyT (fun v => (v == t) && adjN (M 123 19) fa fb nw v u) nt with
          | false => rfl
          | true =>
            obtain ⟨v, hv, h3⟩ := anyT_e h2
            rw [Bool.and_eq_true] at h3
            rw [eq_of_beq h3.1, h] at h3
            cases h3.2
      exact ⟨x, M1, cl (by rw [if_neg e0, if_neg e1, if_neg e2, if_pos e3, m_X11_joinedNow, p1, fp_b1t, q1, fp_b1t, fp_b2t]), mo (by rw [f1 120 (by omega)]; exact r2) (by rw [if_neg e0, if_neg e1, if_neg e2, if_pos e3, q3, fp_b1t, exy]), InvS hP0 fs⟩
    · exact ⟨(-1000000002 : Int32), M, cl (by rw [if_neg e0, if_neg e1, if_neg e2, if_neg e3]), mo r2 (by rw [if_neg e0, if_neg e1, if_neg e2, if_neg e3]), hI0⟩
  · refine ⟨(-1000000001 : Int32), M, ?_, ?_, hI0⟩
    · rw [m_X11_table, c_hasTable_n r1 hno, fp_b1t, if_pos (by decide)]
    · rw [m_X12_table, m_isTable_n r2 hn hno, fp_b1t, if_pos (by decide)]
theorem st_way {M : fp_Mem} (hI : fp_Inv M) (a1 : Int32) (a2 : Int32) : ok_way M a1 a2 := by
  have hI0 := hI
  obtain ⟨nt, nw, fa, fb, hP⟩ := hI
  have hP0 := hP
  obtain ⟨h1, h2, h3, h4, h5, h6, h7, h8, h9⟩ := hP
  obtain ⟨hS, se, si, w, hN, hb, hw, hw9⟩ := id h4
  have hn := h3.1.1
  have r1 : M 8 3 = nI nt := h3.1.2.2.1
  have r2 : M 120 1 = nI nt := h3.2.1.2.2.1
  have hnw := h3.1.2.1
  have w1 : M 8 4 = nI nw := h3.1.2.2.2.1
  have w2 : M 120 2 = nI nw := h3.2.1.2.2.2.1
  rcases q_tab a1 (n := nw) hnw with ⟨t, ht, rfl⟩ | hno
  · have cl : ∀ {y}, (if a2 = (nI 0) then some (M 11 t) else if a2 = (nI 1) then some (M 12 t) else if a2 = (nI 2) then some ((M 123 19 >>> (nI t &&& 31)) &&& nI 1) else some (-1000000002 : Int32)) = some y → m_X11_way M (nI t) a2 = some y := by
      intro y hy
      rw [m_X11_way, c_hasWay_y w1 hnw ht, fp_b1t, if_neg (by decide), fp_inN (show t < 14 by omega) (by decide), fp_gdt, fp_gdt, q_cl (by omega)]
      refine Eq.trans ?_ hy
      congr 2
      congr 1
      rw [m_X9_isShut, show M 13 3 = M 123 19 from hS.2.2.1]
      rcases q_bit01 (M 123 19) (w := t) (by omega) with h01 | h01
      · rw [if_pos h01, isShut16_0, fp_b1t, if_pos (by decide), m_X11_way_76, h01]
        rfl
      · rw [if_neg (by rw [h01]; decide), isShut16_1, fp_b1t, if_neg (by decide), m_X11_way_76, h01]
    have mo : ∀ {y}, (if a2 = (nI 0) then some (M 121 t) else if a2 = (nI 1) then some (M 122 t) else if a2 = (nI 2) then some ((M 123 19 >>> (nI t &&& 31)) &&& nI 1) else some (-1000000002 : Int32)) = some y → m_X12_way M (nI t) a2 = some y := by
      intro y hy
      rw [m_X12_way, w2, m_in0_y M ht hnw, fp_b1t, if_neg (by decide), fp_inN (show t < 14 by omega) (by decide), fp_gdt, fp_gdt, q_cl (by omega), fp_inN (show 19 < 25 by decide) (by decide), fp_gdt, q_cl (by decide)]
      exact hy
    have ea : M 11 t = M 121 t := (h3.1.2.2.2.2 t ht).1.trans (h3.2.1.2.2.2.2 t ht).1.symm
    have eb : M 12 t = M 122 t := (h3.1.2.2.2.2 t ht).2.1.trans (h3.2.1.2.2.2.2 t ht).2.1.symm
    by_cases e0 : a2 = nI 0
    · exact ⟨M 11 t, cl (by rw [if_pos e0]), mo (by rw [if_pos e0, ea]), hI0⟩
    by_cases e1 : a2 = nI 1
    · exact ⟨M 12 t, cl (by rw [if_neg e0, if_pos e1]), mo (by rw [if_neg e0, if_pos e1, eb]), hI0⟩
    by_cases e2 : a2 = nI 2
    · exact ⟨(M 123 19 >>> (nI t &&& 31)) &&& nI 1, cl (by rw [if_neg e0, if_neg e1, if_pos e2]), mo (by rw [if_neg e0, if_neg e1, if_pos e2]), hI0⟩
    · exact ⟨(-1000000002 : Int32), cl (by rw [if_neg e0, if_neg e1, if_neg e2]), mo (by rw [if_neg e0, if_neg e1, if_neg e2]), hI0⟩
  · refine ⟨(-1000000001 : Int32), ?_, ?_, hI0⟩
    · rw [m_X11_way, c_hasWay_n w1 hno, fp_b1t, if_pos (by decide)]
    · rw [m_X12_way, w2, m_in0_n M hnw hno, fp_b1t, if_pos (by decide)]
theorem quiet_same (M : fp_Mem) (p1 p2 : Int32) : ∀ (n : Nat) (v : Int64) (i : Int32), m_X11_quiet_30 M p1 p2 n v i = m_X12_quiet_34 M p1 p2 n v i
  | 0, _, _ => rfl
  | n + 1, v, i => by
    rw [m_X11_quiet_30, m_X12_quiet_34]
    by_cases h : p1 ≤ i
    · rw [if_pos h, if_pos h]
    · rw [if_neg h, if_neg h, fp_ltt, fp_ltt, fp_ltt, fp_ltt]
      exact quiet_same M p1 p2 n _ _
theorem quiet_end (M : fp_Mem) {m : Nat} (hm : m ≤ 60) (p2 : Int32) : ∃ r, m_X11_quiet_30 M (nI m) p2 fp_fu (lN 1000000000) (nI 0) = some r := by
  obtain ⟨n1, v, -, he⟩ := loopI (fun n i (s : Int64) => m_X11_quiet_30 M (nI m) p2 n s (nI i)) m (fun _ _ => True) (by
    intro n i s hi _
    refine ⟨(s * (Int32.toInt64 ((nI 100) - p2))) / (lN 100), trivial, ?_⟩
    show m_X11_quiet_30 M (nI m) p2 (n + 1) s (nI i) = _
    rw [m_X11_quiet_30, if_neg (nI_ge hi (by omega)), fp_ltt, fp_ltt, nI_add]) m 0 fp_fu (lN 1000000000) (by omega) (fu_lt (by omega)) trivial
  refine ⟨Int64.toInt32 v, he.trans ?_⟩
  show m_X11_quiet_30 M (nI m) p2 (n1 + 1) v (nI m) = _
  rw [m_X11_quiet_30, if_pos (nI_le (Nat.le_refl _) (by omega))]
theorem st_quiet {M : fp_Mem} (hI : fp_Inv M) (a1 : Int32) (a2 : Int32) : ok_quiet M a1 a2 := by
  have no : m_X11_quiet M a1 a2 = some (-1000000002 : Int32) → m_X12_quiet M a1 a2 = some (-1000000002 : Int32) → ok_quiet M a1 a2 := fun a b => ⟨_, a, b, hI⟩
  rcases q_rng a1 (b := 60) (by decide) with ⟨m, hm, rfl⟩ | hout
  · have c1 : ¬ nI 60 < nI m := by rw [q_lt (by decide) (by omega)]; omega
    rcases q_rng a2 (b := 100) (by decide) with ⟨v, hv, rfl⟩ | hout
    · obtain ⟨r, hr⟩ := quiet_end M hm (nI v)
      refine ⟨r, ?_, ?_, hI⟩
      · rw [m_X11_quiet, if_neg (nI_pos (by omega)), if_neg c1, if_neg (nI_pos (by omega)), if_pos (nI_le hv (by decide)), hr]
      · rw [m_X12_quiet, q_in_y (Nat.zero_le _) hm (by decide), fp_b1t, if_neg (by decide), q_in_y (Nat.zero_le _) hv (by decide), fp_b1t, if_neg (by decide), ← quiet_same, hr]
    · refine no ?_ ?_
      · rw [m_X11_quiet, if_neg (nI_pos (by omega)), if_neg c1]
        rcases hout with h | ⟨ha, hb⟩
        · rw [if_pos h, m_X11_quiet_20]
        · rw [if_neg ha, if_neg (Int32.not_le.mpr hb), m_X11_quiet_20]
      · rw [m_X12_quiet, q_in_y (Nat.zero_le _) hm (by decide), fp_b1t, if_neg (by decide), q_in_n hout (by decide), fp_b1t, if_pos (by decide), m_X12_quiet_24]
  · refine no ?_ ?_
    · rw [m_X11_quiet]
      rcases hout with h | ⟨ha, hb⟩
      · rw [if_pos h, m_X11_quiet_20]
      · rw [if_neg ha, if_pos hb, m_X11_quiet_20]
    · rw [m_X12_quiet, q_in_n hout (by decide), fp_b1t, if_pos (by decide), m_X12_quiet_24]
theorem anyT_s (P : Nat → Bool) (n : Nat) : anyT P (n + 1) = (anyT P n || P n) := rfl
theorem st_see {M : fp_Mem} (hI : fp_Inv M) (a1 : Int32) (a2 : Int32) (hz1 : fp_zb a2 = true) : ok_see M a1 a2 := by
  have hI0 := hI
  obtain ⟨nt, nw, fa, fb, hP⟩ := hI
  have hP0 := hP
  obtain ⟨h1, h2, h3, h4, h5, h6, h7, h8, h9⟩ := hP
  obtain ⟨hS, se, si, w, hN, hb, hw, hw9⟩ := id h4
  have hn := h3.1.1
  have r1 : M 8 3 = nI nt := h3.1.2.2.1
  have r2 : M 120 1 = nI nt := h3.2.1.2.2.1
  obtain ⟨c, hc, s1, s2, s3, s4, s5⟩ := id h6
  have hz : a2 = nI 0 ∨ a2 = nI 1 := of_decide_eq_true hz1
  rcases q_tab a1 (n := nt) (by omega) with ⟨t, ht, rfl⟩ | hno
  · by_cases hfull : c = 6
    · refine ⟨(-1000000004 : Int32), M, M, ?_, ?_, hI0⟩
      · rw [m_X11_see, c_hasTable_y r1 hn ht, fp_b1t, if_neg (by decide), s1, if_neg (by rw [q_lt (by omega) (by decide)]; omega)]
      · rw [m_X12_see, m_isTable_y r2 hn ht, fp_b1t, if_neg (by decide), s2, if_pos (by rw [hfull])]
    · have hlt : c < 6 := by omega
      generalize hM1 : fp_set (if a2 = 0 then fp_set M 43 2 ((M 43 2) ||| ((nI 1) <<< (nI t &&& 31))) else fp_set M 43 1 ((M 43 1) ||| ((nI 1) <<< (nI t &&& 31)))) 43 0 (nI (c + 1)) = M1
      have f1 : fr (fun q => q = 43) M M1 := by
        rw [← hM1]
        refine fr_tr ?_ (fr_set rfl)
        by_cases e : a2 = 0
        · rw [if_pos e]; exact fr_set rfl
        · rw [if_neg e]; exact fr_set rfl
      have hadd : m_X8_add M (nI t) a2 = some M1 := by
        rw [m_X8_add, ← hM1]
        by_cases e : a2 = 0
        · rw [if_pos e, if_pos e, fp_ltt, m_X8_add_31, fp_ltt, set_ne (by decide), s1, nI_add]
        · rw [if_neg e, if_neg e, fp_ltt, m_X8_add_31, fp_ltt, set_ne (by decide), s1, nI_add]
      have m0 : M1 43 0 = nI (c + 1) := by rw [← hM1, set_at]
      have m1 : M1 43 1 = if a2 = 0 then M 43 1 else (M 43 1) ||| ((nI 1) <<< (nI t &&& 31)) := by
        rw [← hM1, set_ne (by decide)]
        by_cases e : a2 = 0
        · rw [if_pos e, if_pos e, set_ne (by decide)]
        · rw [if_neg e, if_neg e, set_at]
      have m2 : M1 43 2 = if a2 = 0 then (M 43 2) ||| ((nI 1) <<< (nI t &&& 31)) else M 43 2 := by
        rw [← hM1, set_ne (by decide)]
        by_cases e : a2 = 0
        · rw [if_pos e, if_pos e, set_at]
        · rw [if_neg e, if_neg e, set_ne (by decide)]
      have hnar : vp_nar .boolean a2 = a2 := by
        rcases hz with rfl | rfl
        · exact q_nb0
        · exact q_nb1
      have E27 : M1 120 27 = nI c := by rw [f1 120 (by decide)]; exact s2
      generalize hM2 : fp_set (fp_set (fp_set M1 134 c (nI t)) 135 c a2) 120 27 (nI (c + 1)) = M2
      have f2 : fr (fun q => q = 134 ∨ q = 135 ∨ q = 120) M1 M2 := by rw [← hM2]; exact fr_tr (fr_set (by omega)) (fr_tr (fr_set (by omega)) (fr_set (by omega)))
      refine ⟨nI (c + 1), M1, M2, ?_, ?_, ?_⟩
      · rw [m_X11_see, c_hasTable_y r1 hn ht, fp_b1t, if_neg (by decide), s1, if_pos (nI_lt hlt (by decide)), hadd, fp_b1t, m0]
      · rw [m_X12_see, m_isTable_y (by rw [f1 120 (by decide)]; exact r2) hn ht, fp_b1t, if_neg (by decide), E27, if_neg (by rw [q_eq (by omega) (by decide)]; exact hfull), fp_inN hlt (by decide), fp_gdt, fp_ltt, q_cl (by omega), set_off (show 120 ≠ 134 by decide), E27, fp_inN hlt (by decide), fp_gdt, fp_ltt, q_cl (by omega), hnar, fp_ltt, set_off (show 120 ≠ 135 by decide), set_off (show 120 ≠ 134 by decide), E27, nI_add, hM2, ← hM2, set_at]
      · have e : fr (fun q => q = 43 ∨ q = 134 ∨ q = 135 ∨ q = 120) M M2 := fr_tr (fr_mono f1 (fun q h => by omega)) (fr_mono f2 (fun q h => by omega))
        have g : ∀ j, j ≠ 27 → M2 120 j = M 120 j := fun j hj => by rw [← hM2, set_ne hj, set_off (by decide), set_off (by decide), f1 120 (by decide)]
        have f1' : ∀ j, j < 100 → M2 1 j = M 1 j := fun j _ => congrFun (e 1 (by omega)) j
        have q134 : ∀ j, M2 134 j = if j = c then nI t else M 134 j := fun j => by rw [← hM2, set_off (by decide), set_off (by decide), set_q, f1 134 (by decide)]; simp
        have q135 : ∀ j, M2 135 j = if j = c then a2 else M 135 j := fun j => by rw [← hM2, set_off (by decide), set_q, set_off (by decide), f1 135 (by decide)]; simp
        have any : ∀ (v : Int32) (u : Nat), anyT (fun j => decide (M2 134 j = nI u ∧ M2 135 j = v)) (c + 1) = (anyT (fun j => decide (M 134 j = nI u ∧ M 135 j = v)) c || decide (nI t = nI u ∧ a2 = v)) := by
          intro v u
          rw [anyT_s, q134, q135, if_pos rfl, if_pos rfl]
          congr 1
          exact anyT_congr (fun j hj => by rw [q134, q135, if_neg (by omega), if_neg (by omega)])
        refine ⟨nt, nw, fa, fb, ⟨I_text_fr h1 (f1' 2 (by omega)) (g 9 (by omega)) (e 7 (by omega)) (e 124 (by omega)), (f1' 6 (by omega)).trans (h2.trans (g 10 (by omega)).symm), I_realm_fr h3 (e 8 (by omega)) (e 11 (by omega)) (e 12 (by omega)) (e 121 (by omega)) (e 122 (by omega)) (fun j hj => g j (by omega)), I_now_fr h4 (e 13 (by omega)) (e 14 (by omega)) (e 15 (by omega)) (e 123 (by omega)), I_seed_fr h5 (congrFun (e 47 (by omega)) 0) (g 6 (by omega)), ?_, I_book_fr h7 (e 44 (by omega)) (g 30 (by omega)) (e 45 (by omega)) (e 46 (by omega)) (e 136 (by omega)) (e 137 (by omega)), I_hist_fr h8 (e 48 (by omega)) (g 23 (by omega)) (fun q a b => e q (by omega)) (e 131 (by omega)), I_img_fr h9 (e 112 (by omega)) (e 113 (by omega)) (fun q a b => e q (by omega)) (e 138 (by omega)) (e 139 (by omega))⟩⟩
        refine ⟨c + 1, by omega, by rw [f2 43 (by omega)]; exact m0, by rw [← hM2, set_at], fun j hj => ?_, ?_, ?_⟩
        · rw [q134, q135]
          by_cases ej : j = c
          · rw [if_pos ej, if_pos ej]
            exact ⟨⟨t, ht, rfl⟩, hz⟩
          · rw [if_neg ej, if_neg ej]
            exact s3 j (by omega)
        · rw [f2 43 (by omega), m1]
          rcases hz with rfl | rfl
          · rw [if_pos (by decide)]
            exact isM_congr s4 (fun u hu => by rw [any]; simp [show ¬ (nI 0 = nI 1) by decide])
          · rw [if_neg (by decide)]
            exact isM_congr (isM_or s4 (isM_bit (by omega))) (fun u hu => by
              rw [any]
              congr 1
              by_cases e : u = t
              · subst e; simp
              · rw [beq_eq_false_iff_ne.mpr e, decide_eq_false (fun h => e ((nI_eq (by omega) (by omega)).mp h.1).symm)])
        · rw [f2 43 (by omega), m2]
          rcases hz with rfl | rfl
          · rw [if_pos (by decide)]
            exact isM_congr (isM_or s5 (isM_bit (by omega))) (fun u hu => by
              rw [any]
              congr 1
              by_cases e : u = t
              · subst e; simp
              · rw [beq_eq_false_iff_ne.mpr e, decide_eq_false (fun h => e ((nI_eq (by omega) (by omega)).mp h.1).symm)])
          · rw [if_neg (by decide)]
            exact isM_congr s5 (fun u hu => by rw [any]; simp [show ¬ (nI 1 = nI 0) by decide])
  · refine ⟨(-1000000001 : Int32), M, M, ?_, ?_, hI0⟩
    · rw [m_X11_see, c_hasTable_n r1 hno, fp_b1t, if_pos (by decide)]
    · rw [m_X12_see, m_isTable_n r2 hn hno, fp_b1t, if_pos (by decide)]

/-! the steps that need no chain -/
theorem q_rng (p : Int32) {b : Nat} (hb : b < 2 ^ 31) : (∃ c, c ≤ b ∧ p = nI c) ∨ (p < 0 ∨ ¬ p < 0 ∧ nI b < p) := by
  by_cases h0 : p < 0
  · exact Or.inr (Or.inl h0)
  · obtain ⟨j, hj, rfl⟩ := nI_of h0
    by_cases h1 : j ≤ b
    · exact Or.inl ⟨j, h1, rfl⟩
    · exact Or.inr (Or.inr ⟨h0, nI_lt (by omega) hj⟩)
theorem q_in_y {c a b : Nat} (ha : a ≤ c) (hb : c ≤ b) (h : b < 2 ^ 31) (M : fp_Mem) : m_X12_in M (Int32.toInt64 (nI c)) (lN a) (lN b) = some (nI 1) := by
  rw [m_inN M (nI c) (by omega) h, if_neg]
  rw [q_lt (by omega) (by omega), q_lt (by omega) (by omega)]
  omega
theorem q_in_n {p : Int32} {b : Nat} (h : p < 0 ∨ ¬ p < 0 ∧ nI b < p) (hb : b < 2 ^ 31) (M : fp_Mem) : m_X12_in M (Int32.toInt64 p) (lN 0) (lN b) = some (nI 0) := by
  rw [m_inN M p (by decide) hb, if_pos]
  rcases h with h | h
  · exact Or.inl h
  · exact Or.inr h.2
theorem st_feed {M : fp_Mem} (hI : fp_Inv M) (a1 : Int32) : ok_feed M a1 := by
  have hI0 := hI
  obtain ⟨nt, nw, fa, fb, h1, h2, h3, h4, h5, h6, h7, h8, h9⟩ := hI
  obtain ⟨len, hl, t1, t2, t3⟩ := h1
  rcases q_rng a1 (b := 255) (by decide) with ⟨c, hc, rfl⟩ | hout
  · by_cases hfull : len = 240
    · refine ⟨(-1000000004 : Int32), M, M, ?_, ?_, hI0⟩
      · rw [m_X11_feed, if_neg (nI_pos (by omega)), if_pos (nI_le hc (by decide)), m_X6_add, t1, if_neg (nI_pos (by omega)), if_neg (by rw [q_lt (by omega) (by decide)]; omega), m_X6_add_17, fp_b2t, if_pos (by decide)]
      · rw [m_X12_feed, q_in_y (Nat.zero_le _) hc (by decide), fp_b1t, if_neg (by decide), t2, if_pos (by rw [hfull])]
    · have hlt : len < 240 := by omega
      have hch : vp_nar .char ((Int32.toUInt32 (nI c) % 65536).toInt32) = nI c := by
        rw [(sb_byte c (by omega)).2.1]
        unfold vp_nar
        rw [(pk_charN (show c < 65536 by omega)).1]
      have e120 : (fp_set (fp_set M 7 len (nI c)) 1 2 (nI (len + 1))) 120 9 = nI len := by rw [set_off (by decide), set_off (by decide)]; exact t2
      refine ⟨nI (len + 1), fp_set (fp_set M 7 len (nI c)) 1 2 (nI (len + 1)), fp_set (fp_set (fp_set (fp_set M 7 len (nI c)) 1 2 (nI (len + 1))) 124 len (nI c)) 120 9 (nI (len + 1)), ?_, ?_, ?_⟩
      · rw [m_X11_feed, if_neg (nI_pos (by omega)), if_pos (nI_le hc (by decide)), m_X6_add, t1, if_neg (nI_pos (by omega)), if_pos (nI_lt hlt (by decide)), fp_inN hlt (by decide), fp_gdt, fp_ltt, hch, q_cl (by omega), fp_ltt, set_off (by decide), t1, nI_add, fp_b2t, if_neg (by decide), set_at]
      · rw [m_X12_feed, q_in_y (Nat.zero_le _) hc (by decide), fp_b1t, if_neg (by decide), e120, if_neg (by rw [nI_eq (by omega) (by decide)]; exact hfull), fp_inN hlt (by decide), fp_gdt, fp_ltt, fp_ltt, q_cl (by omega), set_at, set_off (show 120 ≠ 124 by decide), e120, nI_add]
      · have e : fr (fun q => q = 7 ∨ q = 1 ∨ q = 124 ∨ q = 120) M (fp_set (fp_set (fp_set (fp_set M 7 len (nI c)) 1 2 (nI (len + 1))) 124 len (nI c)) 120 9 (nI (len + 1))) := fr_tr (fr_set (by omega)) (fr_tr (fr_set (by omega)) (fr_tr (fr_set (by omega)) (fr_set (by omega))))
        have g : ∀ j, j ≠ 9 → (fp_set (fp_set (fp_set (fp_set M 7 len (nI c)) 1 2 (nI (len + 1))) 124 len (nI c)) 120 9 (nI (len + 1))) 120 j = M 120 j := fun j hj => by rw [set_ne hj, set_off (by decide), set_off (by decide), set_off (by decide)]
        have f1 : ∀ j, j ≠ 2 → (fp_set (fp_set (fp_set (fp_set M 7 len (nI c)) 1 2 (nI (len + 1))) 124 len (nI c)) 120 9 (nI (len + 1))) 1 j = M 1 j := fun j hj => by rw [set_off (by decide), set_off (by decide), set_ne hj, set_off (by decide)]
        refine ⟨nt, nw, fa, fb, ⟨?_, (f1 6 (by omega)).trans (h2.trans (g 10 (by omega)).symm), I_realm_fr h3 (e 8 (by omega)) (e 11 (by omega)) (e 12 (by omega)) (e 121 (by omega)) (e 122 (by omega)) (fun j hj => g j (by omega)), I_now_fr h4 (e 13 (by omega)) (e 14 (by omega)) (e 15 (by omega)) (e 123 (by omega)), I_seed_fr h5 (congrFun (e 47 (by omega)) 0) (g 6 (by omega)), I_sight_fr h6 (e 43 (by omega)) (g 27 (by omega)) (e 134 (by omega)) (e 135 (by omega)), I_book_fr h7 (e 44 (by omega)) (g 30 (by omega)) (e 45 (by omega)) (e 46 (by omega)) (e 136 (by omega)) (e 137 (by omega)), I_hist_fr h8 (e 48 (by omega)) (g 23 (by omega)) (fun q a b => e q (by omega)) (e 131 (by omega)), I_img_fr h9 (e 112 (by omega)) (e 113 (by omega)) (fun q a b => e q (by omega)) (e 138 (by omega)) (e 139 (by omega))⟩⟩
        refine ⟨len + 1, by omega, by rw [set_off (by decide), set_off (by decide), set_at], set_at _ _ _ _, fun j hj => ?_⟩
        rw [set_off (by decide), set_off (by decide), set_off (by decide), set_q, set_off (by decide), set_q, set_off (by decide), set_off (by decide)]
        by_cases ej : j = len
        · exact ⟨c, hc, by rw [if_pos ⟨rfl, ej⟩], by rw [if_pos ⟨rfl, ej⟩]⟩
        · rw [if_neg (fun q => ej q.2), if_neg (fun q => ej q.2)]
          exact t3 j (by omega)
  · refine ⟨(-1000000002 : Int32), M, M, ?_, ?_, hI0⟩
    · rw [m_X11_feed]
      rcases hout with h | ⟨ha, hb⟩
      · rw [if_pos h, m_X11_feed_11]
      · rw [if_neg ha, if_neg (Int32.not_le.mpr hb), m_X11_feed_11]
    · rw [m_X12_feed, q_in_n hout (by decide), fp_b1t, if_pos (by decide)]
theorem st_fault {M : fp_Mem} (hI : fp_Inv M) : ok_fault M := by
  have hI0 := hI
  obtain ⟨nt, nw, fa, fb, h1, h2, -⟩ := hI
  exact ⟨M 1 6, rfl, by rw [h2]; rfl, hI0⟩
theorem st_seed {M : fp_Mem} (hI : fp_Inv M) (a1 : Int32) : ok_seed M a1 := by
  have hI0 := hI
  obtain ⟨nt, nw, fa, fb, h1, h2, h3, h4, h5, h6, h7, h8, h9⟩ := hI
  obtain ⟨sd, hs, s1, s2⟩ := h5
  by_cases h0 : a1 < 0
  · refine ⟨(-1000000002 : Int32), M, M, ?_, ?_, hI0⟩
    · rw [m_X11_seed, if_neg (Int32.not_le.mpr h0)]
    · rw [m_X12_seed]
      first | rw [if_neg (Int32.not_le.mpr h0)] | rw [if_pos h0]
  · obtain ⟨v, hv, rfl⟩ := nI_of h0
    refine ⟨nI sd, fp_set M 47 0 (nI v), fp_set (fp_set M 47 0 (nI v)) 120 6 (nI v), ?_, ?_, ?_⟩
    · rw [m_X11_seed, if_pos (Int32.not_lt.mp h0), fp_ltt, fp_ltt, s1]
    · rw [m_X12_seed]
      have e : (fp_set M 47 0 (nI v)) 120 6 = nI sd := by rw [set_off (by decide)]; exact s2
      first | rw [if_pos (Int32.not_lt.mp h0), fp_ltt, fp_ltt, e] | rw [if_neg h0, fp_ltt, fp_ltt, e]
    · have e : fr (fun q => q = 47 ∨ q = 120) M (fp_set (fp_set M 47 0 (nI v)) 120 6 (nI v)) := fr_tr (fr_set (by omega)) (fr_set (by omega))
      have g : ∀ j, j ≠ 6 → (fp_set (fp_set M 47 0 (nI v)) 120 6 (nI v)) 120 j = M 120 j := fun j hj => by rw [set_ne hj, set_off (by decide)]
      have f1 : ∀ j, True → (fp_set (fp_set M 47 0 (nI v)) 120 6 (nI v)) 1 j = M 1 j := fun j _ => congrFun (e 1 (by omega)) j
      exact ⟨nt, nw, fa, fb, ⟨I_text_fr h1 (f1 2 trivial) (g 9 (by omega)) (e 7 (by omega)) (e 124 (by omega)), (f1 6 trivial).trans (h2.trans (g 10 (by omega)).symm), I_realm_fr h3 (e 8 (by omega)) (e 11 (by omega)) (e 12 (by omega)) (e 121 (by omega)) (e 122 (by omega)) (fun j hj => g j (by omega)), I_now_fr h4 (e 13 (by omega)) (e 14 (by omega)) (e 15 (by omega)) (e 123 (by omega)), ⟨v, hv, by rw [set_off (by decide), set_at], set_at _ _ _ _⟩, I_sight_fr h6 (e 43 (by omega)) (g 27 (by omega)) (e 134 (by omega)) (e 135 (by omega)), I_book_fr h7 (e 44 (by omega)) (g 30 (by omega)) (e 45 (by omega)) (e 46 (by omega)) (e 136 (by omega)) (e 137 (by omega)), I_hist_fr h8 (e 48 (by omega)) (g 23 (by omega)) (fun q a b => e q (by omega)) (e 131 (by omega)), I_img_fr h9 (e 112 (by omega)) (e 113 (by omega)) (fun q a b => e q (by omega)) (e 138 (by omega)) (e 139 (by omega))⟩⟩
theorem st_write {M : fp_Mem} (hI : fp_Inv M) (a1 : Int32) (a2 : Int32) : ok_write M a1 a2 := by
  have hI0 := hI
  obtain ⟨nt, nw, fa, fb, h1, h2, h3, h4, h5, h6, h7, h8, h9⟩ := hI
  obtain ⟨c, hc, b1, b2, b3⟩ := h7
  have hn := h3.1.1
  have r1 : M 8 3 = nI nt := h3.1.2.2.1
  have r2 : M 120 1 = nI nt := h3.2.1.2.2.1
  rcases q_tab a1 (n := nt) (by omega) with ⟨t, ht, rfl⟩ | hno
  · rcases q_rng a2 (b := 20) (by decide) with ⟨x, hx, rfl⟩ | hout
    · by_cases hfull : c = 15
      · refine ⟨(-1000000004 : Int32), M, M, ?_, ?_, hI0⟩
        · rw [m_X11_write, c_hasTable_y r1 hn ht, fp_b1t, if_neg (by decide), if_neg (nI_pos (by omega)), if_pos (nI_le hx (by decide)), m_X1_add, b1, if_neg (nI_pos (by omega)), if_neg (by rw [q_lt (by omega) (by decide)]; omega), m_X1_add_16, fp_b2t, if_pos (by decide)]
        · rw [m_X12_write, m_isTable_y r2 hn ht, fp_b1t, if_neg (by decide), q_in_y (Nat.zero_le _) hx (by decide), fp_b1t, if_neg (by decide), b2, if_pos (by rw [hfull])]
      · have hlt : c < 15 := by omega
        generalize hM1 : fp_set (fp_set (fp_set M 45 c (nI t)) 46 c (nI x)) 44 0 (nI (c + 1)) = M1
        have e1 : fr (fun q => q = 44 ∨ q = 45 ∨ q = 46) M M1 := by rw [← hM1]; exact fr_tr (fr_set (by omega)) (fr_tr (fr_set (by omega)) (fr_set (by omega)))
        have c30 : M1 120 30 = nI c := by rw [e1 120 (by omega)]; exact b2
        generalize hM2 : fp_set (fp_set (fp_set M1 136 c (nI t)) 137 c (nI x)) 120 30 (nI (c + 1)) = M2
        have e2 : fr (fun q => q = 136 ∨ q = 137 ∨ q = 120) M1 M2 := by rw [← hM2]; exact fr_tr (fr_set (by omega)) (fr_tr (fr_set (by omega)) (fr_set (by omega)))
        refine ⟨nI (c + 1), M1, M2, ?_, ?_, ?_⟩
        · rw [m_X11_write, c_hasTable_y r1 hn ht, fp_b1t, if_neg (by decide), if_neg (nI_pos (by omega)), if_pos (nI_le hx (by decide)), m_X1_add, b1, if_neg (nI_pos (by omega)), if_pos (nI_lt hlt (by decide)), fp_inN hlt (by decide), fp_gdt, fp_ltt, set_off (show 44 ≠ 45 by decide), b1, fp_inN hlt (by decide), fp_gdt, fp_ltt, fp_ltt, q_cl (by omega), set_off (show 44 ≠ 46 by decide), set_off (show 44 ≠ 45 by decide), b1, nI_add, hM1, fp_b2t, if_neg (by decide), ← hM1, set_at]
        · have e120 : M1 120 1 = nI nt := by rw [e1 120 (by omega)]; exact r2
          rw [m_X12_write, m_isTable_y e120 hn ht, fp_b1t, if_neg (by decide), q_in_y (Nat.zero_le _) hx (by decide), fp_b1t, if_neg (by decide), c30, if_neg (by rw [nI_eq (by omega) (by decide)]; exact hfull), fp_inN hlt (by decide), fp_gdt, fp_ltt, set_off (show 120 ≠ 136 by decide), c30, fp_inN hlt (by decide), fp_gdt, fp_ltt, fp_ltt, q_cl (by omega), set_off (show 120 ≠ 137 by decide), set_off (show 120 ≠ 136 by decide), c30, nI_add, hM2, ← hM2, set_at]
        · have e : fr (fun q => q = 44 ∨ q = 45 ∨ q = 46 ∨ q = 136 ∨ q = 137 ∨ q = 120) M M2 := fr_tr (fr_mono e1 (fun q h => by omega)) (fr_mono e2 (fun q h => by omega))
          have g : ∀ j, j ≠ 30 → M2 120 j = M 120 j := fun j hj => by rw [← hM2, set_ne hj, set_off (by decide), set_off (by decide), e1 120 (by omega)]
          have f1 : ∀ j, j < 100 → M2 1 j = M 1 j := fun j _ => congrFun (e 1 (by omega)) j
          refine ⟨nt, nw, fa, fb, ⟨I_text_fr h1 (f1 2 (by omega)) (g 9 (by omega)) (e 7 (by omega)) (e 124 (by omega)), (f1 6 (by omega)).trans (h2.trans (g 10 (by omega)).symm), I_realm_fr h3 (e 8 (by omega)) (e 11 (by omega)) (e 12 (by omega)) (e 121 (by omega)) (e 122 (by omega)) (fun j hj => g j (by omega)), I_now_fr h4 (e 13 (by omega)) (e 14 (by omega)) (e 15 (by omega)) (e 123 (by omega)), I_seed_fr h5 (congrFun (e 47 (by omega)) 0) (g 6 (by omega)), I_sight_fr h6 (e 43 (by omega)) (g 27 (by omega)) (e 134 (by omega)) (e 135 (by omega)), ?_, I_hist_fr h8 (e 48 (by omega)) (g 23 (by omega)) (fun q a b => e q (by omega)) (e 131 (by omega)), I_img_fr h9 (e 112 (by omega)) (e 113 (by omega)) (fun q a b => e q (by omega)) (e 138 (by omega)) (e 139 (by omega))⟩⟩
          refine ⟨c + 1, by omega, by rw [e2 44 (by omega), ← hM1, set_at], by rw [← hM2, set_at], fun j hj => ?_⟩
          have q45 : M2 45 j = if j = c then nI t else M 45 j := by rw [e2 45 (by omega), ← hM1, set_off (by decide), set_off (by decide), set_q]; simp
          have q46 : M2 46 j = if j = c then nI x else M 46 j := by rw [e2 46 (by omega), ← hM1, set_off (by decide), set_q, set_off (by decide)]; simp
          have q136 : M2 136 j = if j = c then nI t else M 136 j := by rw [← hM2, set_off (by decide), set_off (by decide), set_q, e1 136 (by omega)]; simp
          have q137 : M2 137 j = if j = c then nI x else M 137 j := by rw [← hM2, set_off (by decide), set_q, set_off (by decide), e1 137 (by omega)]; simp
          rw [q45, q46, q136, q137]
          by_cases ej : j = c
          · simp only [ej, if_true]
            exact ⟨trivial, trivial, t, ht, rfl⟩
          · simp only [ej, if_false]
            exact b3 j (by omega)
    · refine ⟨(-1000000002 : Int32), M, M, ?_, ?_, hI0⟩
      · rw [m_X11_write, c_hasTable_y r1 hn ht, fp_b1t, if_neg (by decide)]
        rcases hout with h | ⟨ha, hb⟩
        · rw [if_pos h, m_X11_write_24]
        · rw [if_neg ha, if_neg (Int32.not_le.mpr hb), m_X11_write_24]
      · rw [m_X12_write, m_isTable_y r2 hn ht, fp_b1t, if_neg (by decide), q_in_n hout (by decide), fp_b1t, if_pos (by decide)]
  · refine ⟨(-1000000001 : Int32), M, M, ?_, ?_, hI0⟩
    · rw [m_X11_write, c_hasTable_n r1 hno, fp_b1t, if_pos (by decide)]
    · rw [m_X12_write, m_isTable_n r2 hn hno, fp_b1t, if_pos (by decide)]
theorem st_tear {M : fp_Mem} (hI : fp_Inv M) : ok_tear M := by
  obtain ⟨nt, nw, fa, fb, h1, h2, h3, h4, h5, h6, h7, h8, h9⟩ := hI
  obtain ⟨c, hc, a1, a2, a3, a4, a5⟩ := h6
  obtain ⟨d, hd, b1, b2, b3⟩ := h7
  generalize hM1 : fp_set (fp_set (fp_set (fp_set M 43 0 (nI 0)) 43 1 (nI 0)) 43 2 (nI 0)) 44 0 (nI 0) = M1
  have e1 : fr (fun q => q = 43 ∨ q = 44) M M1 := by rw [← hM1]; exact fr_tr (fr_set (by omega)) (fr_tr (fr_set (by omega)) (fr_tr (fr_set (by omega)) (fr_set (by omega))))
  generalize hM2 : fp_set (fp_set M1 120 27 (nI 0)) 120 30 (nI 0) = M2
  have e2 : fr (fun q => q = 120) M1 M2 := by rw [← hM2]; exact fr_tr (fr_set rfl) (fr_set rfl)
  refine ⟨nI (c + d), M1, M2, ?_, ?_, ?_⟩
  · rw [m_X11_tear, fp_ltt, m_X8_forget, fp_ltt, fp_ltt, fp_ltt, fp_b1t, m_X1_forget, fp_ltt, fp_b1t, hM1, a1, b1, nI_add]
  · rw [m_X12_tear, e1 120 (by omega), a2, b2, nI_add, fp_ltt, fp_ltt, fp_ltt, hM2]
  · have e : fr (fun q => q = 43 ∨ q = 44 ∨ q = 120) M M2 := fr_tr (fr_mono e1 (fun q h => by omega)) (fr_mono e2 (fun q h => by omega))
    have g : ∀ j, j ≠ 27 ∧ j ≠ 30 → M2 120 j = M 120 j := fun j hj => by rw [← hM2, set_ne hj.2, set_ne hj.1, e1 120 (by omega)]
    have f1 : ∀ j, j < 100 → M2 1 j = M 1 j := fun j _ => congrFun (e 1 (by omega)) j
    refine ⟨nt, nw, fa, fb, ⟨I_text_fr h1 (f1 2 (by omega)) (g 9 (by omega)) (e 7 (by omega)) (e 124 (by omega)), (f1 6 (by omega)).trans (h2.trans (g 10 (by omega)).symm), I_realm_fr h3 (e 8 (by omega)) (e 11 (by omega)) (e 12 (by omega)) (e 121 (by omega)) (e 122 (by omega)) (fun j hj => g j (by omega)), I_now_fr h4 (e 13 (by omega)) (e 14 (by omega)) (e 15 (by omega)) (e 123 (by omega)), I_seed_fr h5 (congrFun (e 47 (by omega)) 0) (g 6 (by omega)), ?_, ?_, I_hist_fr h8 (e 48 (by omega)) (g 23 (by omega)) (fun q a b => e q (by omega)) (e 131 (by omega)), I_img_fr h9 (e 112 (by omega)) (e 113 (by omega)) (fun q a b => e q (by omega)) (e 138 (by omega)) (e 139 (by omega))⟩⟩
    · refine ⟨0, by decide, by rw [e2 43 (by omega), ← hM1, set_off (by decide), set_ne (by decide), set_ne (by decide), set_at], by rw [← hM2, set_ne (by decide), set_at], fun j hj => absurd hj (Nat.not_lt_zero j), ?_, ?_⟩
      · rw [e2 43 (by omega), ← hM1, set_off (by decide), set_ne (by decide), set_at]
        exact isM_0
      · rw [e2 43 (by omega), ← hM1, set_off (by decide), set_at]
        exact isM_0
    · exact ⟨0, by decide, by rw [e2 44 (by omega), ← hM1, set_at], by rw [← hM2, set_at], fun j hj => absurd hj (Nat.not_lt_zero j)⟩
theorem st_judge {M : fp_Mem} (hI : fp_Inv M) : ok_judge M := by
  have hI0 := hI
  obtain ⟨nt, nw, fa, fb, h1, h2, h3, h4, h5, h6, h7, h8, h9⟩ := hI
  obtain ⟨c, hc, b1, b2, b3⟩ := h7
  have hn := h3.1.1
  obtain ⟨r, hr, he⟩ := loopE (σ := Unit) (fun n i _ => m_X1_firstWrong_2 M 13 n (nI i)) c (fun i _ => ∀ j, j < i → M 15 (M 136 j).toNatClampNeg = M 137 j) (fun r => (r = -1 ∧ ∀ j, j < c → M 15 (M 136 j).toNatClampNeg = M 137 j) ∨ ∃ i, i < c ∧ r = nI i ∧ ¬ M 15 (M 136 i).toNatClampNeg = M 137 i ∧ ∀ j, j < i → M 15 (M 136 j).toNatClampNeg = M 137 j) (by
    intro n i _ hi hall
    obtain ⟨g1, g2, t, ht, g3⟩ := b3 i hi
    by_cases hq : M 15 t = M 137 i
    · left
      refine ⟨(), fun j hj => ?_, ?_⟩
      · by_cases e : j = i
        · subst e
          rw [g3, q_cl (by omega)]
          exact hq
        · exact hall j (by omega)
      · show m_X1_firstWrong_2 M 13 (n + 1) (nI i) = _
        rw [m_X1_firstWrong_2, b1, if_neg (nI_ge hi (by omega)), fp_inN (show i < 15 by omega) (by decide), fp_gdt, fp_ltt, q_cl (by omega), g1, g3, if_neg (nI_pos (by omega)), if_neg (nI_ge (show t < 9 by omega) (by decide)), fp_inN (show t < 9 by omega) (by decide), fp_gdt, fp_gdt, q_cl (by omega), g2, if_pos hq, m_X1_firstWrong_44, fp_ltt, nI_add]
    · right
      refine ⟨nI i, Or.inr ⟨i, hi, rfl, by rw [g3, q_cl (by omega)]; exact hq, hall⟩, ?_⟩
      show m_X1_firstWrong_2 M 13 (n + 1) (nI i) = _
      rw [m_X1_firstWrong_2, b1, if_neg (nI_ge hi (by omega)), fp_inN (show i < 15 by omega) (by decide), fp_gdt, fp_ltt, q_cl (by omega), g1, g3, if_neg (nI_pos (by omega)), if_neg (nI_ge (show t < 9 by omega) (by decide)), fp_inN (show t < 9 by omega) (by decide), fp_gdt, fp_gdt, q_cl (by omega), g2, if_neg hq]) (by
    intro n _ hall
    refine ⟨-1, Or.inl ⟨rfl, hall⟩, ?_⟩
    show m_X1_firstWrong_2 M 13 (n + 1) (nI c) = _
    rw [m_X1_firstWrong_2, b1, if_pos (nI_le (Nat.le_refl _) (by omega))]) c 0 fp_fu () (by omega) (fu_lt (by omega)) (fun j hj => absurd hj (Nat.not_lt_zero j))
  have hrow : ∀ j, j < c → M 123 (9 + (M 136 j).toNatClampNeg) = M 15 (M 136 j).toNatClampNeg := by
    intro j hj
    obtain ⟨-, -, t, ht, g3⟩ := b3 j hj
    rw [g3, q_cl (by omega)]
    exact ((h4.1.1 t (by omega)).2).symm
  obtain ⟨r2, hr2, he2⟩ := loopE (σ := Unit) (fun n i _ => m_X12_judge_2 M n (nI i)) c (fun i _ => ∀ j, j < i → M 15 (M 136 j).toNatClampNeg = M 137 j) (fun r => (r = -1 ∧ ∀ j, j < c → M 15 (M 136 j).toNatClampNeg = M 137 j) ∨ ∃ i, i < c ∧ r = nI i ∧ ¬ M 15 (M 136 i).toNatClampNeg = M 137 i ∧ ∀ j, j < i → M 15 (M 136 j).toNatClampNeg = M 137 j) (by
    intro n i _ hi hall
    obtain ⟨g1, g2, t, ht, g3⟩ := b3 i hi
    have hro := hrow i hi
    rw [g3, q_cl (by omega)] at hro
    by_cases hq : M 15 t = M 137 i
    · left
      refine ⟨(), fun j hj => ?_, ?_⟩
      · by_cases e : j = i
        · subst e
          rw [g3, q_cl (by omega)]
          exact hq
        · exact hall j (by omega)
      · show m_X12_judge_2 M (n + 1) (nI i) = _
        rw [m_X12_judge_2, b2, if_neg (nI_ge hi (by omega)), fp_inN (show i < 15 by omega) (by decide), fp_gdt, q_cl (show i < 2 ^ 31 by omega), g3, nI_add, fp_inN (show 9 + t < 25 by omega) (by decide), fp_gdt, fp_gdt, q_cl (show 9 + t < 2 ^ 31 by omega), hro, if_pos hq, fp_ltt, nI_add]
    · right
      refine ⟨nI i, Or.inr ⟨i, hi, rfl, by rw [g3, q_cl (by omega)]; exact hq, hall⟩, ?_⟩
      show m_X12_judge_2 M (n + 1) (nI i) = _
      rw [m_X12_judge_2, b2, if_neg (nI_ge hi (by omega)), fp_inN (show i < 15 by omega) (by decide), fp_gdt, q_cl (show i < 2 ^ 31 by omega), g3, nI_add, fp_inN (show 9 + t < 25 by omega) (by decide), fp_gdt, fp_gdt, q_cl (show 9 + t < 2 ^ 31 by omega), hro, if_neg hq]) (by
    intro n _ hall
    refine ⟨-1, Or.inl ⟨rfl, hall⟩, ?_⟩
    show m_X12_judge_2 M (n + 1) (nI c) = _
    rw [m_X12_judge_2, b2, if_pos (nI_le (Nat.le_refl _) (by omega))]) c 0 fp_fu () (by omega) (fu_lt (by omega)) (fun j hj => absurd hj (Nat.not_lt_zero j))
  have hrr : r = r2 := by
    rcases hr with ⟨e1, e2⟩ | ⟨i, i1, i2, i3, i4⟩ <;> rcases hr2 with ⟨e3, e4⟩ | ⟨k, k1, k2, k3, k4⟩
    · rw [e1, e3]
    · exact absurd (e2 k k1) k3
    · exact absurd (e4 i i1) i3
    · rw [i2, k2]
      congr 1
      by_cases h : i < k
      · exact absurd (k4 i h) i3
      · by_cases h' : k < i
        · exact absurd (i4 k h') k3
        · omega
  refine ⟨r, ?_, ?_, hI0⟩
  · rw [m_X11_judge, m_X1_firstWrong, show m_X1_firstWrong_2 M 13 fp_fu (nI 0) = some r from he, fp_b1t]
  · rw [m_X12_judge, hrr]
    exact he2

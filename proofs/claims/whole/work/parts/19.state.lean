/-! states: their rows of 25 (seats, who sit, wood, shut, standing, moves, crimes, fines, guests), copied, changed by a guest -/
def SR (M : fp_Mem) (k : Nat) (f : Nat → Int32) : Prop := (∀ t, t < 9 → M (k + 1) t = f t ∧ M (k + 2) t = f (9 + t)) ∧ M k 2 = f 18 ∧ M k 3 = f 19 ∧ M k 4 = f 20 ∧ M k 5 = f 21 ∧ M k 6 = f 22 ∧ M k 7 = f 23 ∧ M k 8 = f 24
def RW (M : fp_Mem) (f : Nat → Int32) : Prop := ∀ j, j < 25 → M 123 j = f j
/-- a row's numbers -/
def NR (f : Nat → Int32) (se si : Nat → Nat) : Prop := ∀ t, t < 9 → f t = nI (se t) ∧ f (9 + t) = nI (si t) ∧ si t ≤ se t ∧ se t ≤ 24
/-- a row that may be: 20 seats at most, nobody where no table is, wood -/
def SV (nt : Nat) (f : Nat → Int32) : Prop := ∃ (se si : Nat → Nat) (w : Nat), NR f se si ∧ (∀ t, t < 9 → se t ≤ 20 ∧ (nt ≤ t → se t = 0 ∧ si t = 0)) ∧ f 18 = nI w ∧ w ≤ 99
theorem SR_CS {M : fp_Mem} {k : Nat} {f : Nat → Int32} {se si : Nat → Nat} (h : SR M k f) (hn : NR f se si) : CS M k se si := fun t ht => by
  obtain ⟨a, b, c, d⟩ := hn t ht
  exact ⟨(h.1 t ht).1.trans a, (h.1 t ht).2.trans b, c, d⟩
theorem RW_MS {M : fp_Mem} {f : Nat → Int32} {se si : Nat → Nat} (h : RW M f) (hn : NR f se si) : MS M se si := fun t ht => by
  obtain ⟨a, b, c, d⟩ := hn t ht
  exact ⟨(h t (by omega)).trans a, (h (9 + t) (by omega)).trans b, c, d⟩
theorem SR_fr {P : Nat → Prop} {M M' : fp_Mem} {k : Nat} {f : Nat → Int32} (h : SR M k f) (hf : fr P M M') (h0 : ¬ P k) (h1 : ¬ P (k + 1)) (h2 : ¬ P (k + 2)) : SR M' k f := by
  unfold SR
  rw [hf k h0, hf (k + 1) h1, hf (k + 2) h2]
  exact h
theorem SR_congr {M : fp_Mem} {k : Nat} {f g : Nat → Int32} (h : SR M k f) (hg : ∀ j, j < 25 → f j = g j) : SR M k g := by
  obtain ⟨a, b1, b2, b3, b4, b5, b6, b7⟩ := h
  refine ⟨fun t ht => ?_, ?_, ?_, ?_, ?_, ?_, ?_, ?_⟩
  · rw [← hg t (by omega), ← hg (9 + t) (by omega)]
    exact a t ht
  · rw [← hg 18 (by decide)]; exact b1
  · rw [← hg 19 (by decide)]; exact b2
  · rw [← hg 20 (by decide)]; exact b3
  · rw [← hg 21 (by decide)]; exact b4
  · rw [← hg 22 (by decide)]; exact b5
  · rw [← hg 23 (by decide)]; exact b6
  · rw [← hg 24 (by decide)]; exact b7
theorem NR_congr {f g : Nat → Int32} {se si : Nat → Nat} (h : NR f se si) (hg : ∀ j, j < 25 → f j = g j) : NR g se si := fun t ht => by
  rw [← hg t (by omega), ← hg (9 + t) (by omega)]
  exact h t ht
theorem SV_congr {nt : Nat} {f g : Nat → Int32} (h : SV nt f) (hg : ∀ j, j < 25 → f j = g j) : SV nt g := by
  obtain ⟨se, si, w, h1, h2, h3, h4⟩ := h
  exact ⟨se, si, w, NR_congr h1 hg, h2, by rw [← hg 18 (by decide)]; exact h3, h4⟩
theorem c_becomes {M : fp_Mem} {k k1 : Nat} {f : Nat → Int32} (h : SR M k1 f) (hd : k + 3 ≤ k1 ∨ k1 + 3 ≤ k) : ∃ M', m_X9_becomes M k k1 = some M' ∧ SR M' k f ∧ fr (fun q => k ≤ q ∧ q < k + 3) M M' := by
  obtain ⟨n1, M1, ⟨i1, i2⟩, he⟩ := loopI (fun n i s => m_X9_becomes_2 k k1 n (nI i) s) 9 (fun i s => fr (fun q => q = k + 1 ∨ q = k + 2) M s ∧ ∀ t, t < i → s (k + 1) t = f t ∧ s (k + 2) t = f (9 + t)) (by
    rintro n i s hi ⟨i1, i2⟩
    refine ⟨fp_set (fp_set s (k + 1) i (f i)) (k + 2) i (f (9 + i)), ⟨fr_tr i1 (fr_tr (fr_set (Or.inl rfl)) (fr_set (Or.inr rfl))), fun t ht => ?_⟩, ?_⟩
    · rw [set_off (show k + 1 ≠ k + 2 by omega), set_q s, set_q _ (k + 2), set_off (show k + 2 ≠ k + 1 by omega)]
      by_cases e : t = i
      · subst e
        simp
      · rw [if_neg (by simp [e]), if_neg (by simp [e])]
        exact i2 t (by omega)
    · show m_X9_becomes_2 k k1 (n + 1) (nI i) s = _
      rw [m_X9_becomes_2, if_neg (nI_ge hi (by decide)), fp_inN hi (by decide), fp_gdt, fp_gdt, fp_ltt, fp_gdt, fp_gdt, fp_ltt, fp_ltt, nI_add, q_cl (by omega), set_off (show k1 + 2 ≠ k + 1 by omega), i1 (k1 + 1) (by omega), i1 (k1 + 2) (by omega), (h.1 i hi).1, (h.1 i hi).2]) 9 0 fp_fu M rfl (fu_lt (by decide)) ⟨fr_rf, fun t ht => absurd ht (Nat.not_lt_zero t)⟩
  obtain ⟨-, b1, b2, b3, b4, b5, b6, b7⟩ := h
  refine ⟨fp_set (fp_set (fp_set (fp_set (fp_set (fp_set (fp_set M1 k 2 (f 18)) k 3 (f 19)) k 4 (f 20)) k 5 (f 21)) k 6 (f 22)) k 7 (f 23)) k 8 (f 24), ?_, ?_, ?_⟩
  · rw [m_X9_becomes]
    refine he.trans ?_
    show m_X9_becomes_2 k k1 (n1 + 1) (nI 9) M1 = _
    rw [m_X9_becomes_2, if_pos (nI_le (Nat.le_refl _) (by decide))]
    have g : ∀ j, M1 k1 j = M k1 j := fun j => by rw [i1 k1 (by omega)]
    have kk : k1 ≠ k := by omega
    simp only [fp_ltt, set_off kk, g, b1, b2, b3, b4, b5, b6, b7]
  · refine ⟨fun t ht => ?_, ?_, ?_, ?_, ?_, ?_, ?_, ?_⟩
    · have h1 : k + 1 ≠ k := by omega
      have h2 : k + 2 ≠ k := by omega
      simp only [set_off h1, set_off h2]
      exact i2 t ht
    all_goals simp [set_q]
  · exact fr_tr (fr_mono i1 (fun q h => by omega)) (fr_tr (fr_set (by omega)) (fr_tr (fr_set (by omega)) (fr_tr (fr_set (by omega)) (fr_tr (fr_set (by omega)) (fr_tr (fr_set (by omega)) (fr_tr (fr_set (by omega)) (fr_set (by omega))))))))
/-- a guest comes to t: the answer, the row behind it -/
def gR (nt : Nat) (A : Nat → Nat → Bool) (se si : Nat → Nat) (fine : Int32) (f : Nat → Int32) (t : Nat) : Int32 × (Nat → Int32) :=
  if dst nt A (fun t => decide (2 ≤ se t - si t)) t < 9 then (nI (dst nt A (fun t => decide (2 ≤ se t - si t)) t), fun j => if j = 24 then f 24 + nI 1 else if j = 9 + chn nt A (fun t => decide (2 ≤ se t - si t)) t (dst nt A (fun t => decide (2 ≤ se t - si t)) t) then f j + nI 1 else if j = 21 then f 21 + nI (dst nt A (fun t => decide (2 ≤ se t - si t)) t) else f j)
  else if 1 ≤ se t - si t then (-2, fun j => if j = 24 then f 24 + nI 1 else if j = 9 + t then f j + nI 1 else if j = 22 then f 22 + nI 1 else if j = 23 then (if f 23 + fine < nI 999999 then f 23 + fine else nI 999999) else f j)
  else (-3, fun j => if j = 24 then f 24 + nI 1 else if j = 20 then f 20 + nI 1 else f j)
theorem c_guest {M : fp_Mem} {k kr ks nt nw t : Nat} {fa fb : Nat → Nat} {f : Nat → Int32} {se si : Nat → Nat} (hR : CR M kr nt nw fa fb) (hS : SR M ks f) (hN : NR f se si) (ht : t < nt) (hk : kr + 5 ≤ k ∨ k + 6 ≤ kr) (hk2 : ks + 3 ≤ k ∨ k + 6 ≤ ks) (hk3 : ks + 3 ≤ kr ∨ kr + 5 ≤ ks) :
    ∃ M', m_X0_guestComes M k kr ks (nI t) = some ((gR nt (adjN (f 19) fa fb nw) se si (M kr 1) f t).1, M') ∧ SR M' ks (gR nt (adjN (f 19) fa fb nw) se si (M kr 1) f t).2 ∧ fr (fun q => (k + 1 ≤ q ∧ q < k + 6) ∨ (ks ≤ q ∧ q < ks + 3)) M M' := by
  obtain ⟨M1, hm1, hC, hf1⟩ := c_measure (k := k + 1) hR (SR_CS hS hN) (by omega) (by omega)
  rw [hS.2.2.1] at hC
  have hn := hR.1
  generalize hA : adjN (f 19) fa fb nw = A at hC ⊢
  have hS1 : SR M1 ks f := SR_fr hS hf1 (by omega) (by omega) (by omega)
  have hkr1 : M1 kr 1 = M kr 1 := by rw [hf1 kr (by omega)]
  have hC2 : ∀ (x : Int32) (j : Nat), CC (fp_set M1 ks j x) (k + 1) nt A (fun t => decide (2 ≤ se t - si t)) := by
    intro x j
    obtain ⟨⟨c1, c2⟩, c3⟩ := hC
    refine ⟨⟨by rw [set_off (by omega)]; exact c1, fun t ht => by rw [set_off (by omega)]; exact c2 t ht⟩, fun t ht => ?_⟩
    rw [set_off (by omega), set_off (by omega), set_off (by omega)]
    exact c3 t ht
  obtain ⟨a, b1, b2, b3, b4, b5, b6, b7⟩ := hS1
  have hC3 := hC2 (f 24 + nI 1) 8
  have ks1 : ks + 1 ≠ ks := by omega
  have ks2 : ks + 2 ≠ ks := by omega
  have ks12 : ks + 1 ≠ ks + 2 := by omega
  have ksr : ks ≠ ks + 2 := by omega
  have krs : kr ≠ ks := by omega
  have krs2 : kr ≠ ks + 2 := by omega
  have h3t : fp_set M1 ks 8 (f 24 + nI 1) kr 3 = nI nt := by rw [set_off krs, hf1 kr (by omega)]; exact hR.2.2.1
  unfold gR
  by_cases h9 : dst nt A (fun t => decide (2 ≤ se t - si t)) t < 9
  · rw [if_pos h9]
    obtain ⟨q1, q2⟩ := chn_dst (A := A) (O := fun t => decide (2 ≤ se t - si t)) hn h9 (i := dst nt A (fun t => decide (2 ≤ se t - si t)) t) (Nat.le_refl _)
    generalize hl : chn nt A (fun t => decide (2 ≤ se t - si t)) t (dst nt A (fun t => decide (2 ≤ se t - si t)) t) = l at q1 q2 ⊢
    refine ⟨fp_set (fp_set (fp_set M1 ks 8 (f 24 + nI 1)) (ks + 2) l (f (9 + l) + nI 1)) ks 5 (f 21 + nI (dst nt A (fun t => decide (2 ≤ se t - si t)) t)), ?_, ?_, ?_⟩
    · rw [m_X0_guestComes, hm1, fp_b1t, fp_ltt, b7, cc_movesFrom hC3 hn ht, fp_b1t, mvI, if_pos h9, cc_tableOf_y hC3 hn ht h9 (Nat.le_refl _), fp_b1t, hl, c_hasTable_y h3t hn q1, fp_b1t, if_neg (by decide), fp_inN (show l < 9 by omega) (by decide), fp_gdt, fp_gdt, fp_ltt, fp_ltt, q_cl (by omega)]
      simp only [set_off ks2, set_off ksr, set_q, (a l (by omega)).2, b4]
      simp
    · refine ⟨fun u hu => ?_, ?_, ?_, ?_, ?_, ?_, ?_, ?_⟩
      · simp only [set_off ks1, set_off ks2, set_off ks12, set_q (fp_set M1 ks 8 (f 24 + nI 1)) (ks + 2)]
        rw [(a u hu).1, (a u hu).2]
        refine ⟨?_, ?_⟩
        · rw [if_neg (by omega), if_neg (by omega), if_neg (by omega)]
        · rw [if_neg (show ¬ 9 + u = 24 by omega)]
          by_cases e : u = l
          · subst e
            simp
          · rw [if_neg (by simp [e]), if_neg (by omega), if_neg (by omega)]
      · simp [set_q, b1] <;> omega
      · simp [set_q, b2] <;> omega
      · simp [set_q, b3] <;> omega
      · simp [set_q] <;> omega
      · simp [set_q, b5] <;> omega
      · simp [set_q, b6] <;> omega
      · simp [set_q]
    · exact fr_tr (fr_mono hf1 (fun q h => by omega)) (fr_tr (fr_set (by omega)) (fr_tr (fr_set (by omega)) (fr_set (by omega))))
  · rw [if_neg h9]
    have hfree : ∀ (x : Int32), m_X9_free (fp_set M1 ks 8 x) ks (nI t) = some (nI (se t - si t)) := fun x => c_free (fun u hu => by
      simp only [set_off ks1, set_off ks2]
      rw [(a u hu).1, (a u hu).2]
      exact hN u hu) (by omega)
    have h24 := (hN t (by omega)).2.2.2
    have hpre : ∀ y, m_X0_comesWithoutChain (fp_set M1 ks 8 (f 24 + nI 1)) k kr ks (nI t) = some y → m_X0_guestComes M k kr ks (nI t) = some y := by
      rintro ⟨y1, y2⟩ hy
      rw [m_X0_guestComes, hm1, fp_b1t, fp_ltt, b7, cc_movesFrom hC3 hn ht, fp_b1t, mvI, if_neg h9, cc_tableOf_n hC3 hn ht (Or.inl (by decide)), fp_b1t, c_hasTable_n h3t (Or.inl (by decide)), fp_b1t, if_pos (by decide), hy, fp_b2t]
    by_cases h1 : 1 ≤ se t - si t
    · rw [if_pos h1]
      refine ⟨fp_set (fp_set (fp_set (fp_set M1 ks 8 (f 24 + nI 1)) (ks + 2) t (f (9 + t) + nI 1)) ks 6 (f 22 + nI 1)) ks 7 (if f 23 + M kr 1 < nI 999999 then f 23 + M kr 1 else nI 999999), ?_, ?_, ?_⟩
      · refine hpre _ ?_
        rw [m_X0_comesWithoutChain, hfree, fp_b1t, if_pos (nI_le h1 (by omega)), fp_inN (show t < 9 by omega) (by decide), fp_gdt, fp_gdt, fp_ltt, fp_ltt, fp_ltt, q_cl (by omega)]
        simp only [set_off ks2, set_off ksr, set_off krs, set_off krs2, set_q, (a t (by omega)).2, b5, b6, hkr1]
        simp
      · refine ⟨fun u hu => ?_, ?_, ?_, ?_, ?_, ?_, ?_, ?_⟩
        · simp only [set_off ks1, set_off ks2, set_off ks12, set_q (fp_set M1 ks 8 (f 24 + nI 1)) (ks + 2)]
          rw [(a u hu).1, (a u hu).2]
          refine ⟨?_, ?_⟩
          · rw [if_neg (by omega), if_neg (by omega), if_neg (by omega), if_neg (by omega)]
          · rw [if_neg (show ¬ 9 + u = 24 by omega)]
            by_cases e : u = t
            · subst e
              simp
            · rw [if_neg (by simp [e]), if_neg (by omega), if_neg (by omega), if_neg (by omega)]
        · simp [set_q, b1] <;> omega
        · simp [set_q, b2] <;> omega
        · simp [set_q, b3] <;> omega
        · simp [set_q, b4] <;> omega
        · simp [set_q] <;> omega
        · simp [set_q] <;> omega
        · simp [set_q]
      · exact fr_tr (fr_mono hf1 (fun q h => by omega)) (fr_tr (fr_set (by omega)) (fr_tr (fr_set (by omega)) (fr_tr (fr_set (by omega)) (fr_set (by omega)))))
    · rw [if_neg h1]
      refine ⟨fp_set (fp_set M1 ks 8 (f 24 + nI 1)) ks 4 (f 20 + nI 1), ?_, ?_, ?_⟩
      · refine hpre _ ?_
        rw [m_X0_comesWithoutChain, hfree, fp_b1t, if_neg (nI_ge (by omega) (by omega)), fp_ltt]
        simp only [set_q, b3]
        simp
      · refine ⟨fun u hu => ?_, ?_, ?_, ?_, ?_, ?_, ?_, ?_⟩
        · simp only [set_off ks1, set_off ks2]
          rw [(a u hu).1, (a u hu).2]
          exact ⟨by rw [if_neg (by omega), if_neg (by omega)], by rw [if_neg (by omega), if_neg (by omega)]⟩
        · simp [set_q, b1]
        · simp [set_q, b2]
        · simp [set_q]
        · simp [set_q, b4]
        · simp [set_q, b5]
        · simp [set_q, b6]
        · simp [set_q]
      · exact fr_tr (fr_mono hf1 (fun q h => by omega)) (fr_tr (fr_set (by omega)) (fr_set (by omega)))

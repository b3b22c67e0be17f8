/-! link, measure: how far each table is, whither, by whom -/
theorem adjN_sym (sh : Int32) (fa fb : Nat → Nat) : ∀ (n t u : Nat), adjN sh fa fb n t u = adjN sh fa fb n u t
  | 0, _, _ => rfl
  | n + 1, t, u => by
    rw [adjN, adjN, adjN_sym sh fa fb n t u]
    congr 2
    rw [Bool.or_comm]
    congr 1 <;> rw [Bool.and_comm]
theorem c_link {M : fp_Mem} {k nt d : Nat} {A : Nat → Nat → Bool} {O : Nat → Bool} {ring ahead : Int32} (hJ : CJ M k nt A) (hn : nt ≤ 9) (hd : d < 9) (hr : isM ring (fun t => decide (dst nt A O t = d))) (ha : isM ahead (fun t => decide (dst nt A O t + 1 = d)))
    (hz : ∀ t, t < 9 → dst nt A O t = d → M (k + 4) t = nI 0) (hm : ∀ t, t < 9 → dst nt A O t + 1 = d → isM (M (k + 4) t) (mvr nt A O (dst nt A O t) t)) :
    ∃ M', m_X2_link M k ring (nI d) ahead = some M' ∧ fr (fun q => q = k + 2 ∨ q = k + 3 ∨ q = k + 4) M M' ∧ ∀ t, t < 9 → (dst nt A O t = d → M' (k + 2) t = nI d ∧ (0 < d → M' (k + 3) t = nI (nxt nt A O t)) ∧ isM (M' (k + 4) t) (mvr nt A O d t)) ∧ (dst nt A O t ≠ d → M' (k + 2) t = M (k + 2) t ∧ M' (k + 3) t = M (k + 3) t ∧ M' (k + 4) t = M (k + 4) t) := by
  obtain ⟨h0, hj⟩ := hJ
  obtain ⟨n1, M1, hI, he⟩ := loopI (fun n i s => m_X2_link_3 k ring (nI d) ahead n (nI i) s) nt (fun i s => fr (fun q => q = k + 2 ∨ q = k + 3 ∨ q = k + 4) M s ∧ ∀ t, t < 9 → ((t < i ∧ dst nt A O t = d) → s (k + 2) t = nI d ∧ (0 < d → s (k + 3) t = nI (nxt nt A O t)) ∧ isM (s (k + 4) t) (mvr nt A O d t)) ∧ (¬ (t < i ∧ dst nt A O t = d) → s (k + 2) t = M (k + 2) t ∧ s (k + 3) t = M (k + 3) t ∧ s (k + 4) t = M (k + 4) t)) (by
    rintro n i s hi ⟨f1, f2⟩
    have hi9 : i < 9 := by omega
    have s0 : s k 0 = nI nt := by rw [f1 k (by omega)]; exact h0
    by_cases hp : dst nt A O i = d
    · -- in the ring
      have hbit : ¬ (ring >>> (nI i &&& 31)) &&& nI 1 = 0 := fun e => by have := (isM_tz hr hi9).mp e; simp [hp] at this
      have hkj : ∀ (s' : fp_Mem), s' = fp_set s (k + 2) i (nI d) → isM (s' (k + 1) i &&& ahead) (fun u => A i u && decide (dst nt A O u + 1 = d)) := by
        intro s' e
        rw [e, set_off (by omega), f1 (k + 1) (by omega)]
        exact isM_and (hj i hi9) ha
      by_cases hd0 : d = 0
      · subst hd0
        have hl : lst (fun u => A i u && decide (dst nt A O u + 1 = 0)) = 9 := by
          have h1 := lst_le (fun u => A i u && decide (dst nt A O u + 1 = 0))
          by_cases h2 : lst (fun u => A i u && decide (dst nt A O u + 1 = 0)) < 9
          · have := lst_yes h2
            simp at this
          · omega
        refine ⟨fp_set s (k + 2) i (nI 0), ⟨fr_tr f1 (fr_set (Or.inl rfl)), fun t ht => ?_⟩, ?_⟩
        · rw [set_q, set_off (show k + 3 ≠ k + 2 by omega), set_off (show k + 4 ≠ k + 2 by omega)]
          by_cases e : t = i
          · subst e
            refine ⟨fun _ => ⟨by simp, fun h => absurd h (by decide), ?_⟩, fun h => absurd ⟨Nat.lt_succ_self t, hp⟩ h⟩
            rw [((f2 t ht).2 (by omega)).2.2, hz t ht hp]
            exact isM_0
          · rw [if_neg (by simp [e])]
            have e2 : (t < i + 1) = (t < i) := propext ⟨fun h => by omega, fun h => by omega⟩
            rw [e2]
            exact f2 t ht
        · show m_X2_link_3 k ring (nI 0) ahead (n + 1) (nI i) s = _
          rw [m_X2_link_3, s0, if_neg (nI_ge hi (by omega)), if_neg hbit, fp_inN hi9 (by decide), fp_gdt, fp_ltt, fp_gdt, q_cl (show i < 2 ^ 31 by omega), isM_ntz _ (hkj _ rfl), fp_b1t, hl, set_off (show k ≠ k + 2 by omega), s0]
          rw [if_neg (show ¬ (9 < 9) by decide), if_pos (nI_le (show nt ≤ 32 by omega) (by decide)), m_X2_link_83, fp_ltt, nI_add]
      · have hnx := nxt_lt (A := A) (O := O) (t := i) hn (by omega) (by omega)
        have hl : lst (fun u => A i u && decide (dst nt A O u + 1 = d)) = nxt nt A O i := by
          unfold nxt
          refine lst_congr (fun u hu => ?_)
          by_cases hu2 : u < nt
          · simp [hu2, hp]
          · have : ¬ dst nt A O u + 1 = d := fun e => hu2 (dst_lt (A := A) (O := O) (show dst nt A O u < 9 by omega))
            simp [hu2, this]
        have hr9 : nxt nt A O i < 9 := by omega
        refine ⟨fp_set (fp_set (fp_set s (k + 2) i (nI d)) (k + 3) i (nI (nxt nt A O i))) (k + 4) i (s (k + 4) (nxt nt A O i) ||| ((nI 1) <<< (nI i &&& 31))), ⟨fr_tr f1 (fr_tr (fr_set (Or.inl rfl)) (fr_tr (fr_set (Or.inr (Or.inl rfl))) (fr_set (Or.inr (Or.inr rfl))))), fun t ht => ?_⟩, ?_⟩
        · rw [set_off (show k + 2 ≠ k + 4 by omega), set_off (show k + 2 ≠ k + 3 by omega), set_q s, set_off (show k + 3 ≠ k + 4 by omega), set_q (fp_set s (k + 2) i (nI d)), set_q _ (k + 4), set_off (show k + 4 ≠ k + 3 by omega), set_off (show k + 4 ≠ k + 2 by omega), set_off (show k + 3 ≠ k + 2 by omega)]
          by_cases e : t = i
          · subst e
            refine ⟨fun _ => ⟨by simp, fun _ => by simp, ?_⟩, fun h => absurd ⟨Nat.lt_succ_self t, hp⟩ h⟩
            rw [if_pos ⟨rfl, rfl⟩]
            have h4 : s (k + 4) (nxt nt A O t) = M (k + 4) (nxt nt A O t) := ((f2 _ hr9).2 (by omega)).2.2
            rw [h4]
            have hmm := hm _ hr9 (show dst nt A O (nxt nt A O t) + 1 = d by omega)
            obtain ⟨d', rfl⟩ : ∃ d', d = d' + 1 := ⟨d - 1, by omega⟩
            refine isM_congr (isM_or hmm (isM_bit hi9)) (fun j _ => ?_)
            rw [mvr, show dst nt A O (nxt nt A O t) = d' by omega, Bool.or_comm]
          · rw [if_neg (by simp [e]), if_neg (by simp [e]), if_neg (by simp [e])]
            have e2 : (t < i + 1) = (t < i) := propext ⟨fun h => by omega, fun h => by omega⟩
            rw [e2]
            exact f2 t ht
        · show m_X2_link_3 k ring (nI d) ahead (n + 1) (nI i) s = _
          rw [m_X2_link_3, s0, if_neg (nI_ge hi (by omega)), if_neg hbit, fp_inN hi9 (by decide), fp_gdt, fp_ltt, fp_gdt, q_cl (show i < 2 ^ 31 by omega), isM_ntz _ (hkj _ rfl), fp_b1t, hl, set_off (show k ≠ k + 2 by omega), s0]
          rw [if_pos hr9, if_neg (nI_ge hnx.1 (by omega)), fp_gdt, fp_ltt, fp_inN hr9 (by decide), fp_gdt, fp_gdt, fp_ltt, m_X2_link_83, fp_ltt, nI_add, q_cl (show nxt nt A O i < 2 ^ 31 by omega), set_off (show k + 4 ≠ k + 3 by omega), set_off (show k + 4 ≠ k + 2 by omega)]
    · -- not in it
      refine ⟨s, ⟨f1, fun t ht => ?_⟩, ?_⟩
      · have e2 : (t < i + 1 ∧ dst nt A O t = d) = (t < i ∧ dst nt A O t = d) := propext ⟨fun h => ⟨by by_cases e : t = i; (subst e; exact absurd h.2 hp); omega, h.2⟩, fun h => ⟨by omega, h.2⟩⟩
        rw [e2]
        exact f2 t ht
      · show m_X2_link_3 k ring (nI d) ahead (n + 1) (nI i) s = _
        rw [m_X2_link_3, s0, if_neg (nI_ge hi (by omega)), if_pos ((isM_tz hr hi9).mpr (by simp [hp])), m_X2_link_83, fp_ltt, nI_add]) nt 0 fp_fu M (by omega) (fu_lt (by omega)) ⟨fr_rf, fun t ht => ⟨fun h => absurd h.1 (Nat.not_lt_zero t), fun _ => ⟨rfl, rfl, rfl⟩⟩⟩
  obtain ⟨f1, f2⟩ := hI
  refine ⟨M1, ?_, f1, fun t ht => ⟨fun e => (f2 t ht).1 ⟨dst_lt (A := A) (O := O) (by omega), e⟩, fun e => (f2 t ht).2 (fun h => e h.2)⟩⟩
  rw [m_X2_link]
  refine he.trans ?_
  show m_X2_link_3 k ring (nI d) ahead (n1 + 1) (nI nt) M1 = _
  rw [m_X2_link_3, show M1 k 0 = nI nt by rw [f1 k (by omega)]; exact h0, if_pos (nI_le (Nat.le_refl _) (by omega))]
/-- the chains at k are measured -/
def CC (M : fp_Mem) (k nt : Nat) (A : Nat → Nat → Bool) (O : Nat → Bool) : Prop := CJ M k nt A ∧ ∀ t, t < 9 → (dst nt A O t < 9 → M (k + 2) t = nI (dst nt A O t) ∧ (0 < dst nt A O t → M (k + 3) t = nI (nxt nt A O t)) ∧ isM (M (k + 4) t) (mvr nt A O (dst nt A O t) t)) ∧ (¬ dst nt A O t < 9 → M (k + 2) t = -1 ∧ M (k + 3) t = -1 ∧ M (k + 4) t = nI 0)
theorem dst_gap {nt : Nat} {A : Nat → Nat → Bool} {O : Nat → Bool} {d : Nat} (h : ∀ t, t < nt → dst nt A O t ≠ d) : ∀ (e t : Nat), d ≤ e → e < 9 → dst nt A O t ≠ e := by
  intro e
  induction e with
  | zero =>
    intro t hde _ ht
    obtain rfl : d = 0 := by omega
    exact h t (dst_lt (A := A) (O := O) (by omega)) ht
  | succ e ih =>
    intro t hde he ht
    by_cases h1 : d = e + 1
    · subst h1
      exact h t (dst_lt (A := A) (O := O) (by omega)) ht
    · obtain ⟨-, -, u, -, -, hu⟩ := (dst_s (A := A) (O := O) (nt := nt) (by omega)).mp ht
      exact ih u (by omega) (by omega) hu
theorem c_measure {M : fp_Mem} {k kr ks nt nw : Nat} {fa fb : Nat → Nat} {se si : Nat → Nat} (hR : CR M kr nt nw fa fb) (hS : CS M ks se si) (hk : kr + 5 ≤ k ∨ k + 5 ≤ kr) (hk2 : ks + 3 ≤ k ∨ k + 5 ≤ ks) :
    ∃ M', m_X2_measure M k kr ks = some M' ∧ CC M' k nt (adjN (M ks 3) fa fb nw) (fun t => decide (2 ≤ se t - si t)) ∧ fr (fun q => k ≤ q ∧ q < k + 5) M M' := by
  obtain ⟨M1, hj1, hJ1, hf1⟩ := c_join (k := k) (sh := M ks 3) hR (by omega)
  have hF1 : fr (fun q => k ≤ q ∧ q < k + 5) M M1 := fr_mono hf1 (fun q h => by omega)
  generalize hA : adjN (M ks 3) fa fb nw = A at hJ1 ⊢
  have hsym : ∀ t u, A t u = A u t := by intro t u; rw [← hA]; exact adjN_sym _ _ _ _ _ _
  generalize hO : (fun t => decide (2 ≤ se t - si t)) = O
  obtain ⟨h9, h14, hr3, hr4, hw⟩ := hR
  -- the rows are cleared
  obtain ⟨n2, M2, ⟨f1, f2⟩, he2⟩ := loopI (fun n i s => m_X2_measure_11 k kr ks n (nI i) s) 9 (fun i s => fr (fun q => q = k + 2 ∨ q = k + 3 ∨ q = k + 4) M1 s ∧ ∀ t, t < i → s (k + 2) t = -1 ∧ s (k + 3) t = -1 ∧ s (k + 4) t = nI 0) (by
    rintro n i s hi ⟨f1, f2⟩
    refine ⟨fp_set (fp_set (fp_set s (k + 2) i (-1)) (k + 3) i (-1)) (k + 4) i (nI 0), ⟨fr_tr f1 (fr_tr (fr_set (Or.inl rfl)) (fr_tr (fr_set (Or.inr (Or.inl rfl))) (fr_set (Or.inr (Or.inr rfl))))), fun t ht => ?_⟩, ?_⟩
    · rw [set_off (show k + 2 ≠ k + 4 by omega), set_off (show k + 2 ≠ k + 3 by omega), set_q s, set_off (show k + 3 ≠ k + 4 by omega), set_q (fp_set s (k + 2) i (-1)), set_q _ (k + 4), set_off (show k + 4 ≠ k + 3 by omega), set_off (show k + 4 ≠ k + 2 by omega), set_off (show k + 3 ≠ k + 2 by omega)]
      by_cases e : t = i
      · simp [e]
      · rw [if_neg (by simp [e]), if_neg (by simp [e]), if_neg (by simp [e])]
        exact f2 t (by omega)
    · show m_X2_measure_11 k kr ks (n + 1) (nI i) s = _
      rw [m_X2_measure_11, if_neg (nI_ge hi (by decide)), fp_inN hi (by decide), fp_gdt, fp_ltt, fp_gdt, fp_ltt, fp_gdt, fp_ltt, fp_ltt, q_cl (by omega), nI_add]) 9 0 fp_fu M1 rfl (fu_lt (by decide)) ⟨fr_rf, fun t ht => absurd ht (Nat.not_lt_zero t)⟩
  have hF2 : fr (fun q => k ≤ q ∧ q < k + 5) M M2 := fr_tr hF1 (fr_mono f1 (fun q h => by omega))
  have hJ2 : CJ M2 k nt A := ⟨by rw [f1 k (by omega)]; exact hJ1.1, fun t ht => by rw [f1 (k + 1) (by omega)]; exact hJ1.2 t ht⟩
  have hS2 : CS M2 ks se si := fun t ht => by rw [hF2 (ks + 1) (by omega), hF2 (ks + 2) (by omega)]; exact hS t ht
  obtain ⟨x, hx1, hx2⟩ := c_wfb (b := 2) hS2 h9 (by decide)
  have hring : isM ((((nI 1) <<< (nI nt &&& 31)) - nI 1) &&& (x ^^^ (-1 : Int32))) (fun t => decide (dst nt A O t = 0)) := by
    refine isM_congr (isM_diff (isM_all h9) hx2) (fun t ht => ?_)
    by_cases h : t < nt
    · have e := dst_0 (A := A) (O := O) h
      rw [← hO] at e ⊢
      simp only [h, decide_true, Bool.true_and, decide_eq_true_eq] at e ⊢
      by_cases c : 2 ≤ se t - si t
      · have c2 : ¬ se t - si t < 2 := by omega
        simp [c2, e.mpr c]
      · have c2 : se t - si t < 2 := by omega
        have c3 : ¬ dst nt A (fun t => decide (2 ≤ se t - si t)) t = 0 := fun q => c (e.mp q)
        simp [c2, c3]
    · have c3 : ¬ dst nt A O t = 0 := fun q => h (dst_lt (A := A) (O := O) (by omega))
      simp [h, c3]
  -- ring by ring
  have hmain : ∃ M', CC M' k nt A O ∧ fr (fun q => k ≤ q ∧ q < k + 5) M M' ∧ m_X2_measure_70 k kr ks fp_fu (nI 0) (nI 0) ((((nI 1) <<< (nI nt &&& 31)) - nI 1) &&& (x ^^^ (-1 : Int32))) (nI 0) M2 = some M' := by
    have key := loopE (σ := Int32 × Int32 × Int32 × fp_Mem) (fun n i s => m_X2_measure_70 k kr ks n s.1 s.2.1 s.2.2.1 (nI i) s.2.2.2) 9
      (fun d s => isM s.1 (fun t => decide (dst nt A O t + 1 = d)) ∧ isM s.2.1 (fun t => decide (dst nt A O t < d)) ∧ (d < 9 → isM s.2.2.1 (fun t => decide (dst nt A O t = d))) ∧ fr (fun q => q = k + 2 ∨ q = k + 3 ∨ q = k + 4) M2 s.2.2.2 ∧ ∀ t, t < 9 → (dst nt A O t < d → s.2.2.2 (k + 2) t = nI (dst nt A O t) ∧ (0 < dst nt A O t → s.2.2.2 (k + 3) t = nI (nxt nt A O t)) ∧ isM (s.2.2.2 (k + 4) t) (mvr nt A O (dst nt A O t) t)) ∧ (¬ dst nt A O t < d → s.2.2.2 (k + 2) t = -1 ∧ s.2.2.2 (k + 3) t = -1 ∧ s.2.2.2 (k + 4) t = nI 0))
      (fun M' => CC M' k nt A O ∧ fr (fun q => k ≤ q ∧ q < k + 5) M M') (by
        rintro n d ⟨ah, re, ri, s⟩ hd ⟨i1, i2, i3, i4, i5⟩
        dsimp only at i1 i2 i3 i4 i5
        have hJs : CJ s k nt A := ⟨by rw [i4 k (by omega)]; exact hJ2.1, fun t ht => by rw [i4 (k + 1) (by omega)]; exact hJ2.2 t ht⟩
        have hri := i3 hd
        by_cases hz : ri = 0
        · right
          have hno : ∀ t, t < nt → dst nt A O t ≠ d := fun t ht e => by
            have := (isM_z hri).mp hz t (by omega)
            simp [e] at this
          refine ⟨s, ⟨⟨hJs, fun t ht => ?_⟩, fr_tr hF2 (fr_mono i4 (fun q h => by omega))⟩, ?_⟩
          · have hg : (dst nt A O t < 9) = (dst nt A O t < d) := propext ⟨fun h => by
              by_cases h2 : dst nt A O t < d
              · exact h2
              · exact absurd rfl (dst_gap hno (dst nt A O t) t (by omega) h), fun h => by omega⟩
            rw [hg]
            exact i5 t ht
          · show m_X2_measure_70 k kr ks (n + 1) ah re ri (nI d) s = _
            rw [m_X2_measure_70, if_neg (nI_ge hd (by decide)), if_pos hz, m_X2_measure_120]
        · left
          obtain ⟨s', hl1, hl2, hl3⟩ := c_link (O := O) hJs h9 hd hri i1 (fun t ht e => ((i5 t ht).2 (by omega)).2.2) (fun t ht e => by
            have := (i5 t ht).1 (by omega)
            exact this.2.2)
          have hJs' : CJ s' k nt A := ⟨by rw [hl2 k (by omega)]; exact hJs.1, fun t ht => by rw [hl2 (k + 1) (by omega)]; exact hJs.2 t ht⟩
          obtain ⟨y, hy1, hy2⟩ := c_around hJs' h9 hri
          refine ⟨(ri, re ||| ri, y &&& ((re ||| ri) ^^^ (-1 : Int32)), s'), ⟨?_, ?_, ?_, fr_tr i4 hl2, ?_⟩, ?_⟩
          · exact isM_congr hri (fun t _ => by
              by_cases e : dst nt A O t = d
              · simp [e]
              · simp [e])
          · exact isM_congr (isM_or i2 hri) (fun t _ => by
              by_cases e : dst nt A O t = d
              · simp [e]
              · have e2 : (dst nt A O t < d + 1) = (dst nt A O t < d) := propext ⟨fun h => by omega, fun h => by omega⟩
                simp only [e2, e, decide_false, Bool.or_false])
          · intro hd9
            refine isM_congr (isM_diff hy2 (isM_or i2 hri)) (fun t ht => ?_)
            have e := dst_s (nt := nt) (A := A) (O := O) (t := t) hd9
            cases hc : decide (dst nt A O t = d + 1) with
            | true =>
              have hc := of_decide_eq_true hc
              obtain ⟨g1, g2, u, g3, g4, g5⟩ := e.mp hc
              rw [anyT_y (u := u) g3 (by simp [g5, hsym u t, g4])]
              simp
              omega
            | false =>
              have hc := of_decide_eq_false hc
              cases hy : anyT (fun u => decide (dst nt A O u = d) && A u t) nt with
              | false => rfl
              | true =>
                obtain ⟨u, g3, g4⟩ := anyT_e hy
                simp only [Bool.and_eq_true, decide_eq_true_eq] at g4
                by_cases hle : dst nt A O t ≤ d
                · simp
                  omega
                · exfalso
                  apply hc
                  have ht9 : t < nt := by
                    have h5 : A u t = true := g4.2
                    rw [← hA] at h5
                    clear e hc hy hle
                    revert h5
                    have : ∀ n, n ≤ nw → adjN (M ks 3) fa fb n u t = true → t < nt := by
                      intro n
                      induction n with
                      | zero => intro _ h; simp [adjN] at h
                      | succ n ih =>
                        intro hn h
                        rw [adjN, Bool.or_eq_true] at h
                        rcases h with h | h
                        · exact ih (by omega) h
                        · obtain ⟨-, -, b1, b2, -⟩ := hw n (by omega)
                          simp at h
                          omega
                    exact this nw (Nat.le_refl _)
                  exact e.mpr ⟨ht9, hle, u, g3, by rw [hsym]; exact g4.2, g4.1⟩
          · intro t ht
            obtain ⟨l1, l2⟩ := hl3 t ht
            by_cases e : dst nt A O t = d
            · have := l1 e
              refine ⟨fun _ => by rw [e]; exact this, fun h => absurd (show dst nt A O t < d + 1 by omega) h⟩
            · obtain ⟨r1, r2, r3⟩ := l2 e
              have e2 : (dst nt A O t < d + 1) = (dst nt A O t < d) := propext ⟨fun h => by omega, fun h => by omega⟩
              show (dst nt A O t < d + 1 → s' (k + 2) t = _ ∧ (_ → s' (k + 3) t = _) ∧ isM (s' (k + 4) t) _) ∧ (¬ dst nt A O t < d + 1 → s' (k + 2) t = -1 ∧ s' (k + 3) t = -1 ∧ s' (k + 4) t = nI 0)
              rw [e2, r1, r2, r3]
              exact i5 t ht
          · show m_X2_measure_70 k kr ks (n + 1) ah re ri (nI d) s = _
            rw [m_X2_measure_70, if_neg (nI_ge hd (by decide)), if_neg hz, hl1, fp_b1t, fp_ltt, hy1, fp_b1t, fp_ltt, fp_ltt, nI_add])
      (by
        rintro n ⟨ah, re, ri, s⟩ ⟨i1, i2, i3, i4, i5⟩
        dsimp only at i1 i2 i3 i4 i5
        refine ⟨s, ⟨⟨⟨by rw [i4 k (by omega)]; exact hJ2.1, fun t ht => by rw [i4 (k + 1) (by omega)]; exact hJ2.2 t ht⟩, i5⟩, fr_tr hF2 (fr_mono i4 (fun q h => by omega))⟩, ?_⟩
        show m_X2_measure_70 k kr ks (n + 1) ah re ri (nI 9) s = _
        rw [m_X2_measure_70, if_pos (nI_le (Nat.le_refl _) (by decide)), m_X2_measure_120]) 9 0 fp_fu (nI 0, nI 0, (((nI 1) <<< (nI nt &&& 31)) - nI 1) &&& (x ^^^ (-1 : Int32)), M2) rfl (fu_lt (by decide)) ⟨isM_congr isM_0 (fun t _ => by simp), isM_congr isM_0 (fun t _ => by simp), fun _ => hring, fr_rf, fun t ht => ⟨fun h => absurd h (Nat.not_lt_zero _), fun _ => f2 t ht⟩⟩
    obtain ⟨M', ⟨q1, q2⟩, q3⟩ := key
    exact ⟨M', q1, q2, q3⟩
  obtain ⟨M', q1, q2, q3⟩ := hmain
  refine ⟨M', ?_, q1, q2⟩
  rw [m_X2_measure, hj1, fp_b1t]
  refine he2.trans ?_
  show m_X2_measure_11 k kr ks (n2 + 1) (nI 9) M2 = _
  rw [m_X2_measure_11, if_pos (nI_le (Nat.le_refl _) (by decide)), m_X7_allTables, fp_b1t, hJ2.1, hx1, fp_b1t, fp_ltt, hF2 kr (by omega), hr3]
  exact q3

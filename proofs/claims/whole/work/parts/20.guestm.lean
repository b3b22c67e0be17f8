/-! the model's guest; what a guest leaves is a row that may be; draws -/
theorem fpM_124 : Int32.toNatClampNeg (nI 24) = 24 := q_cl (by decide)
theorem m_guest {M : fp_Mem} {nt nw t : Nat} {fa fb : Nat → Nat} {f : Nat → Int32} {se si : Nat → Nat} (hR : MR M nt nw fa fb) (hS : RW M f) (hN : NR f se si) (ht : t < nt) :
    ∃ M', m_X12_guest M (nI t) = some ((gR nt (adjN (f 19) fa fb nw) se si (M 120 0) f t).1, M') ∧ RW M' (gR nt (adjN (f 19) fa fb nw) se si (M 120 0) f t).2 ∧ fr (fun q => q = 123 ∨ q = 130) M M' := by
  have hn := hR.1
  obtain ⟨M1, hm1, hf1, hv⟩ := m_findAway hR (RW_MS hS hN)
  rw [hS 19 (by decide)] at hv
  generalize hA : adjN (f 19) fa fb nw = A at hv ⊢
  have hS1 : RW M1 f := fun j hj => by rw [hf1 123 (by decide)]; exact hS j hj
  have hR1 := MR_fr hR hf1
  have h120 : M1 120 0 = M 120 0 := by rw [hf1 120 (by decide)]
  have hR2 : ∀ (j : Nat) (x : Int32), MR (fp_set M1 123 j x) nt nw fa fb := by
    intro j x
    obtain ⟨r1, r2, r3, r4, r5⟩ := hR1
    refine ⟨r1, r2, by rw [set_off (by decide)]; exact r3, by rw [set_off (by decide)]; exact r4, fun w hw => ?_⟩
    rw [set_off (by decide), set_off (by decide)]
    exact r5 w hw
  have hC : MC (fp_set M1 123 24 (f 24 + nI 1)) nt nw fa fb A (fun t => decide (2 ≤ se t - si t)) := ⟨hR2 _ _, by rw [set_ne (by decide), hS1 19 (by decide), hA], fun v hv2 => by rw [set_off (by decide)]; exact hv v hv2⟩
  have hd := dv_le (dst nt A (fun t => decide (2 ≤ se t - si t)) t)
  unfold gR
  by_cases h9 : dst nt A (fun t => decide (2 ≤ se t - si t)) t < 9
  · rw [if_pos h9]
    obtain ⟨q1, q2⟩ := chn_dst (A := A) (O := fun t => decide (2 ≤ se t - si t)) hn h9 (i := dst nt A (fun t => decide (2 ≤ se t - si t)) t) (Nat.le_refl _)
    have hla := m_lastOf hC ht h9
    generalize hl : chn nt A (fun t => decide (2 ≤ se t - si t)) t (dst nt A (fun t => decide (2 ≤ se t - si t)) t) = l at q1 q2 hla ⊢
    have hdv : (fp_set M1 123 24 (f 24 + nI 1)) 130 t = nI (dst nt A (fun t => decide (2 ≤ se t - si t)) t) := by rw [set_off (by decide), hv t (by omega), dv_lt _ h9]
    refine ⟨fp_set (fp_set (fp_set M1 123 24 (f 24 + nI 1)) 123 (9 + l) (f (9 + l) + nI 1)) 123 21 (f 21 + nI (dst nt A (fun t => decide (2 ≤ se t - si t)) t)), ?_, ?_, ?_⟩
    · rw [m_X12_guest, hm1, fp_b1t, fp_inN (show 24 < 25 by decide) (by decide), fp_gdt, fp_gdt, fp_ltt, q_cl (show 24 < 2 ^ 31 by decide), hS1 24 (by decide), fp_inN (show t < 9 by omega) (by decide), fp_gdt, q_cl (show t < 2 ^ 31 by omega), hdv, if_neg (by rw [q_le (by decide) (by omega)]; omega), fp_gdt, fp_ltt, hla, fp_b1t, nI_add, fp_inN (show 9 + l < 25 by omega) (by decide), fp_gdt, fp_gdt, fp_ltt, fp_inN (show 21 < 25 by decide) (by decide), fp_gdt, fp_gdt, fp_ltt, q_cl (show 9 + l < 2 ^ 31 by omega), q_cl (show 21 < 2 ^ 31 by decide)]
      have e1 : ¬ 9 + l = 24 := by omega
      have e2 : ¬ 21 = 9 + l := by omega
      have e3 : ¬ (21 : Nat) = 24 := by decide
      simp only [set_q, e1, e2, e3, and_false, if_false, hS1 (9 + l) (by omega), hS1 21 (by decide)]
    · intro j hj
      have e := hS1 j hj
      have e2 := hS1 21 (by decide)
      simp only [set_q, true_and]
      by_cases c1 : j = 21
      · subst c1
        rw [if_pos rfl, if_neg (by decide), if_neg (by omega), if_pos rfl]
      · rw [if_neg c1]
        by_cases c2 : j = 9 + l
        · rw [if_pos c2, if_neg (by omega), if_pos c2, c2]
        · rw [if_neg c2]
          by_cases c3 : j = 24
          · rw [if_pos c3, if_pos c3]
          · rw [if_neg c3, if_neg c3, if_neg c2, if_neg c1, e]
    · exact fr_tr (fr_mono hf1 (fun q h => Or.inr h)) (fr_tr (fr_set (Or.inl rfl)) (fr_tr (fr_set (Or.inl rfl)) (fr_set (Or.inl rfl))))
  · rw [if_neg h9]
    have hdv : (fp_set M1 123 24 (f 24 + nI 1)) 130 t = nI 1000 := by rw [set_off (by decide), hv t (by omega), dv_ge _ h9]
    have hfr : m_X12_free (fp_set M1 123 24 (f 24 + nI 1)) (nI t) = some (nI (se t - si t)) := m_free (fun u hu => by
      rw [set_ne (by omega), set_ne (by omega)]
      exact RW_MS hS1 hN u hu) (by omega)
    have h24 := (hN t (by omega)).2.2.2
    have hpre : ∀ (y : Int32 × fp_Mem), (if nI (se t - si t) ≤ 0 then fp_gd (fp_in (nI 20) 25) <| fp_gd (fp_in (nI 20) 25) <| fp_lt (fp_set (fp_set M1 123 24 (f 24 + nI 1)) 123 (Int32.toNatClampNeg (nI 20)) ((fp_set M1 123 24 (f 24 + nI 1)) 123 (Int32.toNatClampNeg (nI 20)) + nI 1)) fun M_13 => some ((-3 : Int32), M_13)
        else fp_gd (fp_in ((nI 9) + nI t) 25) <| fp_gd (fp_in ((nI 9) + nI t) 25) <| fp_lt (fp_set (fp_set M1 123 24 (f 24 + nI 1)) 123 (Int32.toNatClampNeg ((nI 9) + nI t)) (((fp_set M1 123 24 (f 24 + nI 1)) 123 (Int32.toNatClampNeg ((nI 9) + nI t))) + (nI 1))) fun M_16 => fp_gd (fp_in (nI 22) 25) <| fp_gd (fp_in (nI 22) 25) <| fp_lt (fp_set M_16 123 (Int32.toNatClampNeg (nI 22)) ((M_16 123 (Int32.toNatClampNeg (nI 22))) + (nI 1))) fun M_19 => fp_gd (fp_in (nI 23) 25) <| if (nI 999999) ≤ ((M_19 123 (Int32.toNatClampNeg (nI 23))) + (M_19 120 0)) then m_X12_guest_136 (nI t) (nI 23) (nI 999999) M_19 else fp_gd (fp_in (nI 23) 25) <| m_X12_guest_136 (nI t) (nI 23) ((M_19 123 (Int32.toNatClampNeg (nI 23))) + (M_19 120 0)) M_19) = some y → m_X12_guest M (nI t) = some y := by
      intro y hy
      rw [m_X12_guest, hm1, fp_b1t, fp_inN (show 24 < 25 by decide) (by decide), fp_gdt, fp_gdt, fp_ltt, q_cl (show 24 < 2 ^ 31 by decide), hS1 24 (by decide), fp_inN (show t < 9 by omega) (by decide), fp_gdt, q_cl (show t < 2 ^ 31 by omega), hdv, if_pos (nI_le (Nat.le_refl _) (by decide)), hfr, fp_b1t]
      exact hy
    by_cases h1 : 1 ≤ se t - si t
    · rw [if_pos h1]
      refine ⟨fp_set (fp_set (fp_set (fp_set M1 123 24 (f 24 + nI 1)) 123 (9 + t) (f (9 + t) + nI 1)) 123 22 (f 22 + nI 1)) 123 23 (if f 23 + M 120 0 < nI 999999 then f 23 + M 120 0 else nI 999999), ?_, ?_, ?_⟩
      · refine hpre _ ?_
        have e1 : ¬ 9 + t = 24 := by omega
        have e2 : ¬ 22 = 9 + t := by omega
        have e3 : ¬ (22 : Nat) = 24 := by decide
        have e4 : ¬ (23 : Nat) = 24 := by decide
        have e5 : ¬ (23 : Nat) = 22 := by decide
        have e6 : ¬ 23 = 9 + t := by omega
        have e7 : ¬ (120 : Nat) = 123 := by decide
        rw [if_neg (nI_nle (by omega) (by omega)), nI_add, fp_inN (show 9 + t < 25 by omega) (by decide), fp_gdt, fp_gdt, fp_ltt, fp_inN (show 22 < 25 by decide) (by decide), fp_gdt, fp_gdt, fp_ltt, fp_inN (show 23 < 25 by decide) (by decide), fp_gdt, q_cl (show 9 + t < 2 ^ 31 by omega), q_cl (show 22 < 2 ^ 31 by decide), q_cl (show 23 < 2 ^ 31 by decide)]
        simp only [set_q, e1, e2, e3, e4, e5, e6, e7, and_false, false_and, if_false, hS1 (9 + t) (by omega), hS1 22 (by decide), hS1 23 (by decide), h120, fp_gdt]
        by_cases c : nI 999999 ≤ f 23 + M 120 0
        · have c2 : ¬ f 23 + M 120 0 < nI 999999 := Int32.not_lt.mpr c
          rw [if_pos c, m_X12_guest_136, fp_inN (show 23 < 25 by decide) (by decide), fp_gdt, fp_ltt, q_cl (show 23 < 2 ^ 31 by decide), if_neg c2]
        · have c2 : f 23 + M 120 0 < nI 999999 := Int32.not_le.mp c
          rw [if_neg c, m_X12_guest_136, fp_inN (show 23 < 25 by decide) (by decide), fp_gdt, fp_ltt, q_cl (show 23 < 2 ^ 31 by decide), if_pos c2]
      · intro j hj
        have e := hS1 j hj
        simp only [set_q, true_and]
        by_cases c1 : j = 23
        · have e6 : ¬ 23 = 9 + t := by omega
          subst c1
          simp [e6]
        · rw [if_neg c1]
          by_cases c2 : j = 22
          · rw [if_pos c2, if_neg (by omega), if_neg (by omega), if_pos c2]
          · rw [if_neg c2]
            by_cases c3 : j = 9 + t
            · rw [if_pos c3, if_neg (by omega), if_pos c3, c3]
            · rw [if_neg c3]
              by_cases c4 : j = 24
              · rw [if_pos c4, if_pos c4]
              · rw [if_neg c4, if_neg c4, if_neg c3, if_neg c2, if_neg c1, e]
      · exact fr_tr (fr_mono hf1 (fun q h => Or.inr h)) (fr_tr (fr_set (Or.inl rfl)) (fr_tr (fr_set (Or.inl rfl)) (fr_tr (fr_set (Or.inl rfl)) (fr_set (Or.inl rfl)))))
    · rw [if_neg h1]
      refine ⟨fp_set (fp_set M1 123 24 (f 24 + nI 1)) 123 20 (f 20 + nI 1), ?_, ?_, ?_⟩
      · refine hpre _ ?_
        rw [show se t - si t = 0 by omega, if_pos (by decide), fp_inN (show 20 < 25 by decide) (by decide), fp_gdt, fp_gdt, fp_ltt, q_cl (show 20 < 2 ^ 31 by decide), set_ne (show (20 : Nat) ≠ 24 by decide), hS1 20 (by decide)]
      · intro j hj
        have e := hS1 j hj
        simp only [set_q, true_and]
        by_cases c1 : j = 20
        · rw [if_pos c1, if_neg (by omega), if_pos c1]
        · rw [if_neg c1]
          by_cases c4 : j = 24
          · rw [if_pos c4, if_pos c4]
          · rw [if_neg c4, if_neg c4, if_neg c1, e]
      · exact fr_tr (fr_mono hf1 (fun q h => Or.inr h)) (fr_tr (fr_set (Or.inl rfl)) (fr_set (Or.inl rfl)))
/-- a guest leaves a row that may be -/
def si1 (si : Nat → Nat) (l : Nat) : Nat → Nat := fun t => if t = l then si t + 1 else si t
theorem gR_N {nt t : Nat} {A : Nat → Nat → Bool} {se si : Nat → Nat} {fine : Int32} {f : Nat → Int32} (hn : nt ≤ 9) (ht : t < nt) (hN : NR f se si) : ∃ si', NR (gR nt A se si fine f t).2 se si' ∧ (∀ u, nt ≤ u → si' u = si u) ∧ (gR nt A se si fine f t).2 18 = f 18 ∧ (gR nt A se si fine f t).2 19 = f 19 := by
  have key : ∀ (l : Nat) (g : Nat → Int32), l < nt → 1 ≤ se l - si l → (∀ u, u < 9 → g u = f u) → (∀ u, u < 9 → g (9 + u) = if u = l then f (9 + u) + nI 1 else f (9 + u)) → NR g se (si1 si l) := by
    intro l g hl h1 g1 g2 u hu
    obtain ⟨a, b, c, d⟩ := hN u hu
    rw [g1 u hu, g2 u hu, si1]
    by_cases e : u = l
    · subst e
      rw [if_pos rfl, if_pos rfl, b, nI_add]
      exact ⟨a, rfl, by omega, d⟩
    · rw [if_neg e, if_neg e]
      exact ⟨a, b, c, d⟩
  unfold gR
  by_cases h9 : dst nt A (fun t => decide (2 ≤ se t - si t)) t < 9
  · rw [if_pos h9]
    obtain ⟨q1, q2⟩ := chn_dst (A := A) (O := fun t => decide (2 ≤ se t - si t)) hn h9 (i := dst nt A (fun t => decide (2 ≤ se t - si t)) t) (Nat.le_refl _)
    generalize chn nt A (fun t => decide (2 ≤ se t - si t)) t (dst nt A (fun t => decide (2 ≤ se t - si t)) t) = l at q1 q2 ⊢
    have ho : 2 ≤ se l - si l := by
      have := (dst_0 (A := A) (O := fun t => decide (2 ≤ se t - si t)) q1).mp (by omega)
      exact of_decide_eq_true this
    refine ⟨si1 si l, key l _ q1 (by omega) (fun u hu => ?_) (fun u hu => ?_), fun u hu => ?_, ?_, ?_⟩
    · show (if u = 24 then _ else _) = _
      rw [if_neg (by omega), if_neg (by omega), if_neg (by omega)]
    · show (if 9 + u = 24 then _ else _) = _
      rw [if_neg (by omega)]
      by_cases e : u = l
      · rw [if_pos (by omega), if_pos e]
      · rw [if_neg (by omega), if_neg (by omega), if_neg e]
    · unfold si1
      rw [if_neg (by omega)]
    · have e : ¬ 18 = 9 + l := by omega
      simp [e]
    · have e : ¬ 19 = 9 + l := by omega
      simp [e]
  · rw [if_neg h9]
    by_cases h1 : 1 ≤ se t - si t
    · rw [if_pos h1]
      refine ⟨si1 si t, key t _ ht h1 (fun u hu => ?_) (fun u hu => ?_), fun u hu => ?_, ?_, ?_⟩
      · show (if u = 24 then _ else _) = _
        rw [if_neg (by omega), if_neg (by omega), if_neg (by omega), if_neg (by omega)]
      · show (if 9 + u = 24 then _ else _) = _
        rw [if_neg (by omega)]
        by_cases e : u = t
        · rw [if_pos (by omega), if_pos e]
        · rw [if_neg (by omega), if_neg (by omega), if_neg (by omega), if_neg e]
      · unfold si1
        rw [if_neg (by omega)]
      · have e : ¬ 18 = 9 + t := by omega
        simp [e]
      · have e : ¬ 19 = 9 + t := by omega
        simp [e]
    · rw [if_neg h1]
      refine ⟨si, fun u hu => ?_, fun u hu => rfl, ?_, ?_⟩
      · show (if u = 24 then _ else _) = _ ∧ (if 9 + u = 24 then _ else _) = _ ∧ _
        rw [if_neg (by omega), if_neg (by omega), if_neg (by omega), if_neg (by omega)]
        exact hN u hu
      · simp
      · simp
theorem gR_SV {nt t : Nat} {A : Nat → Nat → Bool} {se si : Nat → Nat} {fine : Int32} {f : Nat → Int32} {w : Nat} (hn : nt ≤ 9) (ht : t < nt) (hN : NR f se si) (h2 : ∀ t, t < 9 → se t ≤ 20 ∧ (nt ≤ t → se t = 0 ∧ si t = 0)) (h3 : f 18 = nI w) (h4 : w ≤ 99) : SV nt (gR nt A se si fine f t).2 := by
  obtain ⟨si', a, b, c, -⟩ := gR_N (A := A) (fine := fine) hn ht hN
  exact ⟨se, si', w, a, fun u hu => ⟨(h2 u hu).1, fun h => ⟨((h2 u hu).2 h).1, by rw [b u h]; exact ((h2 u hu).2 h).2⟩⟩, c.trans h3, h4⟩

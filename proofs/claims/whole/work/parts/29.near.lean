/-! tables that hang together: eight steps are enough among nine -/
theorem cnt9_lt {P Q : Nat → Bool} (h : ∀ i, P i = true → Q i = true) {u : Nat} (hu : u < 9) (hp : P u = false) (hq : Q u = true) : cnt9 P < cnt9 Q := by
  have k : ∀ i, (if P i = true then 1 else 0 : Nat) ≤ (if Q i = true then 1 else 0) := by
    intro i
    by_cases h1 : P i = true
    · rw [if_pos h1, if_pos (h i h1)]
      exact Nat.le_refl _
    · rw [if_neg h1]
      exact Nat.zero_le _
  have k' : (if P u = true then 1 else 0 : Nat) < (if Q u = true then 1 else 0) := by
    rw [if_neg (by rw [hp]; decide), if_pos hq]
    decide
  have k0 := k 0
  have k1 := k 1
  have k2 := k 2
  have k3 := k 3
  have k4 := k 4
  have k5 := k 5
  have k6 := k 6
  have k7 := k 7
  have k8 := k 8
  clear k h hp hq
  unfold cnt9
  rcases (by omega : u = 0 ∨ u = 1 ∨ u = 2 ∨ u = 3 ∨ u = 4 ∨ u = 5 ∨ u = 6 ∨ u = 7 ∨ u = 8) with rfl | rfl | rfl | rfl | rfl | rfl | rfl | rfl | rfl <;> omega
theorem cnt9_le (P : Nat → Bool) : cnt9 P ≤ 9 := by
  have k : ∀ i, (if P i = true then 1 else 0 : Nat) ≤ 1 := by
    intro i
    by_cases h1 : P i = true
    · rw [if_pos h1]; exact Nat.le_refl _
    · rw [if_neg h1]; exact Nat.zero_le _
  have k0 := k 0
  have k1 := k 1
  have k2 := k 2
  have k3 := k 3
  have k4 := k 4
  have k5 := k 5
  have k6 := k 6
  have k7 := k 7
  have k8 := k 8
  unfold cnt9
  omega
section NEAR
variable {nt : Nat} {A : Nat → Nat → Bool} {O : Nat → Bool}
theorem reach_st {d : Nat} (h : ∀ u, reach nt A O (d + 1) u = reach nt A O d u) : ∀ c u, reach nt A O (d + c + 1) u = reach nt A O (d + c) u
  | 0, u => h u
  | c + 1, u => by
    have ih := reach_st h c
    have e1 : reach nt A O (d + (c + 1) + 1) u = (reach nt A O (d + c + 1) u || (decide (u < nt) && anyT (fun v => A u v && reach nt A O (d + c + 1) v) nt)) := rfl
    have e2 : reach nt A O (d + (c + 1)) u = (reach nt A O (d + c) u || (decide (u < nt) && anyT (fun v => A u v && reach nt A O (d + c) v) nt)) := rfl
    rw [e1, anyT_congr (fun v hv => by rw [ih v]), ih u]
    exact e2.symm
theorem reach_cnt (hn : nt ≤ 9) (h0 : ∃ u, reach nt A O 0 u = true) : ∀ d, (∃ e, e ≤ d ∧ ∀ u, reach nt A O (e + 1) u = reach nt A O e u) ∨ d + 2 ≤ cnt9 (reach nt A O (d + 1)) := by
  have up : ∀ d, (∀ u, reach nt A O (d + 1) u = reach nt A O d u) ∨ cnt9 (reach nt A O d) < cnt9 (reach nt A O (d + 1)) := by
    intro d
    by_cases hs : ∀ u, reach nt A O (d + 1) u = reach nt A O d u
    · exact Or.inl hs
    · right
      obtain ⟨u, hu⟩ := Classical.not_forall.mp hs
      have hf : reach nt A O d u = false := by
        cases h : reach nt A O d u with
        | false => rfl
        | true => exact absurd ((reach_s h).trans h.symm) hu
      have ht : reach nt A O (d + 1) u = true := by
        cases h : reach nt A O (d + 1) u with
        | true => rfl
        | false => exact absurd (h.trans hf.symm) hu
      exact cnt9_lt (fun i h => reach_s h) (Nat.lt_of_lt_of_le (reach_lt ht) hn) hf ht
  intro d
  induction d with
  | zero =>
    rcases up 0 with h | h
    · exact Or.inl ⟨0, Nat.le_refl _, h⟩
    · right
      obtain ⟨u, hu⟩ := h0
      have := cnt9_lt (P := fun _ => false) (Q := reach nt A O 0) (fun i h => by cases h) (Nat.lt_of_lt_of_le (reach_lt hu) hn) rfl hu
      omega
  | succ d ih =>
    rcases ih with ⟨e, he, h⟩ | ih
    · exact Or.inl ⟨e, by omega, h⟩
    · rcases up (d + 1) with h | h
      · exact Or.inl ⟨d + 1, Nat.le_refl _, h⟩
      · right
        omega
theorem reach_9 (hn : nt ≤ 9) (h0 : ∃ u, reach nt A O 0 u = true) (u : Nat) : reach nt A O 9 u = reach nt A O 8 u := by
  rcases reach_cnt hn h0 8 with ⟨e, he, h⟩ | h
  · have := reach_st h (8 - e) u
    rw [show e + (8 - e) = 8 by omega] at this
    exact this
  · have := cnt9_le (reach nt A O (8 + 1))
    omega
end NEAR
theorem adjN_lt {sh : Int32} {fa fb : Nat → Nat} {nt : Nat} : ∀ {n t u : Nat}, (∀ w, w < n → fa w < nt ∧ fb w < nt) → adjN sh fa fb n t u = true → t < nt ∧ u < nt
  | 0, t, u, _, h => by cases h
  | n + 1, t, u, hw, h => by
    simp [adjN] at h
    rcases h with h | ⟨-, h⟩
    · exact adjN_lt (fun w hw2 => hw w (by omega)) h
    · obtain ⟨h1, h2⟩ := hw n (by omega)
      rcases h with ⟨rfl, rfl⟩ | ⟨rfl, rfl⟩
      · exact ⟨h1, h2⟩
      · exact ⟨h2, h1⟩
/-- the ways' graph: it goes both ways, between tables that are -/
def okA (nt : Nat) (A : Nat → Nat → Bool) : Prop := ∀ t u, A t u = A u t ∧ (A t u = true → t < nt ∧ u < nt)
theorem okA_is {nt nw : Nat} {fa fb : Nat → Nat} {M : fp_Mem} {k : Nat} (hR : CR M k nt nw fa fb) (sh : Int32) : okA nt (adjN sh fa fb nw) := fun t u => ⟨adjN_sym sh fa fb nw t u, adjN_lt (fun w hw => ⟨(hR.2.2.2.2 w hw).2.2.1, (hR.2.2.2.2 w hw).2.2.2.1⟩)⟩
def R0 (nt : Nat) (A : Nat → Nat → Bool) (t : Nat) : Nat → Nat → Bool := reach nt A (fun j => j == t)
theorem R0_0 {nt t : Nat} {A : Nat → Nat → Bool} (ht : t < nt) : ∀ u, R0 nt A t 0 u = (u == t) := fun u => by
  show (decide (u < nt) && (u == t)) = _
  by_cases e : u = t
  · subst e; simp [ht]
  · rw [beq_eq_false_iff_ne.mpr e, Bool.and_false]
theorem R0_s {nt t d : Nat} {A : Nat → Nat → Bool} (hA : okA nt A) (u : Nat) : R0 nt A t (d + 1) u = (R0 nt A t d u || anyT (fun v => R0 nt A t d v && A v u) nt) := by
  show (R0 nt A t d u || (decide (u < nt) && anyT (fun v => A u v && R0 nt A t d v) nt)) = _
  congr 1
  have e : anyT (fun v => A u v && R0 nt A t d v) nt = anyT (fun v => R0 nt A t d v && A v u) nt := anyT_congr (fun v hv => by rw [(hA u v).1, Bool.and_comm])
  rw [e]
  by_cases h : u < nt
  · simp [h]
  · cases h2 : anyT (fun v => R0 nt A t d v && A v u) nt with
    | false => simp
    | true =>
      obtain ⟨v, hv, h3⟩ := anyT_e h2
      rw [Bool.and_eq_true] at h3
      exact absurd ((hA v u).2 h3.2).2 h
theorem c_within {M : fp_Mem} {k nt t m : Nat} {A : Nat → Nat → Bool} (hJ : CJ M k nt A) (hn : nt ≤ 9) (hA : okA nt A) (ht : t < nt) (hm : m ≤ 8) : ∃ x, m_X2_within M k (nI t) (nI m) = some x ∧ isM x (R0 nt A t m) := by
  obtain ⟨n1, x, i1, he⟩ := loopI (fun n i s => m_X2_within_7 M k (nI t) (nI m) n s (nI i)) m (fun i s => isM s (R0 nt A t i)) (by
    intro n i s hi i1
    obtain ⟨y, p, q⟩ := c_around hJ hn i1
    refine ⟨s ||| y, isM_congr (isM_or i1 q) (fun u hu => (R0_s hA u).symm), ?_⟩
    show m_X2_within_7 M k (nI t) (nI m) (n + 1) s (nI i) = _
    rw [m_X2_within_7, if_neg (nI_ge hi (by omega)), p, fp_b1t, fp_ltt, fp_ltt, nI_add]) m 0 fp_fu ((nI 1) <<< (nI t &&& 31)) (by omega) (fu_lt (by omega)) (isM_congr (isM_bit (by omega)) (fun u hu => (R0_0 ht u).symm))
  refine ⟨x, ?_, i1⟩
  rw [m_X2_within, fp_ltt]
  refine he.trans ?_
  show m_X2_within_7 M k (nI t) (nI m) (n1 + 1) x (nI m) = _
  rw [m_X2_within_7, if_pos (nI_le (Nat.le_refl _) (by omega))]
theorem m_together {M : fp_Mem} {nt nw t : Nat} {fa fb : Nat → Nat} (hR : MR M nt nw fa fb) (hA : okA nt (adjN (M 123 19) fa fb nw)) (ht : t < nt) : ∃ x, m_X12_together M (nI t) = some x ∧ isM x (R0 nt (adjN (M 123 19) fa fb nw) t 8) := by
  have hn := hR.1
  have r2 : M 120 1 = nI nt := hR.2.2.1
  have hj := fun (v : Nat) (hv : v < 9) => m_joined hR hv
  generalize adjN (M 123 19) fa fb nw = A at hA hj ⊢
  have h9 : ∀ u, R0 nt A t 9 u = R0 nt A t 8 u := reach_9 hn ⟨t, by have := R0_0 (A := A) ht t; rw [beq_self_eq_true] at this; exact this⟩
  obtain ⟨n1, x, ⟨T, i1, i2, i3⟩, he⟩ := loopI (fun n i s => m_X12_together_6 M (nI t) n s (nI i)) 9 (fun r s => ∃ T : Nat → Bool, isM s T ∧ (∀ u, u < 9 → R0 nt A t r u = true → T u = true) ∧ (∀ u, u < 9 → T u = true → R0 nt A t 8 u = true)) (by
    rintro n r s hr ⟨T, i1, i2, i3⟩
    obtain ⟨n1, s', ⟨T', j1, j2, j3, j4⟩, he⟩ := loopI (fun n2 i s => m_X12_together_15 M (nI t) (m_X12_together_6 M (nI t) n) n2 s (nI r) (nI i)) nt (fun i s => ∃ T : Nat → Bool, isM s T ∧ (∀ u, u < 9 → R0 nt A t r u = true → T u = true) ∧ (∀ u, u < 9 → T u = true → R0 nt A t 8 u = true) ∧ (∀ v, v < i → R0 nt A t r v = true → ∀ u, u < 9 → A v u = true → T u = true)) (by
      rintro n2 i s hi ⟨T, j1, j2, j3, j4⟩
      have hh := m_has_eq (M := M) j1 (t := i) (by omega)
      cases hT : T i with
      | false =>
        rw [hT] at hh
        refine ⟨s, ⟨T, j1, j2, j3, fun v hv hrv => ?_⟩, ?_⟩
        · by_cases e : v = i
          · subst e
            rw [j2 v (by omega) hrv] at hT
            cases hT
          · exact j4 v (by omega) hrv
        · show m_X12_together_15 M (nI t) (m_X12_together_6 M (nI t) n) (n2 + 1) s (nI r) (nI i) = _
          rw [m_X12_together_15, r2, if_neg (nI_ge hi (by omega)), hh, fp_b1t, if_pos (by decide), m_X12_together_44, fp_ltt, fp_ltt, or_0, nI_add]
      | true =>
        rw [hT] at hh
        obtain ⟨y, p, q⟩ := hj i (by omega)
        refine ⟨s ||| y, ⟨fun u => T u || A i u, isM_or j1 q, fun u hu h => by show (T u || A i u) = true; rw [j2 u hu h]; rfl, fun u hu h => ?_, fun v hv hrv u hu h => ?_⟩, ?_⟩
        · have h : (T u || A i u) = true := h
          rw [Bool.or_eq_true] at h
          rcases h with h | h
          · exact j3 u hu h
          · rw [← h9, R0_s hA, Bool.or_eq_true]
            right
            exact anyT_y hi (by rw [j3 i (by omega) hT, h]; rfl)
        · show (T u || A i u) = true
          by_cases e : v = i
          · subst e
            rw [h, Bool.or_true]
          · rw [j4 v (by omega) hrv u hu h, Bool.true_or]
        · show m_X12_together_15 M (nI t) (m_X12_together_6 M (nI t) n) (n2 + 1) s (nI r) (nI i) = _
          rw [m_X12_together_15, r2, if_neg (nI_ge hi (by omega)), hh, fp_b1t, if_neg (by decide), p, fp_b1t, m_X12_together_44, fp_ltt, fp_ltt, nI_add]) nt 0 fp_fu s (by omega) (fu_lt (by omega)) ⟨T, i1, i2, i3, fun v hv => absurd hv (Nat.not_lt_zero v)⟩
    refine ⟨s', ⟨T', j1, fun u hu h => ?_, j3⟩, ?_⟩
    · rw [R0_s hA, Bool.or_eq_true] at h
      rcases h with h | h
      · exact j2 u hu h
      · obtain ⟨v, hv, h3⟩ := anyT_e h
        rw [Bool.and_eq_true] at h3
        exact j4 v hv h3.1 u hu h3.2
    · show m_X12_together_6 M (nI t) (n + 1) s (nI r) = _
      rw [m_X12_together_6, if_neg (nI_ge hr (by decide))]
      refine he.trans ?_
      show m_X12_together_15 M (nI t) (m_X12_together_6 M (nI t) n) (n1 + 1) s' (nI r) (nI nt) = _
      rw [m_X12_together_15, r2, if_pos (nI_le (Nat.le_refl _) (by omega)), fp_ltt, nI_add]) 9 0 fp_fu ((nI 1) <<< (nI t &&& 31)) rfl (fu_lt (by decide)) ⟨fun u => u == t, isM_bit (by omega), fun u hu h => by rw [R0_0 ht] at h; exact h, fun u hu h => reach_mono (d := 0) (Nat.zero_le _) (by
      have h : (u == t) = true := h
      have := R0_0 (A := A) ht u
      rw [h] at this
      exact this)⟩
  refine ⟨x, ?_, isM_congr i1 (fun u hu => ?_)⟩
  · rw [m_X12_together, fp_ltt]
    refine he.trans ?_
    show m_X12_together_6 M (nI t) (n1 + 1) x (nI 9) = _
    rw [m_X12_together_6, if_pos (nI_le (Nat.le_refl _) (by decide))]
  · cases h : T u with
    | true => exact (i3 u hu h).symm
    | false =>
      cases h2 : R0 nt A t 8 u with
      | false => rfl
      | true =>
        rw [← h9] at h2
        rw [i2 u hu h2] at h
        cases h
/-! sums over tables -/
def nsum (f : Nat → Nat) : Nat → Nat
  | 0 => 0
  | n + 1 => nsum f n + f n
theorem nsum_le {f : Nat → Nat} {b : Nat} : ∀ {n : Nat}, (∀ i, i < n → f i ≤ b) → nsum f n ≤ n * b
  | 0, _ => Nat.zero_le _
  | n + 1, h => by
    have := nsum_le (n := n) (fun i hi => h i (by omega))
    have := h n (by omega)
    rw [nsum, Nat.succ_mul]
    omega
theorem nsum_f {P : Nat → Bool} {g : Nat → Nat} {n : Nat} (h : P n = false) : nsum (fun u => if P u = true then g u else 0) (n + 1) = nsum (fun u => if P u = true then g u else 0) n := by
  show _ + (if P n = true then g n else 0) = _
  rw [h, if_neg (by decide)]
  rfl
theorem nsum_t {P : Nat → Bool} {g : Nat → Nat} {n : Nat} (h : P n = true) : nsum (fun u => if P u = true then g u else 0) (n + 1) = nsum (fun u => if P u = true then g u else 0) n + g n := by
  show _ + (if P n = true then g n else 0) = _
  rw [h, if_pos rfl]
/-- both know the tables that hang together with t -/
theorem both_hang {M : fp_Mem} {nt nw t : Nat} {fa fb : Nat → Nat} (h3 : I_realm M nt nw fa fb) (hS : SR M 13 (M 123)) (ht : t < nt) :
    ∃ M1 x P, m_X2_join M 28 8 (M 13 3) = some M1 ∧ m_X2_hangingTogether M1 28 (nI t) = some x ∧ fr (fun q => q = 28 ∨ q = 29) M M1 ∧ m_X12_together M1 (nI t) = some x ∧ isM x P ∧ P t = true := by
  have hn := h3.1.1
  obtain ⟨M1, p1, J1, f1⟩ := c_join (k := 28) (sh := M 13 3) h3.1 (by omega)
  have hA := okA_is h3.1 (M 13 3)
  obtain ⟨x, q1, q2⟩ := c_within J1 hn hA ht (Nat.le_refl 8)
  have h3a := realmS h3 (fr_mono f1 (fun q h => by simp only [scr]; omega))
  have e19 : M1 123 19 = M 13 3 := by rw [f1 123 (by omega), hS.2.2.1]
  obtain ⟨y, q3, q4⟩ := m_together (t := t) h3a.2.1 (by rw [e19]; exact hA) ht
  rw [e19] at q4
  have exy : y = x := isM_ext q4 q2 (fun _ _ => rfl)
  refine ⟨M1, x, _, p1, ?_, f1, by rw [q3, exy], q2, ?_⟩
  · rw [m_X2_hangingTogether, q1, fp_b1t]
  · have h0 := R0_0 (A := adjN (M 13 3) fa fb nw) ht t
    rw [beq_self_eq_true] at h0
    exact reach_mono (d := 0) (Nat.zero_le _) h0
theorem st_more {M : fp_Mem} (hI : fp_Inv M) (a1 : Int32) : ok_more M a1 := by
  have hI0 := hI
  obtain ⟨nt, nw, fa, fb, hP⟩ := hI
  have hP0 := hP
  obtain ⟨h1, h2, h3, h4, h5, h6, h7, h8, h9⟩ := hP
  obtain ⟨hS, se, si, w, hN, hb, hw, hw9⟩ := id h4
  have hn := h3.1.1
  have r1 : M 8 3 = nI nt := h3.1.2.2.1
  have r2 : M 120 1 = nI nt := h3.2.1.2.2.1
  rcases q_tab a1 (n := nt) (by omega) with ⟨t, ht, rfl⟩ | hno
  · obtain ⟨M1, x, P, p1, p2, f1, p3, hx, hPt⟩ := both_hang h3 hS ht
    have r3 : M1 8 3 = nI nt := by rw [f1 8 (by omega)]; exact r1
    have r4 : M1 120 1 = nI nt := by rw [f1 120 (by omega)]; exact r2
    have cf : ∀ u, u < 9 → m_X9_free M1 13 (nI u) = some (nI (se u - si u)) := fun u hu => c_free (SR_CS (SR_fr hS f1 (by omega) (by omega) (by omega)) hN) hu
    have mf : ∀ u, u < 9 → m_X12_free M1 (nI u) = some (nI (se u - si u)) := fun u hu => m_free (fun u hu => by rw [f1 123 (by omega)]; exact hN u hu) hu
    have hd : ∀ u, u < 9 → se u - si u ≤ 24 := fun u hu => Nat.le_trans (Nat.sub_le _ _) (hN u hu).2.2.2
    have fsm : fr scr M M1 := fr_mono f1 (fun q h => by simp only [scr]; omega)
    refine ⟨nI (nsum (fun u => if P u = true then se u - si u - 1 else 0) nt), M1, ?_, ?_, InvS hP0 fsm⟩
    · rw [m_X11_more, c_hasTable_y r1 hn ht, fp_b1t, if_neg (by decide), m_X10_moreGuests, p1, fp_b1t, p2, fp_b1t]
      obtain ⟨n1, s, i1, he⟩ := loopI (fun n i s => m_X10_moreGuests_28 8 13 (nI t) n x s (nI i) M1) nt (fun i s => s = nI (nsum (fun u => if P u = true then se u - si u - 1 else 0) i)) (by
        rintro n i s hi rfl
        refine ⟨_, rfl, ?_⟩
        show m_X10_moreGuests_28 8 13 (nI t) (n + 1) x _ (nI i) M1 = _
        rw [m_X10_moreGuests_28, r3, if_neg (nI_ge hi (by omega))]
        cases hPi : P i with
        | false => rw [if_pos ((isM_tz hx (by omega)).mpr hPi), m_X10_moreGuests_64, fp_ltt, nI_add, nsum_f hPi]
        | true =>
          have hmx : (if nI 0 < nI (se i - si i) - nI 1 then nI (se i - si i) - nI 1 else nI 0) = nI (se i - si i - 1) := by
            by_cases h0 : se i - si i = 0
            · rw [h0, if_neg (by decide)]
            · rw [q_sub (by omega)]
              by_cases h1 : 0 < se i - si i - 1
              · rw [if_pos (nI_lt h1 (by have := hd i (by omega); omega))]
              · rw [show se i - si i - 1 = 0 by omega, if_neg (by decide)]
          rw [if_neg (fun h => by rw [(isM_tz hx (by omega)).mp h] at hPi; cases hPi), cf i (by omega), fp_b1t, fp_ltt, hmx, m_X10_moreGuests_64, fp_ltt, nI_add, nI_add, nsum_t hPi]) nt 0 fp_fu (nI 0) (by omega) (fu_lt (by omega)) rfl
      subst i1
      have hend : m_X10_moreGuests_28 8 13 (nI t) fp_fu x (nI 0) (nI 0) M1 = some (nI (nsum (fun u => if P u = true then se u - si u - 1 else 0) nt), M1) := by
        refine he.trans ?_
        show m_X10_moreGuests_28 8 13 (nI t) (n1 + 1) x _ (nI nt) M1 = _
        rw [m_X10_moreGuests_28, r3, if_pos (nI_le (Nat.le_refl _) (by omega))]
      rw [hend, fp_b2t]
    · rw [m_X12_more, m_isTable_y r4 hn ht, fp_b1t, if_neg (by decide), p3, fp_b1t]
      obtain ⟨n1, s, i1, he⟩ := loopI (fun n i s => m_X12_more_22 M1 (nI t) n x s (nI i)) nt (fun i s => s = nI (nsum (fun u => if P u = true then se u - si u - 1 else 0) i)) (by
        rintro n i s hi rfl
        refine ⟨_, rfl, ?_⟩
        show m_X12_more_22 M1 (nI t) (n + 1) x _ (nI i) = _
        have hh := m_has_eq (M := M1) hx (t := i) (by omega)
        rw [m_X12_more_22, r4, if_neg (nI_ge hi (by omega)), hh, fp_b1t]
        cases hPi : P i with
        | false => rw [if_pos (by decide), m_X12_more_62, m_X12_more_63, fp_ltt, fp_ltt, add_0, nI_add, nsum_f hPi]
        | true =>
          rw [if_neg (by decide), mf i (by omega), fp_b1t]
          by_cases h1 : se i - si i ≤ 1
          · rw [if_pos (nI_le h1 (by decide)), m_X12_more_62, m_X12_more_63, fp_ltt, fp_ltt, add_0, nI_add, nsum_t hPi, show se i - si i - 1 = 0 by omega]
            rfl
          · rw [if_neg (by rw [q_le (by have := hd i (by omega); omega) (by decide)]; exact h1), fp_b1t, m_X12_more_63, fp_ltt, fp_ltt, q_sub (by omega), nI_add, nI_add, nsum_t hPi]) nt 0 fp_fu (nI 0) (by omega) (fu_lt (by omega)) rfl
      subst i1
      refine he.trans ?_
      show m_X12_more_22 M1 (nI t) (n1 + 1) x _ (nI nt) = _
      rw [m_X12_more_22, r4, if_pos (nI_le (Nat.le_refl _) (by omega))]
  · refine ⟨(-1000000001 : Int32), M, ?_, ?_, hI0⟩
    · rw [m_X11_more, c_hasTable_n r1 hno, fp_b1t, if_pos (by decide)]
    · rw [m_X12_more, m_isTable_n r2 hn hno, fp_b1t, if_pos (by decide)]

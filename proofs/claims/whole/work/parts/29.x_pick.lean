/-! chairs, which: the tables that are opened, the least code that does -/
section PICK
variable {nt : Nat} {A : Nat → Nat → Bool} {O P : Nat → Bool}
theorem reach_congr (h : ∀ t, t < nt → O t = P t) : ∀ (d t : Nat), reach nt A O d t = reach nt A P d t
  | 0, t => by
    show (decide (t < nt) && O t) = (decide (t < nt) && P t)
    by_cases e : t < nt
    · rw [h t e]
    · simp [e]
  | d + 1, t => by
    show (reach nt A O d t || (decide (t < nt) && anyT (fun u => A t u && reach nt A O d u) nt)) = (reach nt A P d t || (decide (t < nt) && anyT (fun u => A t u && reach nt A P d u) nt))
    rw [reach_congr h d t]
    congr 2
    exact anyT_congr (fun u _ => by rw [reach_congr h d u])
/-- within e + d steps of O: a table within e steps that is within d steps of O -/
theorem R0_reach (hA : okA nt A) {t : Nat} (ht : t < nt) : ∀ (e d : Nat), (∃ u, u < nt ∧ R0 nt A t e u = true ∧ reach nt A O d u = true) ↔ reach nt A O (d + e) t = true
  | 0, d => by
    constructor
    · rintro ⟨u, hu, h1, h2⟩
      rw [R0_0 ht, beq_iff_eq] at h1
      rw [← h1]
      exact h2
    · intro h
      exact ⟨t, ht, by rw [R0_0 ht, beq_self_eq_true], h⟩
  | e + 1, d => by
    rw [show d + (e + 1) = (d + 1) + e by omega, ← R0_reach hA ht e (d + 1)]
    constructor
    · rintro ⟨u, hu, h1, h2⟩
      rw [R0_s hA, Bool.or_eq_true] at h1
      rcases h1 with h1 | h1
      · exact ⟨u, hu, h1, reach_s h2⟩
      · obtain ⟨v, hv, h3⟩ := anyT_e h1
        rw [Bool.and_eq_true] at h3
        refine ⟨v, hv, h3.1, ?_⟩
        rw [reach, Bool.or_eq_true]
        refine Or.inr ?_
        rw [Bool.and_eq_true]
        exact ⟨decide_eq_true hv, anyT_y hu (by rw [h3.2, h2]; rfl)⟩
    · rintro ⟨v, hv, h1, h2⟩
      rw [reach, Bool.or_eq_true] at h2
      rcases h2 with h2 | h2
      · exact ⟨v, hv, by rw [R0_s hA, h1, Bool.true_or], h2⟩
      · rw [Bool.and_eq_true] at h2
        obtain ⟨u, hu, h3⟩ := anyT_e h2.2
        rw [Bool.and_eq_true] at h3
        refine ⟨u, hu, ?_, h3.2⟩
        rw [R0_s hA, Bool.or_eq_true]
        exact Or.inr (anyT_y hv (by rw [h1, h3.1]; rfl))
end PICK
/-- chairs that a table lacks; what it costs to unshut it -/
def lk (se si : Nat → Nat) (t : Nat) : Nat := 2 - (se t - si t)
def cst (se si : Nat → Nat) (t : Nat) : Nat := if 20 < se t + lk se si t then 5 else lk se si t
def costQ (se si : Nat → Nat) (Q : Nat → Bool) : Nat := nsum (fun t => if Q t = true then cst se si t else 0) 9
def okX (nt : Nat) (A : Nat → Nat → Bool) (X : Nat → Bool) (m : Nat) (O : Nat → Bool) : Prop := ∀ t, t < nt → X t = true → reach nt A O m t = true
def cand (nt : Nat) (A : Nat → Nat → Bool) (X : Nat → Bool) (m : Nat) (se si : Nat → Nat) (Q : Nat → Bool) : Prop := (∀ t, t < 9 → Q t = true → t < nt ∧ se t - si t < 2) ∧ okX nt A X m (fun t => decide (2 ≤ se t - si t) || Q t) ∧ costQ se si Q ≤ 4
def does (nt : Nat) (A : Nat → Nat → Bool) (X : Nat → Bool) (m : Nat) (se si : Nat → Nat) (k c : Nat) : Prop := SL k c 10 ∧ (∀ u, u < 9 → 0 < cntC k c u → u < nt ∧ se u + cntC k c u ≤ 20) ∧ okX nt A X m (fun t => decide (2 ≤ se t + cntC k c t - si t))
def vv (se si : Nat → Nat) (Q : Nat → Bool) : Nat := 512 * costQ se si Q + (511 - kb Q)
section PICK2
variable {nt m : Nat} {A : Nat → Nat → Bool} {X : Nat → Bool} {se si : Nat → Nat}
theorem costQ_congr {P Q : Nat → Bool} (h : ∀ i, i < 9 → P i = Q i) : costQ se si P = costQ se si Q := nsum_ext (fun i hi => by rw [h i hi])
theorem okX_congr {O P : Nat → Bool} (h : ∀ t, t < nt → O t = P t) (hO : okX nt A X m O) : okX nt A X m P := fun t ht hx => by rw [← reach_congr h]; exact hO t ht hx
theorem cand_congr {P Q : Nat → Bool} (hn : nt ≤ 9) (h : ∀ i, i < 9 → P i = Q i) (hP : cand nt A X m se si P) : cand nt A X m se si Q := ⟨fun t ht hq => hP.1 t ht (by rw [h t ht]; exact hq), okX_congr (fun t ht => by rw [h t (by omega)]) hP.2.1, by rw [← costQ_congr h]; exact hP.2.2⟩
theorem vv_congr {P Q : Nat → Bool} (h : ∀ i, i < 9 → P i = Q i) : vv se si P = vv se si Q := by rw [vv, vv, costQ_congr h, kb_congr h]
theorem cst_le {k : Nat} {Q : Nat → Bool} (h : costQ se si Q ≤ k) (hk : k ≤ 4) {t : Nat} (ht : t < 9) (hq : Q t = true) : cst se si t = lk se si t ∧ se t + lk se si t ≤ 20 := by
  have h1 : (if Q t = true then cst se si t else 0) ≤ costQ se si Q := nsum_at (f := fun t => if Q t = true then cst se si t else 0) ht
  rw [if_pos hq] at h1
  unfold cst at h1 ⊢
  by_cases e : 20 < se t + lk se si t
  · rw [if_pos e] at h1
    omega
  · rw [if_neg e]
    exact ⟨rfl, by omega⟩
theorem does_cand (hn : nt ≤ 9) (hs : ∀ t, t < 9 → si t ≤ se t ∧ se t ≤ 20) {k c : Nat} (hk : k ≤ 4) (h : does nt A X m se si k c) :
    ∃ Q, cand nt A X m se si Q ∧ costQ se si Q ≤ k ∧ (costQ se si Q = k → ∀ t, t < 9 → cntC k c t = if Q t = true then lk se si t else 0) := by
  obtain ⟨h1, h2, h3⟩ := h
  generalize hQ : (fun t => decide (t < nt) && (decide (se t - si t < 2) && decide (2 ≤ se t + cntC k c t - si t))) = Q
  have q : ∀ t, Q t = true ↔ t < nt ∧ se t - si t < 2 ∧ 2 ≤ se t + cntC k c t - si t := fun t => by
    rw [← hQ]
    simp
  have le : ∀ t, t < 9 → (if Q t = true then cst se si t else 0) ≤ cntC k c t := by
    intro t ht
    by_cases e : Q t = true
    · rw [if_pos e]
      obtain ⟨e1, e2, e3⟩ := (q t).mp e
      obtain ⟨s1, s2⟩ := hs t ht
      have h4 := (h2 t ht (by omega)).2
      unfold cst lk
      rw [if_neg (by omega)]
      omega
    · rw [if_neg e]
      exact Nat.zero_le _
  have sum := cnt_sum k c
  have hc : costQ se si Q ≤ k := by
    have := nsum_mn le
    rw [sum] at this
    exact this
  refine ⟨Q, ⟨fun t ht e => ⟨((q t).mp e).1, ((q t).mp e).2.1⟩, okX_congr (fun t ht => ?_) h3, by omega⟩, hc, fun e t ht => ?_⟩
  · obtain ⟨s1, s2⟩ := hs t (by omega)
    by_cases e : 2 ≤ se t - si t
    · rw [decide_eq_true e, decide_eq_true (show 2 ≤ se t + cntC k c t - si t by omega)]
      rfl
    · rw [decide_eq_false e, Bool.false_or]
      by_cases e2 : 2 ≤ se t + cntC k c t - si t
      · rw [decide_eq_true e2, (q t).mpr ⟨ht, by omega, e2⟩]
      · rw [decide_eq_false e2]
        cases e3 : Q t with
        | false => rfl
        | true => exact absurd ((q t).mp e3).2.2 e2
  · have h5 := nsum_eq (f := fun t => if Q t = true then cst se si t else 0) le (by rw [sum]; exact e) t ht
    rw [← h5]
    show (if Q t = true then cst se si t else 0) = _
    by_cases e2 : Q t = true
    · rw [if_pos e2, if_pos e2]
      exact (cst_le hc hk ht e2).1
    · rw [if_neg e2, if_neg e2]
theorem cand_does (hn : nt ≤ 9) (hs : ∀ t, t < 9 → si t ≤ se t ∧ se t ≤ 20) {Q : Nat → Bool} (h : cand nt A X m se si Q) :
    ∃ c, does nt A X m se si (costQ se si Q) c ∧ ∀ t, t < 9 → cntC (costQ se si Q) c t = if Q t = true then lk se si t else 0 := by
  obtain ⟨h1, h2, h3⟩ := h
  have hb : nsum (fun t => if Q t = true then lk se si t else 0) 9 = costQ se si Q := nsum_ext (fun i hi => by
    by_cases e : Q i = true
    · rw [if_pos e, if_pos e]
      exact (cst_le h3 (Nat.le_refl 4) hi e).1.symm
    · rw [if_neg e, if_neg e])
  obtain ⟨c, g1, g2⟩ := codeE (fun t => if Q t = true then lk se si t else 0) 9 (Nat.le_refl _)
  rw [hb] at g1 g2
  have g3 : ∀ t, t < 9 → cntC (costQ se si Q) c t = if Q t = true then lk se si t else 0 := fun t ht => by rw [g2, if_pos ht]
  refine ⟨c, ⟨SL_mono g1 (by decide), fun u hu hpos => ?_, okX_congr (fun t ht => ?_) h2⟩, g3⟩
  · rw [g3 u hu] at hpos ⊢
    by_cases e : Q u = true
    · rw [if_pos e]
      exact ⟨(h1 u hu e).1, (cst_le h3 (Nat.le_refl 4) hu e).2⟩
    · rw [if_neg e] at hpos
      omega
  · obtain ⟨s1, s2⟩ := hs t (by omega)
    rw [g3 t (by omega)]
    by_cases e : Q t = true
    · rw [if_pos e, e, Bool.or_true]
      exact (decide_eq_true (by unfold lk; omega)).symm
    · have e' : Q t = false := by
        cases hq : Q t with
        | false => rfl
        | true => exact absurd hq e
      rw [if_neg e, e', Bool.or_false]
      rfl
theorem lk_pos {t : Nat} (h : se t - si t < 2) : 0 < lk se si t := by
  unfold lk
  omega
/-- what the model finds first is what the program finds best -/
theorem agree (hn : nt ≤ 9) (hs : ∀ t, t < 9 → si t ≤ se t ∧ se t ≤ 20) {B : Nat → Bool} (hB : cand nt A X m se si B) (hmin : ∀ Q, cand nt A X m se si Q → vv se si B ≤ vv se si Q) {k c : Nat} (hk : k ≤ 4) (hd : does nt A X m se si k c) (hf : ∀ k' c', k' ≤ 4 → does nt A X m se si k' c' → k < k' ∨ (k = k' ∧ c ≤ c')) :
    k = costQ se si B ∧ ∀ t, t < 9 → cntC k c t = if B t = true then lk se si t else 0 := by
  obtain ⟨Q, q1, q2, q3⟩ := does_cand hn hs hk hd
  obtain ⟨cB, b1, b2⟩ := cand_does hn hs hB
  have hm := hmin Q q1
  have kB := kb_le B
  have kQ := kb_le Q
  have hkB := hf _ cB hB.2.2 b1
  unfold vv at hm
  have hc : k = costQ se si B := by omega
  have hQ : costQ se si Q = k := by omega
  have same : ∀ i, i < 9 → B i = Q i := by
    refine Classical.byContradiction fun hne => ?_
    obtain ⟨t, t1, t2, t3⟩ := dif_first hne
    cases hbt : B t with
    | false =>
      rw [hbt] at t3
      have hqt : Q t = true := by
        cases hq : Q t with
        | true => rfl
        | false => rw [hq] at t3; cases t3
      have := kb_lt t1 (fun u hu => (t2 u hu).symm) hqt hbt
      omega
    | true =>
      rw [hbt] at t3
      have hqt : Q t = false := by
        cases hq : Q t with
        | false => rfl
        | true => rw [hq] at t3; cases t3
      have e1 := q3 hQ
      have lt : cB < c := by
        rw [← hc] at b1 b2
        refine code_lt b1.1 hd.1 t1 (fun u hu => ?_) ?_
        · rw [b2 u (by omega), e1 u (by omega), t2 u hu]
        · rw [b2 t t1, e1 t t1, if_pos hbt, hqt, if_neg (by decide)]
          exact lk_pos (hB.1 t t1 hbt).2
      omega
  refine ⟨hc, fun t ht => ?_⟩
  rw [q3 hQ t ht, same t ht]
end PICK2

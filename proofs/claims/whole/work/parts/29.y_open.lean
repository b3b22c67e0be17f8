/-! chairs: the program's search -/
section OPN
variable {M : fp_Mem} {nt m : Nat} {A : Nat → Nat → Bool} {X : Nat → Bool} {se si : Nat → Nat}
theorem c_chairsFor {k : Nat} (h : CS M k se si) {x : Int32} {Q : Nat → Bool} (hx : isM x Q) : m_X9_chairsFor M k x = some (nI (costQ se si Q)) := by
  obtain ⟨n1, s, i1, he⟩ := loopI (fun n i s => m_X9_chairsFor_4 M k x n s (nI i)) 9 (fun i s => s = nI (nsum (fun t => if Q t = true then cst se si t else 0) i)) (by
    rintro n i s hi rfl
    refine ⟨_, rfl, ?_⟩
    show m_X9_chairsFor_4 M k x (n + 1) _ (nI i) = m_X9_chairsFor_4 M k x n (nI (nsum _ i + (if Q i = true then cst se si i else 0))) (nI (i + 1))
    obtain ⟨h1, h2, h3, h4⟩ := h i hi
    have el : (if nI 0 < nI 2 - nI (se i - si i) then nI 2 - nI (se i - si i) else nI 0) = nI (lk se si i) := by
      unfold lk
      by_cases e : se i - si i ≤ 2
      · rw [q_sub e]
        by_cases e2 : 0 < 2 - (se i - si i)
        · rw [if_pos (nI_lt e2 (by omega))]
        · rw [if_neg (nI_nlt (by omega) (by decide))]
          congr 1
          omega
      · have hneg := pk_sneg (a := 2) (b := se i - si i) (by omega) (by omega)
        have hz0 : ¬ nI 0 < nI 2 - nI (se i - si i) := fun z => by
          have := Int32.lt_trans hneg z
          rw [Int32.lt_iff_toInt_lt] at this
          omega
        rw [if_neg hz0]
        congr 1
        omega
    rw [m_X9_chairsFor_4, if_neg (nI_ge hi (by decide)), c_free h hi, fp_b1t, fp_ltt, el]
    cases hq : Q i with
    | false => rw [if_pos ((isM_tz hx hi).mpr hq), m_X9_chairsFor_54, fp_ltt, nI_add, if_neg (by decide)]; rfl
    | true =>
      have hl : lk se si i ≤ 2 := Nat.sub_le _ _
      rw [if_neg (fun z => by rw [(isM_tz hx hi).mp z] at hq; cases hq), fp_inN hi (by decide), fp_gdt, q_cl (by omega), h1, nI_add, if_pos rfl]
      unfold cst
      by_cases e : 20 < se i + lk se si i
      · rw [if_neg (nI_ge e (by omega)), if_pos e, m_X9_chairsFor_52, fp_ltt, nI_add, m_X9_chairsFor_54, fp_ltt, nI_add]
      · rw [if_pos (nI_le (by omega) (by decide)), if_neg e, m_X9_chairsFor_52, fp_ltt, nI_add, m_X9_chairsFor_54, fp_ltt, nI_add]) 9 0 fp_fu (nI 0) rfl (fu_lt (by decide)) rfl
  rw [m_X9_chairsFor]
  refine he.trans ?_
  show m_X9_chairsFor_4 M k x (n1 + 1) s (nI 9) = _
  rw [m_X9_chairsFor_4, if_pos (nI_le (Nat.le_refl _) (by decide)), i1, costQ]
theorem c_reaches (hn : nt ≤ 9) (hA : okA nt A) (r1 : M 8 3 = nI nt) (hN : ∀ t, t < nt → isM (M 42 t) (R0 nt A t m)) {x y : Int32} {O : Nat → Bool} (hx : isM x X) (hy : isM y O) : ∃ b : Bool, m_X10_reachesAll M 8 x y = some (nI (if b = true then 1 else 0)) ∧ (b = true ↔ okX nt A X m O) := by
  have hr : ∀ t, t < nt → ((M 42 t) &&& y = 0 ↔ reach nt A O m t = false) := by
    intro t ht
    rw [isM_z (isM_and (hN t ht) hy)]
    have := R0_reach (O := O) hA ht m 0
    rw [Nat.zero_add] at this
    constructor
    · intro h
      cases hc : reach nt A O m t with
      | false => rfl
      | true =>
        obtain ⟨u, hu, h1, h2⟩ := this.mpr hc
        have h3 : O u = true := by
          have h2 : (decide (u < nt) && O u) = true := h2
          rw [Bool.and_eq_true] at h2
          exact h2.2
        have := h u (by omega)
        rw [h1, h3] at this
        cases this
    · intro h i hi
      cases hc : (R0 nt A t m i && O i) with
      | false => rfl
      | true =>
        rw [Bool.and_eq_true] at hc
        have hin : i < nt := reach_lt hc.1
        have := this.mp ⟨i, hin, hc.1, by show (decide (i < nt) && O i) = true; rw [hc.2]; simp [hin]⟩
        rw [this] at h
        cases h
  obtain ⟨r, ⟨b, e1, e2⟩, he⟩ := loopE (ρ := Int32) (fun n i (_ : Unit) => m_X10_reachesAll_3 M 8 x y n (nI i)) nt (fun i _ => ∀ t, t < i → X t = true → reach nt A O m t = true) (fun r => ∃ b : Bool, r = nI (if b = true then 1 else 0) ∧ (b = true ↔ okX nt A X m O)) (by
    intro n i s hi hI
    have est : m_X10_reachesAll_3 M 8 x y (n + 1) (nI i) = (if ((x >>> (nI i &&& 31)) &&& (nI 1)) = 0 then m_X10_reachesAll_35 M 8 x y (m_X10_reachesAll_3 M 8 x y n) (nI i) else if ((M 42 i) &&& y) = 0 then some (nI 0) else m_X10_reachesAll_35 M 8 x y (m_X10_reachesAll_3 M 8 x y n) (nI i)) := by
      rw [m_X10_reachesAll_3, r1, if_neg (nI_ge hi (by omega)), fp_inN (show i < 9 by omega) (by decide), fp_gdt, q_cl (by omega)]
    have e35 : m_X10_reachesAll_35 M 8 x y (m_X10_reachesAll_3 M 8 x y n) (nI i) = m_X10_reachesAll_3 M 8 x y n (nI (i + 1)) := by
      rw [m_X10_reachesAll_35, fp_ltt, nI_add]
    rw [e35] at est
    cases hX : X i with
    | false =>
      refine Or.inl ⟨(), fun t ht hx => ?_, ?_⟩
      · by_cases e : t = i
        · rw [e, hX] at hx; cases hx
        · exact hI t (by omega) hx
      · show m_X10_reachesAll_3 M 8 x y (n + 1) (nI i) = _
        rw [est, if_pos ((isM_tz hx (by omega)).mpr hX)]
    | true =>
      have hne : ¬ ((x >>> (nI i &&& 31)) &&& (nI 1)) = 0 := fun z => by rw [(isM_tz hx (by omega)).mp z] at hX; cases hX
      rw [if_neg hne] at est
      cases hc : reach nt A O m i with
      | false =>
        refine Or.inr ⟨nI 0, ⟨false, rfl, ⟨(fun z => nomatch z), fun z => ?_⟩⟩, ?_⟩
        · rw [z i hi hX] at hc; cases hc
        · show m_X10_reachesAll_3 M 8 x y (n + 1) (nI i) = _
          rw [est, if_pos ((hr i hi).mpr hc)]
      | true =>
        refine Or.inl ⟨(), fun t ht hx => ?_, ?_⟩
        · by_cases e : t = i
          · rw [e, hc]
          · exact hI t (by omega) hx
        · show m_X10_reachesAll_3 M 8 x y (n + 1) (nI i) = _
          rw [est, if_neg (fun z => by rw [(hr i hi).mp z] at hc; cases hc)]) (by
    intro n s hI
    refine ⟨nI 1, ⟨true, rfl, ⟨fun _ t ht hx => hI t ht hx, fun _ => rfl⟩⟩, ?_⟩
    show m_X10_reachesAll_3 M 8 x y (n + 1) (nI nt) = _
    rw [m_X10_reachesAll_3, r1, if_pos (nI_le (Nat.le_refl _) (by omega))]) nt 0 fp_fu () (by omega) (fu_lt (by omega)) (fun t ht => absurd ht (Nat.not_lt_zero t))
  refine ⟨b, ?_, e2⟩
  rw [m_X10_reachesAll, ← e1]
  exact he
theorem ahead25 (p q : Int32) (b : Bool) : m_X10_isAhead_25 M p q (nI (if b = true then 1 else 0)) = some (nI (if b = true then 1 else 0)) := by
  rw [m_X10_isAhead_25]
  cases b <;> rfl
theorem c_ahead_m (x : Int32) : m_X10_isAhead M x (-1 : Int32) = some (nI 0) := by
  rw [m_X10_isAhead, fp_ltt, fp_ltt, if_pos rfl, m_X10_isAhead_24]
  exact ahead25 _ _ false
theorem c_ahead {x y : Int32} {P Q : Nat → Bool} (hx : isM x P) (hy : isM y Q) (hne : ¬ ∀ i, i < 9 → P i = Q i) : m_X10_isAhead M x y = some (nI (if kb Q < kb P then 1 else 0)) := by
  have hy1 : ¬ y = (-1 : Int32) := by
    obtain ⟨n, hn, rfl, -⟩ := hy
    exact fun e => by have := nI_pos (n := n) (by omega); rw [e] at this; exact this (by decide)
  obtain ⟨n, hn, e, p⟩ := isM_xor hx hy
  have hn0 : n ≠ 0 := by
    rintro rfl
    apply hne
    intro i hi
    have := p i hi
    rw [Nat.zero_testBit] at this
    cases h1 : P i <;> cases h2 : Q i <;> simp [h1, h2] at this ⊢
  have hd : lst n.testBit < 9 := by
    by_cases h : lst n.testBit < 9
    · exact h
    · exfalso
      apply hne
      intro i hi
      have := lst_no (P := n.testBit) (j := i) (by omega)
      rw [p i hi] at this
      cases h1 : P i <;> cases h2 : Q i <;> simp [h1, h2] at this ⊢
  have hbit := isM_bit hd
  rw [q_shl1 _ (by omega)] at hbit
  have hz := isM_z (isM_and hx hbit)
  have hyes := lst_yes hd
  have hyes : (P (lst n.testBit) ^^ Q (lst n.testBit)) = true := (p _ hd).symm.trans hyes
  have hlow : ∀ u, u < lst n.testBit → P u = Q u := by
    intro u hu
    have := lst_no hu
    rw [p u (by omega)] at this
    cases h1 : P u <;> cases h2 : Q u <;> simp [h1, h2] at this ⊢
  rw [m_X10_isAhead, fp_ltt, fp_ltt, if_neg hy1, e, q_low n hn hn0]
  cases hP : P (lst n.testBit) with
  | true =>
    have hQ : Q (lst n.testBit) = false := by
      cases h2 : Q (lst n.testBit) with
      | false => rfl
      | true => rw [hP, h2] at hyes; cases hyes
    have k := kb_lt hd hlow hP hQ
    rw [if_neg (fun z => by
      have := hz.mp z _ hd
      rw [hP, beq_self_eq_true] at this
      cases this), if_pos k]
    exact ahead25 _ _ true
  | false =>
    have hQ : Q (lst n.testBit) = true := by
      cases h2 : Q (lst n.testBit) with
      | true => rfl
      | false => rw [hP, h2] at hyes; cases hyes
    have k := kb_lt hd (fun u hu => (hlow u hu).symm) hQ hP
    rw [if_pos (hz.mpr (fun i hi => by
      by_cases ei : i = lst n.testBit
      · rw [ei, hP]; rfl
      · rw [show (i == lst n.testBit) = false from beq_eq_false_iff_ne.mpr ei, Bool.and_false])), if_neg (by omega), m_X10_isAhead_24]
    exact ahead25 _ _ false
theorem cnt9_sum (Q : Nat → Bool) : cnt9 Q = nsum (fun t => if Q t = true then 1 else 0) 9 := by
  unfold cnt9
  simp [nsum]
theorem cst_pos {t : Nat} (h : se t - si t < 2) : 0 < cst se si t := by
  unfold cst
  by_cases e : 20 < se t + lk se si t
  · rw [if_pos e]
    decide
  · rw [if_neg e]
    exact lk_pos h
theorem cost_cnt {Q : Nat → Bool} (h : ∀ t, t < 9 → Q t = true → se t - si t < 2) : cnt9 Q ≤ costQ se si Q := by
  rw [cnt9_sum]
  refine nsum_mn (fun t ht => ?_)
  by_cases e : Q t = true
  · rw [if_pos e, if_pos e]
    exact cst_pos (h t ht e)
  · rw [if_neg e, if_neg e]
    exact Nat.le_refl _
theorem cost_0 {Q : Nat → Bool} (h : ∀ t, t < 9 → Q t = true → se t - si t < 2) (h0 : costQ se si Q = 0) : ∀ t, t < 9 → Q t = false := by
  intro t ht
  cases hq : Q t with
  | false => rfl
  | true =>
    have h1 : (if Q t = true then cst se si t else 0) ≤ costQ se si Q := nsum_at (f := fun t => if Q t = true then cst se si t else 0) ht
    rw [if_pos hq] at h1
    have := cst_pos (h t ht hq)
    omega
/-- the best, once those below i are looked at -/
def bst (nt : Nat) (A : Nat → Nat → Bool) (X : Nat → Bool) (m : Nat) (se si : Nat → Nat) (i : Nat) (v7 v8 : Int32) : Prop :=
  (v7 = (-1 : Int32) ∧ v8 = nI 5 ∧ ∀ j, j < i → ¬ cand nt A X m se si j.testBit) ∨ (∃ B, B < i ∧ cand nt A X m se si B.testBit ∧ v7 = nI B ∧ v8 = nI (costQ se si B.testBit) ∧ ∀ j, j < i → cand nt A X m se si j.testBit → vv se si B.testBit ≤ vv se si j.testBit)
theorem bst_skip {i : Nat} {v7 v8 : Int32} (h : bst nt A X m se si i v7 v8) (hc : ¬ cand nt A X m se si i.testBit) : bst nt A X m se si (i + 1) v7 v8 := by
  rcases h with ⟨a, b, d⟩ | ⟨B, b1, b2, b3, b4, b5⟩
  · refine Or.inl ⟨a, b, fun j hj => ?_⟩
    by_cases e : j = i
    · rw [e]; exact hc
    · exact d j (by omega)
  · refine Or.inr ⟨B, by omega, b2, b3, b4, fun j hj hcj => ?_⟩
    by_cases e : j = i
    · rw [e] at hcj; exact absurd hcj hc
    · exact b5 j (by omega) hcj
theorem bit_ext {a b : Nat} (ha : a < 512) (hb : b < 512) (h : ∀ i, i < 9 → a.testBit i = b.testBit i) : a = b := by
  apply Nat.eq_of_testBit_eq
  intro i
  by_cases hi : i < 9
  · exact h i hi
  · have h9 : 2 ^ 9 ≤ 2 ^ i := Nat.pow_le_pow_right (by decide) (by omega)
    rw [Nat.testBit_lt_two_pow (Nat.lt_of_lt_of_le ha h9), Nat.testBit_lt_two_pow (Nat.lt_of_lt_of_le hb h9)]
theorem c_pick (hn : nt ≤ 9) (hA : okA nt A) (r1 : M 8 3 = nI nt) (hN : ∀ t, t < nt → isM (M 42 t) (R0 nt A t m)) (hS : CS M 13 se si) {x y : Int32} (hx : isM x X) {nc : Nat} (hnc : nc < 512) (hc : ∀ t, t < 9 → nc.testBit t = (decide (t < nt) && decide (se t - si t < 2))) (hy : isM y (fun t => decide (t < nt) && decide (2 ≤ se t - si t))) (pm : Int32) :
    ∃ r, m_X10_opened_79 8 13 x pm fp_fu (nI nc) y (-1 : Int32) (nI 5) (nI 0) M = some (r, M) ∧ ((r = (-1 : Int32) ∧ ∀ j, j < 512 → ¬ cand nt A X m se si j.testBit) ∨ ∃ B, B < 512 ∧ r = nI B ∧ cand nt A X m se si B.testBit ∧ ∀ j, j < 512 → cand nt A X m se si j.testBit → vv se si B.testBit ≤ vv se si j.testBit) := by
  have hcM : isM (nI nc) (fun t => decide (t < nt) && decide (se t - si t < 2)) := ⟨nc, hnc, rfl, hc⟩
  -- a candidate is a part of the closed tables
  have hle : ∀ j, j < 512 → cand nt A X m se si j.testBit → j ≤ nc := by
    intro j hj h
    have e : j &&& nc = j := bit_ext (Nat.lt_of_le_of_lt Nat.and_le_left hj) hj (fun i hi => by
      rw [Nat.testBit_and, hc i hi]
      cases hb : j.testBit i with
      | false => rfl
      | true =>
        obtain ⟨g1, g2⟩ := h.1 i hi hb
        simp [g1, g2])
    rw [← e]
    exact Nat.and_le_right
  have fin : ∀ i v7 v8, bst nt A X m se si i v7 v8 → (∀ j, j < 512 → i ≤ j → cand nt A X m se si j.testBit → ∃ B, B < i ∧ cand nt A X m se si B.testBit ∧ v7 = nI B ∧ vv se si B.testBit ≤ vv se si j.testBit) → i ≤ 512 → (v7 = (-1 : Int32) ∧ ∀ j, j < 512 → ¬ cand nt A X m se si j.testBit) ∨ ∃ B, B < 512 ∧ v7 = nI B ∧ cand nt A X m se si B.testBit ∧ ∀ j, j < 512 → cand nt A X m se si j.testBit → vv se si B.testBit ≤ vv se si j.testBit := by
    intro i v7 v8 hb hr hi
    rcases hb with ⟨a, b, d⟩ | ⟨B, b1, b2, b3, b4, b5⟩
    · refine Or.inl ⟨a, fun j hj hcj => ?_⟩
      by_cases e : j < i
      · exact d j e hcj
      · obtain ⟨B, c1, c2, c3, c4⟩ := hr j hj (by omega) hcj
        rw [a] at c3
        have := nI_pos (n := B) (by omega)
        rw [← c3] at this
        exact this (by decide)
    · refine Or.inr ⟨B, by omega, b3, b2, fun j hj hcj => ?_⟩
      by_cases e : j < i
      · exact b5 j e hcj
      · obtain ⟨B', c1, c2, c3, c4⟩ := hr j hj (by omega) hcj
        rw [b3, nI_eq (by omega) (by omega)] at c3
        rw [c3]
        exact c4
  obtain ⟨r, ⟨e1, e2⟩, he⟩ := loopE (ρ := Int32 × fp_Mem) (fun n i (s : Int32 × Int32) => m_X10_opened_79 8 13 x pm n (nI nc) y s.1 s.2 (nI i) M) (nc + 1) (fun i s => bst nt A X m se si i s.1 s.2) (fun r => r.2 = M ∧ ((r.1 = (-1 : Int32) ∧ ∀ j, j < 512 → ¬ cand nt A X m se si j.testBit) ∨ ∃ B, B < 512 ∧ r.1 = nI B ∧ cand nt A X m se si B.testBit ∧ ∀ j, j < 512 → cand nt A X m se si j.testBit → vv se si B.testBit ≤ vv se si j.testBit)) (by
    rintro n i ⟨v7, v8⟩ hi hI
    have hI : bst nt A X m se si i v7 v8 := hI
    have hi5 : i < 512 := by omega
    have hiM : isM (nI i) i.testBit := ⟨i, hi5, rfl, fun _ _ => rfl⟩
    by_cases h0 : v8 ≤ 0
    · -- nothing better than no chair
      refine Or.inr ⟨(v7, M), ⟨rfl, fin i v7 v8 hI (fun j hj hij hcj => ?_) (by omega)⟩, ?_⟩
      · rcases hI with ⟨a, b, d⟩ | ⟨B, b1, b2, b3, b4, b5⟩
        · rw [b] at h0
          exact absurd h0 (by decide)
        · have hB5 := b2.2.2
          rw [b4, q_le0 (by omega)] at h0
          refine ⟨B, b1, b2, b3, ?_⟩
          unfold vv
          have k1 := kb_le B.testBit
          have k2 := kb_le j.testBit
          by_cases z : costQ se si j.testBit = 0
          · have : j = B := bit_ext hj (by omega) (fun t ht => by rw [cost_0 (fun t ht hq => (hcj.1 t ht hq).2) z t ht, cost_0 (fun t ht hq => (b2.1 t ht hq).2) h0 t ht])
            omega
          · omega
      · show m_X10_opened_79 8 13 x pm (n + 1) (nI nc) y v7 v8 (nI i) M = _
        rw [m_X10_opened_79, if_neg (nI_nlt (by omega) (by omega)), if_pos h0, m_X10_opened_176]
    · have e170 : ∀ a b, m_X10_opened_170 8 13 x pm (m_X10_opened_79 8 13 x pm n) (nI nc) y a b (nI i) M = m_X10_opened_79 8 13 x pm n (nI nc) y a b (nI (i + 1)) M := fun a b => by rw [m_X10_opened_170, fp_ltt, nI_add]
      have skip : ¬ cand nt A X m se si i.testBit → m_X10_opened_79 8 13 x pm (n + 1) (nI nc) y v7 v8 (nI i) M = m_X10_opened_79 8 13 x pm n (nI nc) y v7 v8 (nI (i + 1)) M → ∃ s' : Int32 × Int32, bst nt A X m se si (i + 1) s'.1 s'.2 ∧ m_X10_opened_79 8 13 x pm (n + 1) (nI nc) y v7 v8 (nI i) M = m_X10_opened_79 8 13 x pm n (nI nc) y s'.1 s'.2 (nI (i + 1)) M := fun a b => ⟨(v7, v8), bst_skip hI a, b⟩
      refine Or.inl ?_
      show ∃ s' : Int32 × Int32, bst nt A X m se si (i + 1) s'.1 s'.2 ∧ m_X10_opened_79 8 13 x pm (n + 1) (nI nc) y v7 v8 (nI i) M = m_X10_opened_79 8 13 x pm n (nI nc) y s'.1 s'.2 (nI (i + 1)) M
      have hz := isM_z (isM_diff hiM hcM)
      by_cases hsub : ∀ t, t < 9 → i.testBit t = true → t < nt ∧ se t - si t < 2
      · have g1 : (nI i &&& (nI nc ^^^ (-1 : Int32))) = 0 := hz.mpr (fun t ht => by
          cases hb : i.testBit t with
          | false => rfl
          | true =>
            obtain ⟨z1, z2⟩ := hsub t ht hb
            simp [z1, z2])
        have est : m_X10_opened_79 8 13 x pm (n + 1) (nI nc) y v7 v8 (nI i) M = (if nI (cnt9 i.testBit) ≤ (nI 4) then
            fp_b1 (m_X10_reachesAll M 8 x (y ||| nI i)) fun r_4 =>
            if r_4 = 0 then
              m_X10_opened_79 8 13 x pm n (nI nc) y v7 v8 (nI (i + 1)) M
            else
              fp_b1 (m_X9_chairsFor M 13 (nI i)) fun r_6 =>
              if r_6 < v8 then
                m_X10_opened_79 8 13 x pm n (nI nc) y (nI i) r_6 (nI (i + 1)) M
              else
                if r_6 = v8 then
                  fp_b1 (m_X10_isAhead M (nI i) v7) fun r_8 =>
                  if r_8 = 0 then
                    m_X10_opened_79 8 13 x pm n (nI nc) y v7 v8 (nI (i + 1)) M
                  else
                    m_X10_opened_79 8 13 x pm n (nI nc) y (nI i) r_6 (nI (i + 1)) M
                else
                  m_X10_opened_79 8 13 x pm n (nI nc) y v7 v8 (nI (i + 1)) M
          else
            m_X10_opened_79 8 13 x pm n (nI nc) y v7 v8 (nI (i + 1)) M) := by
          rw [m_X10_opened_79, if_neg (nI_nlt (by omega) (by omega)), if_neg h0, if_pos g1, isM_bc M hiM, fp_b1t]
          simp only [m_X10_opened_162, e170]
        have hc9 := cnt9_le i.testBit
        by_cases h4 : cnt9 i.testBit ≤ 4
        · rw [if_pos (nI_le h4 (by decide))] at est
          obtain ⟨b, p1, p2⟩ := c_reaches hn hA r1 hN hx (isM_or hy hiM)
          have ok2 : okX nt A X m (fun t => (decide (t < nt) && decide (2 ≤ se t - si t)) || i.testBit t) ↔ okX nt A X m (fun t => decide (2 ≤ se t - si t) || i.testBit t) := ⟨okX_congr (fun t ht => by simp [ht]), okX_congr (fun t ht => by simp [ht])⟩
          rw [p1, fp_b1t] at est
          cases hb : b with
          | false =>
            rw [hb] at est p2
            rw [if_pos (by decide)] at est
            exact skip (fun h => by have := p2.mpr (ok2.mpr h.2.1); cases this) est
          | true =>
            rw [hb] at est p2
            rw [if_neg (by decide), c_chairsFor hS hiM, fp_b1t] at est
            have hok := ok2.mp (p2.mp rfl)
            have hcb : costQ se si i.testBit ≤ 45 := by
              have : nsum (fun t => if i.testBit t = true then cst se si t else 0) 9 ≤ 9 * 5 := nsum_le (fun t ht => by
                show (if i.testBit t = true then cst se si t else 0) ≤ 5
                by_cases z : i.testBit t = true
                · rw [if_pos z]
                  unfold cst lk
                  by_cases z2 : 20 < se t + (2 - (se t - si t))
                  · rw [if_pos z2]; exact Nat.le_refl _
                  · rw [if_neg z2]; omega
                · rw [if_neg z]; exact Nat.zero_le _)
              exact this
            rcases hI with ⟨a1, a2, a3⟩ | ⟨B, b1, b2, b3, b4, b5⟩
            · rw [a2] at est
              by_cases hl : costQ se si i.testBit < 5
              · rw [if_pos (nI_lt hl (by decide))] at est
                refine ⟨(nI i, nI (costQ se si i.testBit)), Or.inr ⟨i, by omega, ⟨hsub, hok, by omega⟩, rfl, rfl, fun j hj hcj => ?_⟩, by rw [a2]; exact est⟩
                by_cases e : j = i
                · rw [e]; exact Nat.le_refl _
                · exact absurd hcj (a3 j (by omega))
              · rw [if_neg (nI_nlt (by omega) (by omega))] at est
                refine skip (fun h => hl (by have := h.2.2; omega)) ?_
                rw [a1, a2]
                rw [a1] at est
                by_cases he5 : nI (costQ se si i.testBit) = nI 5
                · rw [if_pos he5, c_ahead_m, fp_b1t, if_pos (by decide)] at est
                  exact est
                · rw [if_neg he5] at est
                  exact est
            · have hB5 := b2.2.2
              have k1 := kb_le B.testBit
              have k2 := kb_le i.testBit
              have newb : vv se si i.testBit ≤ vv se si B.testBit → costQ se si i.testBit ≤ 4 → bst nt A X m se si (i + 1) (nI i) (nI (costQ se si i.testBit)) := fun hv h4 => Or.inr ⟨i, by omega, ⟨hsub, hok, h4⟩, rfl, rfl, fun j hj hcj => by
                by_cases e : j = i
                · rw [e]; exact Nat.le_refl _
                · exact Nat.le_trans hv (b5 j (by omega) hcj)⟩
              have oldb : vv se si B.testBit ≤ vv se si i.testBit → bst nt A X m se si (i + 1) v7 v8 := fun hv => Or.inr ⟨B, by omega, b2, b3, b4, fun j hj hcj => by
                by_cases e : j = i
                · rw [e]; exact hv
                · exact b5 j (by omega) hcj⟩
              rw [b4] at est
              by_cases hl : costQ se si i.testBit < costQ se si B.testBit
              · rw [if_pos (nI_lt hl (by omega))] at est
                exact ⟨(nI i, nI (costQ se si i.testBit)), newb (by unfold vv; omega) (by omega), by rw [b4]; exact est⟩
              · rw [if_neg (nI_nlt (by omega) (by omega))] at est
                by_cases heq : costQ se si i.testBit = costQ se si B.testBit
                · have hne : ¬ ∀ t, t < 9 → i.testBit t = B.testBit t := fun z => by
                    have := bit_ext hi5 (by omega) z
                    omega
                  rw [if_pos (by rw [heq]), b3, c_ahead hiM ⟨B, by omega, rfl, fun _ _ => rfl⟩ hne, fp_b1t] at est
                  by_cases hk : kb B.testBit < kb i.testBit
                  · rw [if_pos hk, if_neg (by decide)] at est
                    refine ⟨(nI i, nI (costQ se si i.testBit)), newb (by unfold vv; omega) (by omega), ?_⟩
                    rw [b3, b4]
                    exact est
                  · rw [if_neg hk, if_pos (by decide)] at est
                    refine ⟨(v7, v8), oldb (by unfold vv; omega), ?_⟩
                    show _ = m_X10_opened_79 8 13 x pm n (nI nc) y v7 v8 (nI (i + 1)) M
                    rw [b3, b4]
                    exact est
                · rw [if_neg (by rw [nI_eq (by omega) (by omega)]; exact heq)] at est
                  refine ⟨(v7, v8), oldb (by unfold vv; omega), ?_⟩
                  show _ = m_X10_opened_79 8 13 x pm n (nI nc) y v7 v8 (nI (i + 1)) M
                  rw [b4]
                  exact est
        · rw [if_neg (nI_ge (by omega) (by omega))] at est
          exact skip (fun h => by have := cost_cnt (fun t ht hq => (h.1 t ht hq).2); have := h.2.2; omega) est
      · have g1 : ¬ (nI i &&& (nI nc ^^^ (-1 : Int32))) = 0 := fun z => hsub (fun t ht hb => by
          have := hz.mp z t ht
          rw [hb] at this
          simpa using this)
        refine skip (fun h => hsub h.1) ?_
        rw [m_X10_opened_79, if_neg (nI_nlt (by omega) (by omega)), if_neg h0, if_neg g1, e170]) (by
    rintro n ⟨v7, v8⟩ hI
    refine ⟨(v7, M), ⟨rfl, fin (nc + 1) v7 v8 hI (fun j hj hij hcj => ?_) (by omega)⟩, ?_⟩
    · have := hle j hj hcj
      omega
    · show m_X10_opened_79 8 13 x pm (n + 1) (nI nc) y v7 v8 (nI (nc + 1)) M = _
      rw [m_X10_opened_79, if_pos (nI_lt (by omega) (by omega)), m_X10_opened_176]) (nc + 1) 0 fp_fu ((-1 : Int32), nI 5) (by omega) (fu_lt (by omega)) (Or.inl ⟨rfl, rfl, fun j hj => absurd hj (Nat.not_lt_zero j)⟩)
  obtain ⟨ra, rb⟩ := r
  obtain rfl : rb = M := e1
  exact ⟨ra, he, e2⟩
end OPN

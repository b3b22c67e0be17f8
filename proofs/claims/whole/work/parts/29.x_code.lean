/-! chairs, the counting: sets of tables, codes in base nine -/
theorem bits_of (P : Nat → Bool) : ∀ m, m ≤ 9 → ∃ n, n < 2 ^ m ∧ (∀ i, i < m → n.testBit i = P i)
  | 0, _ => ⟨0, by decide, fun i hi => absurd hi (Nat.not_lt_zero i)⟩
  | m + 1, hm => by
    obtain ⟨n, h1, h2⟩ := bits_of P m (by omega)
    have hp : 2 ^ m < 2 ^ (m + 1) := Nat.pow_lt_pow_right (by decide) (by omega)
    cases hP : P m with
    | false =>
      refine ⟨n, by omega, fun i hi => ?_⟩
      by_cases e : i = m
      · rw [e, hP]
        exact Nat.testBit_lt_two_pow h1
      · exact h2 i (by omega)
    | true =>
      refine ⟨n ||| 2 ^ m, Nat.or_lt_two_pow (Nat.lt_trans h1 hp) hp, fun i hi => ?_⟩
      rw [Nat.testBit_or, Nat.testBit_two_pow]
      by_cases e : i = m
      · rw [e, hP]
        simp
      · rw [h2 i (by omega)]
        have : ¬ m = i := fun z => e z.symm
        simp [this]
/-- the greater, the sooner a table is in it -/
def kb (Q : Nat → Bool) : Nat := (if Q 0 = true then 256 else 0) + (if Q 1 = true then 128 else 0) + (if Q 2 = true then 64 else 0) + (if Q 3 = true then 32 else 0) + (if Q 4 = true then 16 else 0) + (if Q 5 = true then 8 else 0) + (if Q 6 = true then 4 else 0) + (if Q 7 = true then 2 else 0) + (if Q 8 = true then 1 else 0)
theorem ite_le (b : Bool) (w : Nat) : (if b = true then w else 0) ≤ w := by
  cases b
  · exact Nat.zero_le _
  · exact Nat.le_refl _
theorem kb_le (Q : Nat → Bool) : kb Q ≤ 511 := by
  have k0 := ite_le (Q 0) 256
  have k1 := ite_le (Q 1) 128
  have k2 := ite_le (Q 2) 64
  have k3 := ite_le (Q 3) 32
  have k4 := ite_le (Q 4) 16
  have k5 := ite_le (Q 5) 8
  have k6 := ite_le (Q 6) 4
  have k7 := ite_le (Q 7) 2
  have k8 := ite_le (Q 8) 1
  unfold kb
  omega
theorem kb_congr {P Q : Nat → Bool} (h : ∀ i, i < 9 → P i = Q i) : kb P = kb Q := by
  unfold kb
  rw [h 0 (by decide), h 1 (by decide), h 2 (by decide), h 3 (by decide), h 4 (by decide), h 5 (by decide), h 6 (by decide), h 7 (by decide), h 8 (by decide)]
theorem kb_lt {P Q : Nat → Bool} {t : Nat} (ht : t < 9) (h : ∀ u, u < t → P u = Q u) (hp : P t = true) (hq : Q t = false) : kb Q < kb P := by
  have k0 := ite_le (Q 0) 256
  have k1 := ite_le (Q 1) 128
  have k2 := ite_le (Q 2) 64
  have k3 := ite_le (Q 3) 32
  have k4 := ite_le (Q 4) 16
  have k5 := ite_le (Q 5) 8
  have k6 := ite_le (Q 6) 4
  have k7 := ite_le (Q 7) 2
  have k8 := ite_le (Q 8) 1
  have e : ∀ (u w : Nat), u < t → (if P u = true then w else 0) = (if Q u = true then w else 0) := fun u w hu => by rw [h u hu]
  have ep : ∀ w : Nat, (if P t = true then w else 0) = w := fun w => by rw [hp, if_pos rfl]
  have eq : ∀ w : Nat, (if Q t = true then w else 0) = 0 := fun w => by rw [hq, if_neg (by decide)]
  unfold kb
  rcases (by omega : t = 0 ∨ t = 1 ∨ t = 2 ∨ t = 3 ∨ t = 4 ∨ t = 5 ∨ t = 6 ∨ t = 7 ∨ t = 8) with rfl | rfl | rfl | rfl | rfl | rfl | rfl | rfl | rfl
  · rw [ep, eq]; omega
  · rw [e 0 _ (by decide), ep, eq]; omega
  · rw [e 0 _ (by decide), e 1 _ (by decide), ep, eq]; omega
  · rw [e 0 _ (by decide), e 1 _ (by decide), e 2 _ (by decide), ep, eq]; omega
  · rw [e 0 _ (by decide), e 1 _ (by decide), e 2 _ (by decide), e 3 _ (by decide), ep, eq]; omega
  · rw [e 0 _ (by decide), e 1 _ (by decide), e 2 _ (by decide), e 3 _ (by decide), e 4 _ (by decide), ep, eq]; omega
  · rw [e 0 _ (by decide), e 1 _ (by decide), e 2 _ (by decide), e 3 _ (by decide), e 4 _ (by decide), e 5 _ (by decide), ep, eq]; omega
  · rw [e 0 _ (by decide), e 1 _ (by decide), e 2 _ (by decide), e 3 _ (by decide), e 4 _ (by decide), e 5 _ (by decide), e 6 _ (by decide), ep, eq]; omega
  · rw [e 0 _ (by decide), e 1 _ (by decide), e 2 _ (by decide), e 3 _ (by decide), e 4 _ (by decide), e 5 _ (by decide), e 6 _ (by decide), e 7 _ (by decide), ep, eq]; omega
/-- where two sets differ first -/
theorem dif_first {P Q : Nat → Bool} (h : ¬ ∀ i, i < 9 → P i = Q i) : ∃ t, t < 9 ∧ (∀ u, u < t → P u = Q u) ∧ P t = !Q t := by
  have key : ∀ n, n ≤ 9 → (∀ u, u < n → P u = Q u) ∨ ∃ t, t < n ∧ (∀ u, u < t → P u = Q u) ∧ P t = !Q t := by
    intro n
    induction n with
    | zero => exact fun _ => Or.inl fun u hu => absurd hu (Nat.not_lt_zero u)
    | succ n ih =>
      intro hn
      rcases ih (by omega) with h1 | ⟨t, h1, h2⟩
      · by_cases e : P n = Q n
        · refine Or.inl fun u hu => ?_
          by_cases eu : u = n
          · rw [eu, e]
          · exact h1 u (by omega)
        · refine Or.inr ⟨n, by omega, h1, ?_⟩
          cases hp : P n <;> cases hq : Q n <;> simp_all
      · exact Or.inr ⟨t, by omega, h2⟩
  rcases key 9 (Nat.le_refl _) with h1 | h1
  · exact absurd h1 h
  · exact h1
/-- k figures of base nine, none rising, all below L -/
def SL : Nat → Nat → Nat → Prop
  | 0, c, _ => c = 0
  | k + 1, c, L => c % 9 < L ∧ SL k (c / 9) (c % 9 + 1)
/-- how often u is among them -/
def cntC : Nat → Nat → Nat → Nat
  | 0, _, _ => 0
  | k + 1, c, u => (if c % 9 = u then 1 else 0) + cntC k (c / 9) u
/-- how many are u or more -/
def nge : Nat → Nat → Nat → Nat
  | 0, _, _ => 0
  | k + 1, c, u => (if u ≤ c % 9 then 1 else 0) + nge k (c / 9) u
def rp : Nat → Nat
  | 0 => 0
  | n + 1 => 9 * rp n + 1
theorem SL_mono : ∀ {k c L L' : Nat}, SL k c L → L ≤ L' → SL k c L'
  | 0, _, _, _, h, _ => h
  | k + 1, c, L, L', h, hl => ⟨Nat.lt_of_lt_of_le h.1 hl, h.2⟩
theorem SL_lt : ∀ {k c L : Nat}, SL k c L → c < 9 ^ k
  | 0, c, _, h => by
    have h : c = 0 := h
    rw [h]
    decide
  | k + 1, c, L, h => by
    have := SL_lt h.2
    rw [Nat.pow_succ]
    omega
theorem SL_app {k c t : Nat} (ht : t < 9) (h : SL k c (t + 1)) : SL (k + 1) (9 * c + t) (t + 1) := by
  have e1 : (9 * c + t) % 9 = t := by omega
  have e2 : (9 * c + t) / 9 = c := by omega
  show (9 * c + t) % 9 < t + 1 ∧ SL k ((9 * c + t) / 9) ((9 * c + t) % 9 + 1)
  rw [e1, e2]
  exact ⟨by omega, h⟩
theorem cnt_app {k c t : Nat} (ht : t < 9) (u : Nat) : cntC (k + 1) (9 * c + t) u = (if t = u then 1 else 0) + cntC k c u := by
  have e1 : (9 * c + t) % 9 = t := by omega
  have e2 : (9 * c + t) / 9 = c := by omega
  show (if (9 * c + t) % 9 = u then 1 else 0) + cntC k ((9 * c + t) / 9) u = _
  rw [e1, e2]
theorem nge_0 : ∀ {k c L t : Nat}, SL k c L → L ≤ t → nge k c t = 0
  | 0, _, _, _, _, _ => rfl
  | k + 1, c, L, t, h, hl => by
    have h1 := h.1
    rw [nge, nge_0 h.2 (by omega), if_neg (by omega)]
theorem nge_k : ∀ (k c : Nat), nge k c 0 = k
  | 0, _ => rfl
  | k + 1, c => by rw [nge, nge_k k, if_pos (Nat.zero_le _)]; omega
theorem nge_9 : ∀ (k c : Nat), nge k c 9 = 0
  | 0, _ => rfl
  | k + 1, c => by rw [nge, nge_9 k, if_neg (by omega)]
theorem nge_s : ∀ (k c t : Nat), nge k c t = nge k c (t + 1) + cntC k c t
  | 0, _, _ => rfl
  | k + 1, c, t => by
    rw [nge, nge, cntC, nge_s k (c / 9) t]
    by_cases h1 : c % 9 = t
    · rw [if_pos (by omega), if_neg (by omega), if_pos h1]; omega
    · by_cases h2 : t ≤ c % 9
      · rw [if_pos h2, if_pos (by omega), if_neg h1]; omega
      · rw [if_neg h2, if_neg (by omega), if_neg h1]; omega
theorem nge_le {k c t u : Nat} (h : t ≤ u) : nge k c u ≤ nge k c t := by
  obtain ⟨d, rfl⟩ : ∃ d, u = t + d := ⟨u - t, by omega⟩
  clear h
  induction d with
  | zero => exact Nat.le_refl _
  | succ d ih =>
    have := nge_s k c (t + d)
    rw [show t + (d + 1) = t + d + 1 from rfl]
    omega
theorem rp_le {a b : Nat} (h : a ≤ b) : rp a ≤ rp b := by
  obtain ⟨d, rfl⟩ : ∃ d, b = a + d := ⟨b - a, by omega⟩
  clear h
  induction d with
  | zero => exact Nat.le_refl _
  | succ d ih =>
    rw [show a + (d + 1) = (a + d) + 1 from rfl, rp]
    omega
theorem rp_lt {a b : Nat} (h : a < b) : 9 * rp a + 1 ≤ rp b := rp_le (a := a + 1) h
theorem dig_sum : ∀ d, d < 9 → (if 1 ≤ d then 1 else 0) + (if 2 ≤ d then 1 else 0) + (if 3 ≤ d then 1 else 0) + (if 4 ≤ d then 1 else 0) + (if 5 ≤ d then 1 else 0) + (if 6 ≤ d then 1 else 0) + (if 7 ≤ d then 1 else 0) + (if 8 ≤ d then 1 else 0) = d := by decide
theorem code_rp : ∀ {k c L : Nat}, SL k c L → c = rp (nge k c 1) + rp (nge k c 2) + rp (nge k c 3) + rp (nge k c 4) + rp (nge k c 5) + rp (nge k c 6) + rp (nge k c 7) + rp (nge k c 8)
  | 0, c, _, h => h
  | k + 1, c, L, h => by
    have ih := code_rp h.2
    have e : ∀ t, rp (nge (k + 1) c t) = 9 * rp (nge k (c / 9) t) + (if t ≤ c % 9 then 1 else 0) := by
      intro t
      rw [nge]
      by_cases h1 : t ≤ c % 9
      · rw [if_pos h1, Nat.add_comm 1, rp]
      · rw [if_neg h1, nge_0 h.2 (by omega)]
        rfl
    have hd := dig_sum (c % 9) (by omega)
    rw [e 1, e 2, e 3, e 4, e 5, e 6, e 7, e 8]
    omega
/-- of like many the first: the greater number at the first table where they differ -/
theorem code_lt {k c c' L L' t : Nat} (h : SL k c L) (h' : SL k c' L') (ht : t < 9) (he : ∀ u, u < t → cntC k c u = cntC k c' u) (hl : cntC k c' t < cntC k c t) : c < c' := by
  have en : ∀ j, j ≤ t → nge k c j = nge k c' j := by
    intro j
    induction j with
    | zero => intro _; rw [nge_k, nge_k]
    | succ j ih =>
      intro hj
      have a := nge_s k c j
      have b := nge_s k c' j
      have := ih (by omega)
      have := he j (by omega)
      omega
  have ht1 : nge k c (t + 1) < nge k c' (t + 1) := by
    have a := nge_s k c t
    have b := nge_s k c' t
    have := en t (Nat.le_refl _)
    omega
  have hb := rp_lt ht1
  have hi : ∀ j, t + 1 ≤ j → rp (nge k c j) ≤ rp (nge k c (t + 1)) := fun j hj => rp_le (nge_le hj)
  have lo : ∀ j, j ≤ t → rp (nge k c j) = rp (nge k c' j) := fun j hj => by rw [en j hj]
  have e := code_rp h
  have e' := code_rp h'
  have n9 := nge_9 k c
  have n9' := nge_9 k c'
  clear en he hl h h'
  have lo : ∀ j, j < t + 1 → rp (nge k c j) = rp (nge k c' j) := fun j hj => lo j (by omega)
  have hT : t + 1 ≤ 9 ∧ 1 ≤ t + 1 := by omega
  generalize t + 1 = T at ht1 hb hi lo hT
  rcases (by omega : T = 1 ∨ T = 2 ∨ T = 3 ∨ T = 4 ∨ T = 5 ∨ T = 6 ∨ T = 7 ∨ T = 8 ∨ T = 9) with rfl | rfl | rfl | rfl | rfl | rfl | rfl | rfl | rfl
  · have a2 := hi 2 (by decide); have a3 := hi 3 (by decide); have a4 := hi 4 (by decide); have a5 := hi 5 (by decide); have a6 := hi 6 (by decide); have a7 := hi 7 (by decide); have a8 := hi 8 (by decide)
    omega
  · have b1 := lo 1 (by decide); have a3 := hi 3 (by decide); have a4 := hi 4 (by decide); have a5 := hi 5 (by decide); have a6 := hi 6 (by decide); have a7 := hi 7 (by decide); have a8 := hi 8 (by decide)
    omega
  · have b1 := lo 1 (by decide); have b2 := lo 2 (by decide); have a4 := hi 4 (by decide); have a5 := hi 5 (by decide); have a6 := hi 6 (by decide); have a7 := hi 7 (by decide); have a8 := hi 8 (by decide)
    omega
  · have b1 := lo 1 (by decide); have b2 := lo 2 (by decide); have b3 := lo 3 (by decide); have a5 := hi 5 (by decide); have a6 := hi 6 (by decide); have a7 := hi 7 (by decide); have a8 := hi 8 (by decide)
    omega
  · have b1 := lo 1 (by decide); have b2 := lo 2 (by decide); have b3 := lo 3 (by decide); have b4 := lo 4 (by decide); have a6 := hi 6 (by decide); have a7 := hi 7 (by decide); have a8 := hi 8 (by decide)
    omega
  · have b1 := lo 1 (by decide); have b2 := lo 2 (by decide); have b3 := lo 3 (by decide); have b4 := lo 4 (by decide); have b5 := lo 5 (by decide); have a7 := hi 7 (by decide); have a8 := hi 8 (by decide)
    omega
  · have b1 := lo 1 (by decide); have b2 := lo 2 (by decide); have b3 := lo 3 (by decide); have b4 := lo 4 (by decide); have b5 := lo 5 (by decide); have b6 := lo 6 (by decide); have a8 := hi 8 (by decide)
    omega
  · have b1 := lo 1 (by decide); have b2 := lo 2 (by decide); have b3 := lo 3 (by decide); have b4 := lo 4 (by decide); have b5 := lo 5 (by decide); have b6 := lo 6 (by decide); have b7 := lo 7 (by decide)
    omega
  · rw [n9, n9'] at ht1
    omega
/-- there is a code for any numbers built -/
theorem codeE (b : Nat → Nat) : ∀ T, T ≤ 9 → ∃ c, SL (nsum b T) c T ∧ ∀ u, cntC (nsum b T) c u = if u < T then b u else 0
  | 0, _ => ⟨0, rfl, fun u => by rw [if_neg (Nat.not_lt_zero u)]; rfl⟩
  | T + 1, hT => by
    obtain ⟨c, h1, h2⟩ := codeE b T (by omega)
    have key : ∀ j, ∃ c, SL (nsum b T + j) c (T + 1) ∧ ∀ u, cntC (nsum b T + j) c u = (if u < T then b u else 0) + (if T = u then j else 0) := by
      intro j
      induction j with
      | zero =>
        refine ⟨c, SL_mono h1 (by omega), fun u => ?_⟩
        have z : (if T = u then 0 else 0) = 0 := by
          by_cases e : T = u
          · rw [if_pos e]
          · rw [if_neg e]
        rw [z]
        exact h2 u
      | succ j ih =>
        obtain ⟨c, g1, g2⟩ := ih
        refine ⟨9 * c + T, SL_app (by omega) g1, fun u => ?_⟩
        rw [show nsum b T + (j + 1) = (nsum b T + j) + 1 from rfl, cnt_app (by omega), g2]
        by_cases e : T = u
        · rw [if_pos e, if_pos e, if_pos e]; omega
        · rw [if_neg e, if_neg e, if_neg e]; omega
    obtain ⟨c', g1, g2⟩ := key (b T)
    refine ⟨c', g1, fun u => ?_⟩
    show cntC (nsum b T + b T) c' u = _
    rw [g2]
    by_cases e : T = u
    · rw [if_neg (show ¬ u < T by omega), if_pos e, if_pos (by omega), e]
      omega
    · by_cases e2 : u < T
      · rw [if_pos e2, if_neg e, if_pos (by omega)]
        rfl
      · rw [if_neg e2, if_neg e, if_neg (by omega)]
theorem cnt_sum : ∀ (k c : Nat), nsum (cntC k c) 9 = k := by
  intro k c
  have e : ∀ n, n ≤ 9 → nsum (cntC k c) n + nge k c n = k := by
    intro n
    induction n with
    | zero => intro _; rw [nge_k]; show 0 + k = k; omega
    | succ n ih =>
      intro hn
      have a := ih (by omega)
      have b := nge_s k c n
      rw [nsum]
      omega
  have := e 9 (Nat.le_refl _)
  rw [nge_9] at this
  omega
theorem nsum_mn {f g : Nat → Nat} : ∀ {n : Nat}, (∀ i, i < n → f i ≤ g i) → nsum f n ≤ nsum g n
  | 0, _ => Nat.le_refl _
  | n + 1, h => Nat.add_le_add (nsum_mn (fun i hi => h i (by omega))) (h n (by omega))
theorem nsum_ext {f g : Nat → Nat} : ∀ {n : Nat}, (∀ i, i < n → f i = g i) → nsum f n = nsum g n
  | 0, _ => rfl
  | n + 1, h => by rw [nsum, nsum, nsum_ext (fun i hi => h i (by omega)), h n (by omega)]
theorem nsum_eq {f g : Nat → Nat} : ∀ {n : Nat}, (∀ i, i < n → f i ≤ g i) → nsum f n = nsum g n → ∀ i, i < n → f i = g i
  | 0, _, _, i, hi => absurd hi (Nat.not_lt_zero i)
  | n + 1, h, e, i, hi => by
    have a := nsum_mn (n := n) (fun i hi => h i (by omega))
    have b := h n (by omega)
    rw [nsum, nsum] at e
    by_cases ei : i = n
    · subst ei; omega
    · exact nsum_eq (n := n) (fun i hi => h i (by omega)) (by omega) i (by omega)
theorem nsum_at {f : Nat → Nat} : ∀ {n i : Nat}, i < n → f i ≤ nsum f n
  | n + 1, i, h => by
    rw [nsum]
    by_cases e : i = n
    · subst e; omega
    · have := nsum_at (f := f) (n := n) (i := i) (by omega)
      omega

/-! loops, guards, memory: the rows by which a model is run -/
theorem fp_gdt {α : Type} (x : Option α) : fp_gd true x = x := rfl
theorem fp_b1t {α γ : Type} (a : α) (f : α → Option γ) : fp_b1 (some a) f = f a := rfl
theorem fp_b2t {α β γ : Type} (a : α) (b : β) (f : α → β → Option γ) : fp_b2 (some (a, b)) f = f a b := rfl
theorem fp_ltt {α γ : Type} (x : α) (f : α → Option γ) : fp_lt x f = f x := rfl
theorem fp_inN {i n : Nat} (h : i < n) (hn : n < 2 ^ 31) : fp_in (nI i) n = true := decide_eq_true (nI_in h hn)
theorem q_le {a b : Nat} (ha : a < 2 ^ 31) (hb : b < 2 ^ 31) : (nI a ≤ nI b) = (a ≤ b) := propext (nI_leI ha hb)
theorem q_lt {a b : Nat} (ha : a < 2 ^ 31) (hb : b < 2 ^ 31) : (nI a < nI b) = (a < b) := propext (nI_ltI ha hb)
theorem q_eq {a b : Nat} (ha : a < 2 ^ 31) (hb : b < 2 ^ 31) : (nI a = nI b) = (a = b) := propext (nI_eq ha hb)
theorem q_cl {a : Nat} (ha : a < 2 ^ 31) : Int32.toNatClampNeg (nI a) = a := nI_clamp ha
theorem q_lt0 {a : Nat} (ha : a < 2 ^ 31) : (nI a < 0) = False := eq_false (nI_pos ha)
theorem q_le0 {a : Nat} (ha : a < 2 ^ 31) : (nI a ≤ 0) = (a = 0) := by
  rw [← nI_0, q_le ha (by decide)]
  exact propext ⟨fun h => by omega, fun h => by omega⟩
theorem q_0le {a : Nat} (ha : a < 2 ^ 31) : (0 ≤ nI a) = True := eq_true (nI_pos' ha)
theorem q_0lt {a : Nat} (ha : a < 2 ^ 31) : (0 < nI a) = (0 < a) := by
  rw [← nI_0, q_lt (by decide) ha]
theorem q_eq0 {a : Nat} (ha : a < 2 ^ 31) : (nI a = 0) = (a = 0) := by
  rw [← nI_0, q_eq ha (by decide)]
theorem q_sub {a b : Nat} (h : b ≤ a) : nI a - nI b = nI (a - b) := pk_sub h
/-- a loop over i = 0 .. N - 1, with what holds ahead of each turn -/
theorem loopI {σ ρ : Type} (L : Nat → Nat → σ → Option ρ) (N : Nat) (I : Nat → σ → Prop) (hs : ∀ n i s, i < N → I i s → ∃ s', I (i + 1) s' ∧ L (n + 1) i s = L n (i + 1) s') :
    ∀ (d i n : Nat) (s : σ), i + d = N → d < n → I i s → ∃ n' s', I N s' ∧ L n i s = L (n' + 1) N s' := by
  intro d
  induction d with
  | zero =>
    intro i n s hi hn hI
    obtain ⟨m, rfl⟩ : ∃ m, n = m + 1 := ⟨n - 1, by omega⟩
    obtain rfl : i = N := by omega
    exact ⟨m, s, hI, rfl⟩
  | succ d ih =>
    intro i n s hi hn hI
    obtain ⟨m, rfl⟩ : ∃ m, n = m + 1 := ⟨n - 1, by omega⟩
    obtain ⟨s', h1, h2⟩ := hs m i s (by omega) hI
    obtain ⟨n', s2, h3, h4⟩ := ih (i + 1) m s' (by omega) (by omega) h1
    exact ⟨n', s2, h3, h2.trans h4⟩
/-- a loop that may end early: each turn goes on or gives the answer -/
theorem loopE {σ ρ : Type} (L : Nat → Nat → σ → Option ρ) (N : Nat) (I : Nat → σ → Prop) (Q : ρ → Prop) (hs : ∀ n i s, i < N → I i s → (∃ s', I (i + 1) s' ∧ L (n + 1) i s = L n (i + 1) s') ∨ (∃ r, Q r ∧ L (n + 1) i s = some r)) (he : ∀ n s, I N s → ∃ r, Q r ∧ L (n + 1) N s = some r) :
    ∀ (d i n : Nat) (s : σ), i + d = N → d < n → I i s → ∃ r, Q r ∧ L n i s = some r := by
  intro d
  induction d with
  | zero =>
    intro i n s hi hn hI
    obtain ⟨m, rfl⟩ : ∃ m, n = m + 1 := ⟨n - 1, by omega⟩
    obtain rfl : i = N := by omega
    exact he m s hI
  | succ d ih =>
    intro i n s hi hn hI
    obtain ⟨m, rfl⟩ : ∃ m, n = m + 1 := ⟨n - 1, by omega⟩
    rcases hs m i s (by omega) hI with ⟨s', h1, h2⟩ | ⟨r, h1, h2⟩
    · obtain ⟨r, h3, h4⟩ := ih (i + 1) m s' (by omega) (by omega) h1
      exact ⟨r, h3, h2.trans h4⟩
    · exact ⟨r, h1, h2⟩
/-- M' is M but for the cells that P names -/
def fr (P : Nat → Prop) (M M' : fp_Mem) : Prop := ∀ q, ¬ P q → M' q = M q
theorem fr_rf {P : Nat → Prop} {M : fp_Mem} : fr P M M := fun _ _ => rfl
theorem fr_tr {P : Nat → Prop} {M M' M'' : fp_Mem} (h1 : fr P M M') (h2 : fr P M' M'') : fr P M M'' := fun q hq => (h2 q hq).trans (h1 q hq)
theorem fr_mono {P Q : Nat → Prop} {M M' : fp_Mem} (h : fr P M M') (hPQ : ∀ q, P q → Q q) : fr Q M M' := fun q hq => h q (fun z => hq (hPQ q z))
theorem fr_set {P : Nat → Prop} {M : fp_Mem} {k j : Nat} {x : Int32} (h : P k) : fr P M (fp_set M k j x) := fun q hq => fp_set_ne (fun e => hq (by rw [e]; exact h))
theorem fr_at {P : Nat → Prop} {M M' : fp_Mem} (h : fr P M M') {q : Nat} (hq : ¬ P q) (j : Nat) : M' q j = M q j := by rw [h q hq]
theorem set_at (M : fp_Mem) (k j : Nat) (x : Int32) : fp_set M k j x k j = x := by rw [fp_set_eq]; exact pk_us
theorem set_ne {M : fp_Mem} {k j i : Nat} {x : Int32} (h : i ≠ j) : fp_set M k j x k i = M k i := by rw [fp_set_eq]; exact pk_un h
theorem set_off {M : fp_Mem} {k j q : Nat} {x : Int32} (h : q ≠ k) (i : Nat) : fp_set M k j x q i = M q i := by rw [fp_set_ne h]
theorem set_q (M : fp_Mem) (k j : Nat) (x : Int32) (q i : Nat) : fp_set M k j x q i = if q = k ∧ i = j then x else M q i := by
  by_cases h : q = k
  · subst h
    by_cases h2 : i = j
    · subst h2
      simp [set_at]
    · simp [set_ne h2, h2]
  · simp [set_off h, h]
theorem fu_eq : fp_fu = 10000 := rfl
theorem fu_lt {n : Nat} (h : n < 10000) : n < fp_fu := h

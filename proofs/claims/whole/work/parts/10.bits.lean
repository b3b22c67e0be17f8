/-! sets of tables as numbers below 512 -/
theorem q_or (a b : Nat) : nI a ||| nI b = nI (a ||| b) := by
  apply Int32.toBitVec_inj.mp
  simp [nI, Int32.toBitVec_ofNat', BitVec.ofNat_or]
theorem q_and (a b : Nat) : nI a &&& nI b = nI (a &&& b) := by
  apply Int32.toBitVec_inj.mp
  simp [nI, Int32.toBitVec_ofNat', BitVec.ofNat_and]
theorem q_xor (a b : Nat) : nI a ^^^ nI b = nI (a ^^^ b) := by
  apply Int32.toBitVec_inj.mp
  simp [nI, Int32.toBitVec_ofNat', BitVec.ofNat_xor]
theorem q_shl1 : ∀ t, t < 14 → (nI 1) <<< (nI t &&& 31) = nI (2 ^ t) := by decide +kernel
theorem q_sh31 : ∀ t, t < 14 → ((nI t &&& 31).toBitVec.smod 32).toNat = t := by decide +kernel
theorem q_shr {n t : Nat} (hn : n < 2 ^ 31) (ht : t < 14) : (nI n >>> (nI t &&& 31)) &&& nI 1 = nI (n / 2 ^ t % 2) := by
  rw [pk_shrN hn _ t (q_sh31 t ht), q_and]
  congr 1
  exact Nat.and_one_is_mod _
theorem q_m1 : (-1 : Int32) = nI (2 ^ 32 - 1) := by decide +kernel
/-- x is the set of the tables that P has -/
def isM (x : Int32) (P : Nat → Bool) : Prop := ∃ n, n < 512 ∧ x = nI n ∧ ∀ i, i < 9 → n.testBit i = P i
theorem isM_ext {x y : Int32} {P Q : Nat → Bool} (h1 : isM x P) (h2 : isM y Q) (h : ∀ i, i < 9 → P i = Q i) : x = y := by
  obtain ⟨n, hn, rfl, p⟩ := h1
  obtain ⟨m, hm, rfl, q⟩ := h2
  congr 1
  apply Nat.eq_of_testBit_eq
  intro i
  by_cases hi : i < 9
  · rw [p i hi, q i hi, h i hi]
  · have h9 : 2 ^ 9 ≤ 2 ^ i := Nat.pow_le_pow_right (by decide) (by omega)
    rw [Nat.testBit_lt_two_pow (Nat.lt_of_lt_of_le hn h9), Nat.testBit_lt_two_pow (Nat.lt_of_lt_of_le hm h9)]
theorem isM_congr {x : Int32} {P Q : Nat → Bool} (h1 : isM x P) (h : ∀ i, i < 9 → P i = Q i) : isM x Q := by
  obtain ⟨n, hn, rfl, p⟩ := h1
  exact ⟨n, hn, rfl, fun i hi => (p i hi).trans (h i hi)⟩
theorem isM_0 : isM (nI 0) (fun _ => false) := ⟨0, by decide, rfl, fun i _ => Nat.zero_testBit i⟩
theorem isM_or {x y : Int32} {P Q : Nat → Bool} (h1 : isM x P) (h2 : isM y Q) : isM (x ||| y) (fun i => P i || Q i) := by
  obtain ⟨n, hn, rfl, p⟩ := h1
  obtain ⟨m, hm, rfl, q⟩ := h2
  exact ⟨n ||| m, Nat.or_lt_two_pow (n := 9) hn hm, q_or n m, fun i hi => by rw [Nat.testBit_or, p i hi, q i hi]⟩
theorem isM_and {x y : Int32} {P Q : Nat → Bool} (h1 : isM x P) (h2 : isM y Q) : isM (x &&& y) (fun i => P i && Q i) := by
  obtain ⟨n, hn, rfl, p⟩ := h1
  obtain ⟨m, hm, rfl, q⟩ := h2
  exact ⟨n &&& m, Nat.lt_of_le_of_lt Nat.and_le_left hn, q_and n m, fun i hi => by rw [Nat.testBit_and, p i hi, q i hi]⟩
theorem isM_xor {x y : Int32} {P Q : Nat → Bool} (h1 : isM x P) (h2 : isM y Q) : isM (x ^^^ y) (fun i => P i ^^ Q i) := by
  obtain ⟨n, hn, rfl, p⟩ := h1
  obtain ⟨m, hm, rfl, q⟩ := h2
  exact ⟨n ^^^ m, Nat.xor_lt_two_pow (n := 9) hn hm, q_xor n m, fun i hi => by rw [Nat.testBit_xor, p i hi, q i hi]⟩
theorem isM_diff {x y : Int32} {P Q : Nat → Bool} (h1 : isM x P) (h2 : isM y Q) : isM (x &&& (y ^^^ (-1 : Int32))) (fun i => P i && !Q i) := by
  obtain ⟨n, hn, rfl, p⟩ := h1
  obtain ⟨m, hm, rfl, q⟩ := h2
  refine ⟨n &&& (m ^^^ (2 ^ 32 - 1)), Nat.lt_of_le_of_lt Nat.and_le_left hn, by rw [q_m1, q_xor, q_and], fun i hi => ?_⟩
  rw [Nat.testBit_and, Nat.testBit_xor, p i hi, q i hi, Nat.testBit_two_pow_sub_one]
  have : i < 32 := by omega
  simp [this]
theorem isM_bit {t : Nat} (ht : t < 9) : isM ((nI 1) <<< (nI t &&& 31)) (fun i => i == t) := by
  refine ⟨2 ^ t, Nat.pow_lt_pow_right (n := 9) (by decide) ht, q_shl1 t (by omega), fun i _ => ?_⟩
  rw [Nat.testBit_two_pow]
  by_cases h : t = i
  · simp [h]
  · have h2 : ¬ i = t := fun e => h e.symm
    simp [h, h2]
theorem isM_test {x : Int32} {P : Nat → Bool} (h : isM x P) {t : Nat} (ht : t < 9) : (x >>> (nI t &&& 31)) &&& nI 1 = nI (if P t then 1 else 0) := by
  obtain ⟨n, hn, rfl, p⟩ := h
  rw [q_shr (Nat.lt_trans hn (by decide)) (by omega), ← p t ht]
  congr 1
  rw [Nat.testBit_eq_decide_div_mod_eq]
  have : n / 2 ^ t % 2 < 2 := Nat.mod_lt _ (by decide)
  by_cases h : n / 2 ^ t % 2 = 1
  · simp [h]
  · have h2 : n / 2 ^ t % 2 = 0 := by omega
    simp [h2]
theorem isM_z {x : Int32} {P : Nat → Bool} (h : isM x P) : x = 0 ↔ ∀ i, i < 9 → P i = false := by
  constructor
  · intro e i hi
    obtain ⟨n, hn, hx, p⟩ := h
    rw [← p i hi]
    have : n = 0 := by
      have h1 : nI n = nI 0 := by rw [← hx, e]; rfl
      exact (nI_eq (Nat.lt_trans hn (by decide)) (by decide)).mp h1
    rw [this]
    exact Nat.zero_testBit i
  · intro e
    exact isM_ext h isM_0 e
theorem isM_tz {x : Int32} {P : Nat → Bool} (h : isM x P) {t : Nat} (ht : t < 9) : ((x >>> (nI t &&& 31)) &&& nI 1 = 0) ↔ P t = false := by
  rw [isM_test h ht]
  cases P t <;> decide
theorem isM_to {x : Int32} {P : Nat → Bool} (h : isM x P) {t : Nat} (ht : t < 9) : ((x >>> (nI t &&& 31)) &&& nI 1 = nI 1) ↔ P t = true := by
  rw [isM_test h ht]
  cases P t <;> decide
theorem q_all : ∀ n, n < 10 → ((nI 1) <<< (nI n &&& 31)) - nI 1 = nI (2 ^ n - 1) := by decide +kernel
theorem isM_all {n : Nat} (h : n ≤ 9) : isM (((nI 1) <<< (nI n &&& 31)) - nI 1) (fun i => decide (i < n)) := by
  refine ⟨2 ^ n - 1, ?_, q_all n (by omega), fun i _ => Nat.testBit_two_pow_sub_one n i⟩
  have : 2 ^ n ≤ 2 ^ 9 := Nat.pow_le_pow_right (by decide) h
  omega
/-- the least table of a set, 9 if there is none -/
def lst (P : Nat → Bool) : Nat := if P 0 then 0 else if P 1 then 1 else if P 2 then 2 else if P 3 then 3 else if P 4 then 4 else if P 5 then 5 else if P 6 then 6 else if P 7 then 7 else if P 8 then 8 else 9
theorem lst_yes {P : Nat → Bool} (h : lst P < 9) : P (lst P) = true := by
  unfold lst at h ⊢
  repeat' split
  all_goals first | assumption | (exfalso; simp_all)
theorem lst_no {P : Nat → Bool} {j : Nat} (h : j < lst P) : P j = false := by
  have h9 : lst P ≤ 9 := by unfold lst; repeat' split
                            all_goals omega
  have hj : j < 9 := by omega
  rcases (show j = 0 ∨ j = 1 ∨ j = 2 ∨ j = 3 ∨ j = 4 ∨ j = 5 ∨ j = 6 ∨ j = 7 ∨ j = 8 by omega) with rfl | rfl | rfl | rfl | rfl | rfl | rfl | rfl | rfl <;> (cases hp : P _ with | false => rfl | true => (exfalso; unfold lst at h; simp [hp] at h; repeat' split at h) <;> omega)
theorem lst_le (P : Nat → Bool) : lst P ≤ 9 := by
  unfold lst
  repeat' split
  all_goals omega
theorem lst_eq {P : Nat → Bool} {j : Nat} (hj : j < 9) (h : P j = true) (h2 : ∀ i, i < j → P i = false) : lst P = j := by
  have h1 : ¬ j < lst P := fun q => by rw [lst_no q] at h; cases h
  by_cases h3 : lst P < j
  · have := lst_yes (P := P) (by omega)
    rw [h2 _ h3] at this
    cases this
  · omega
theorem lst_lt {P : Nat → Bool} {j : Nat} (hj : j < 9) (h : P j = true) : lst P < 9 := by
  by_cases h1 : lst P < 9
  · exact h1
  · have := lst_no (P := P) (j := j) (by omega)
    rw [h] at this
    cases this
theorem lst_congr {P Q : Nat → Bool} (h : ∀ i, i < 9 → P i = Q i) : lst P = lst Q := by
  unfold lst
  rw [h 0 (by decide), h 1 (by decide), h 2 (by decide), h 3 (by decide), h 4 (by decide), h 5 (by decide), h 6 (by decide), h 7 (by decide), h 8 (by decide)]
theorem q_ntz0 : ∀ n, n < 512 → m_J6_numberOfTrailingZeros_0f7a4 fp_M0 (nI n) = some (nI (if lst n.testBit < 9 then lst n.testBit else 32)) := by decide +kernel
theorem isM_ntz (M : fp_Mem) {x : Int32} {P : Nat → Bool} (h : isM x P) : m_J6_numberOfTrailingZeros_0f7a4 M x = some (nI (if lst P < 9 then lst P else 32)) := by
  obtain ⟨n, hn, rfl, p⟩ := h
  rw [← lst_congr p]
  exact q_ntz0 n hn
/-- how many -/
def cnt9 (P : Nat → Bool) : Nat := (if P 0 then 1 else 0) + (if P 1 then 1 else 0) + (if P 2 then 1 else 0) + (if P 3 then 1 else 0) + (if P 4 then 1 else 0) + (if P 5 then 1 else 0) + (if P 6 then 1 else 0) + (if P 7 then 1 else 0) + (if P 8 then 1 else 0)
theorem cnt9_congr {P Q : Nat → Bool} (h : ∀ i, i < 9 → P i = Q i) : cnt9 P = cnt9 Q := by
  unfold cnt9
  rw [h 0 (by decide), h 1 (by decide), h 2 (by decide), h 3 (by decide), h 4 (by decide), h 5 (by decide), h 6 (by decide), h 7 (by decide), h 8 (by decide)]
theorem q_bc0 : ∀ n, n < 512 → m_J6_bitCount_0f7a4 fp_M0 (nI n) = some (nI (cnt9 n.testBit)) := by decide +kernel
theorem isM_bc (M : fp_Mem) {x : Int32} {P : Nat → Bool} (h : isM x P) : m_J6_bitCount_0f7a4 M x = some (nI (cnt9 P)) := by
  obtain ⟨n, hn, rfl, p⟩ := h
  rw [← cnt9_congr p]
  exact q_bc0 n hn
theorem q_low : ∀ n, n < 512 → n ≠ 0 → nI n &&& (-nI n) = nI (2 ^ lst n.testBit) := by decide +kernel

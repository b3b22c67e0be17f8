/-! what the program's and the model's small readers answer -/
/-- a set, as far as i -/
def upM (s : Int32) (i : Nat) (P : Nat → Bool) : Prop := isM s (fun t => decide (t < i) && P t)
theorem upM_0 (P : Nat → Bool) : upM (nI 0) 0 P := isM_congr isM_0 (fun t _ => by simp)
theorem upM_f {s : Int32} {i : Nat} {P : Nat → Bool} (h : upM s i P) (hp : P i = false) : upM s (i + 1) P := by
  refine isM_congr h (fun t _ => ?_)
  by_cases ht : t = i
  · subst ht
    simp [hp]
  · have e : (t < i + 1) = (t < i) := propext ⟨fun h => by omega, fun h => by omega⟩
    simp only [e]
theorem upM_t {s : Int32} {i : Nat} {P : Nat → Bool} (h : upM s i P) (hi : i < 9) (hp : P i = true) : upM (s ||| ((nI 1) <<< (nI i &&& 31))) (i + 1) P := by
  refine isM_congr (isM_or h (isM_bit hi)) (fun t _ => ?_)
  by_cases ht : t = i
  · subst ht
    simp [hp]
  · have e : (t < i + 1) = (t < i) := propext ⟨fun h => by omega, fun h => by omega⟩
    have e2 : (t == i) = false := by simp [ht]
    simp only [e, e2, Bool.or_false]
theorem or_0 (s : Int32) : s ||| nI 0 = s := by
  apply Int32.toBitVec_inj.mp
  simp [nI]
theorem upM_n {s : Int32} {n : Nat} {P : Nat → Bool} (h : upM s n P) (hn : ∀ t, n ≤ t → t < 9 → P t = false) : isM s P := by
  refine isM_congr h (fun t ht => ?_)
  by_cases h1 : t < n
  · simp [h1]
  · simp [h1, hn t (by omega) ht]
/-- a state of the program at k: who has how many seats, how many sit -/
def CS (M : fp_Mem) (k : Nat) (se si : Nat → Nat) : Prop := ∀ t, t < 9 → M (k + 1) t = nI (se t) ∧ M (k + 2) t = nI (si t) ∧ si t ≤ se t ∧ se t ≤ 24
/-- the model's state -/
def MS (M : fp_Mem) (se si : Nat → Nat) : Prop := ∀ t, t < 9 → M 123 t = nI (se t) ∧ M 123 (9 + t) = nI (si t) ∧ si t ≤ se t ∧ se t ≤ 24
theorem c_free {M : fp_Mem} {k : Nat} {se si : Nat → Nat} (h : CS M k se si) {t : Nat} (ht : t < 9) : m_X9_free M k (nI t) = some (nI (se t - si t)) := by
  obtain ⟨h1, h2, h3, h4⟩ := h t ht
  rw [m_X9_free, if_neg (nI_pos (by omega)), if_neg (nI_ge ht (by decide)), fp_inN ht (by decide), fp_gdt, fp_gdt, m_X9_free_27, q_cl (by omega), h1, h2, q_sub h3]
theorem m_free {M : fp_Mem} {se si : Nat → Nat} (h : MS M se si) {t : Nat} (ht : t < 9) : m_X12_free M (nI t) = some (nI (se t - si t)) := by
  obtain ⟨h1, h2, h3, h4⟩ := h t ht
  rw [m_X12_free, nI_add, fp_inN (show t < 25 by omega) (by decide), fp_inN (show 9 + t < 25 by omega) (by decide), fp_gdt, fp_gdt, q_cl (by omega), q_cl (by omega), h1, h2, q_sub h3]
theorem c_wfb {M : fp_Mem} {k b nt : Nat} {se si : Nat → Nat} (h : CS M k se si) (hnt : nt ≤ 9) (hb : b ≤ 20) : ∃ x, m_X9_withFreeBelow M k (nI b) (nI nt) = some x ∧ isM x (fun t => decide (t < nt) && decide (se t - si t < b)) := by
  obtain ⟨n', s', hI, he⟩ := loopI (fun n i s => m_X9_withFreeBelow_5 M k (nI b) (nI nt) n s (nI i)) nt (fun i s => upM s i (fun t => decide (se t - si t < b))) (by
    intro n i s hi hI
    have hf := c_free h (show i < 9 by omega)
    have h4 := (h i (by omega)).2.2.2
    by_cases hc : b ≤ se i - si i
    · refine ⟨s, upM_f hI (by simp; omega), ?_⟩
      show m_X9_withFreeBelow_5 M k (nI b) (nI nt) (n + 1) s (nI i) = _
      rw [m_X9_withFreeBelow_5, if_neg (nI_ge hi (by omega)), hf, fp_b1t, if_pos (nI_le hc (by omega)), m_X9_withFreeBelow_28, fp_ltt, nI_add]
    · refine ⟨_, upM_t hI (by omega) (by simp; omega), ?_⟩
      show m_X9_withFreeBelow_5 M k (nI b) (nI nt) (n + 1) s (nI i) = _
      rw [m_X9_withFreeBelow_5, if_neg (nI_ge hi (by omega)), hf, fp_b1t, if_neg (nI_ge (by omega) (by omega)), fp_ltt, m_X9_withFreeBelow_28, fp_ltt, nI_add]) nt 0 fp_fu (nI 0) (by omega) (fu_lt (by omega)) (upM_0 _)
  refine ⟨s', ?_, hI⟩
  rw [m_X9_withFreeBelow]
  refine he.trans ?_
  show m_X9_withFreeBelow_5 M k (nI b) (nI nt) (n' + 1) s' (nI nt) = _
  rw [m_X9_withFreeBelow_5, if_pos (nI_le (Nat.le_refl _) (by omega))]
theorem m_insp {M : fp_Mem} {nt : Nat} {se si : Nat → Nat} (h : MS M se si) (hnt : nt ≤ 9) (hM : M 120 1 = nI nt) : ∃ x, m_X12_inspected M = some x ∧ isM x (fun t => decide (t < nt) && decide (se t - si t < 1)) := by
  obtain ⟨n', s', hI, he⟩ := loopI (fun n i s => m_X12_inspected_4 M n s (nI i)) nt (fun i s => upM s i (fun t => decide (se t - si t < 1))) (by
    intro n i s hi hI
    have hf := m_free h (show i < 9 by omega)
    have h4 := (h i (by omega)).2.2.2
    by_cases hc : 1 ≤ se i - si i
    · refine ⟨s, upM_f hI (by simp; omega), ?_⟩
      show m_X12_inspected_4 M (n + 1) s (nI i) = _
      rw [m_X12_inspected_4, hM, if_neg (nI_ge hi (by omega)), hf, fp_b1t, if_pos (nI_le hc (by omega)), m_X12_inspected_29, fp_ltt, fp_ltt, nI_add, or_0]
    · refine ⟨_, upM_t hI (by omega) (by simp; omega), ?_⟩
      show m_X12_inspected_4 M (n + 1) s (nI i) = _
      rw [m_X12_inspected_4, hM, if_neg (nI_ge hi (by omega)), hf, fp_b1t, if_neg (nI_ge (by omega) (by omega)), m_X12_inspected_29, fp_ltt, fp_ltt, nI_add]) nt 0 fp_fu (nI 0) (by omega) (fu_lt (by omega)) (upM_0 _)
  refine ⟨s', ?_, hI⟩
  rw [m_X12_inspected]
  refine he.trans ?_
  show m_X12_inspected_4 M (n' + 1) s' (nI nt) = _
  rw [m_X12_inspected_4, hM, if_pos (nI_le (Nat.le_refl _) (by omega))]
/-- the sum of a row's first i -/
def isum (f : Nat → Int32) : Nat → Int32
  | 0 => nI 0
  | n + 1 => isum f n + f n
theorem isum_ext {f g : Nat → Int32} : ∀ {n : Nat}, (∀ i, i < n → f i = g i) → isum f n = isum g n
  | 0, _ => rfl
  | n + 1, h => by rw [isum, isum, isum_ext (fun i hi => h i (by omega)), h n (by omega)]
theorem add_0 (x : Int32) : x + nI 0 = x := by
  apply Int32.toBitVec_inj.mp
  simp [nI]
theorem isum_more {f : Nat → Int32} {n m : Nat} (h : ∀ i, n ≤ i → i < n + m → f i = nI 0) : isum f (n + m) = isum f n := by
  induction m with
  | zero => rfl
  | succ m ih =>
    rw [show n + (m + 1) = (n + m) + 1 from rfl, isum, ih (fun i h1 h2 => h i h1 (by omega)), h (n + m) (by omega) (by omega), add_0]
theorem c_sitting (M : fp_Mem) (k : Nat) : m_X9_sitting M k = some (isum (M (k + 2)) 9) := by
  obtain ⟨n', s', hI, he⟩ := loopI (fun n i s => m_X9_sitting_4 M k n s (nI i)) 9 (fun i s => s = isum (M (k + 2)) i) (by
    intro n i s hi hI
    refine ⟨_, rfl, ?_⟩
    show m_X9_sitting_4 M k (n + 1) s (nI i) = _
    rw [m_X9_sitting_4, if_neg (nI_ge hi (by decide)), fp_inN hi (by decide), fp_gdt, fp_ltt, fp_ltt, nI_add, q_cl (by omega), hI, isum]) 9 0 fp_fu (nI 0) rfl (fu_lt (by decide)) rfl
  rw [m_X9_sitting]
  refine he.trans ?_
  show m_X9_sitting_4 M k (n' + 1) s' (nI 9) = _
  rw [m_X9_sitting_4, if_pos (nI_le (Nat.le_refl _) (by decide)), hI]
theorem m_allSit {M : fp_Mem} {nt : Nat} (hnt : nt ≤ 9) (hM : M 120 1 = nI nt) : m_X12_allSit M = some (isum (fun t => M 123 (9 + t)) nt) := by
  obtain ⟨n', s', hI, he⟩ := loopI (fun n i s => m_X12_allSit_4 M n s (nI i)) nt (fun i s => s = isum (fun t => M 123 (9 + t)) i) (by
    intro n i s hi hI
    refine ⟨_, rfl, ?_⟩
    show m_X12_allSit_4 M (n + 1) s (nI i) = _
    rw [m_X12_allSit_4, hM, if_neg (nI_ge hi (by omega)), nI_add, fp_inN (show 9 + i < 25 by omega) (by decide), fp_gdt, fp_ltt, fp_ltt, nI_add, q_cl (by omega), hI, isum]) nt 0 fp_fu (nI 0) (by omega) (fu_lt (by omega)) rfl
  rw [m_X12_allSit]
  refine he.trans ?_
  show m_X12_allSit_4 M (n' + 1) s' (nI nt) = _
  rw [m_X12_allSit_4, hM, if_pos (nI_le (Nat.le_refl _) (by omega)), hI]
/-- is there such a table, such a way -/
theorem q_tab (p : Int32) {n : Nat} (hn : n ≤ 14) : (∃ t, t < n ∧ p = nI t) ∨ ((p < 0 ∨ ¬ p < 0 ∧ nI n ≤ p)) := by
  by_cases h0 : p < 0
  · exact Or.inr (Or.inl h0)
  · by_cases h1 : nI n ≤ p
    · exact Or.inr (Or.inr ⟨h0, h1⟩)
    · obtain ⟨j, hj, rfl⟩ := nI_of h0
      refine Or.inl ⟨j, ?_, rfl⟩
      rw [q_le (by omega) hj] at h1
      omega
theorem c_hasTable_y {M : fp_Mem} {k n t : Nat} (hM : M k 3 = nI n) (hn : n ≤ 9) (ht : t < n) : m_X7_hasTable M k (nI t) = some (nI 1) := by
  rw [m_X7_hasTable, hM, if_neg (nI_pos (by omega)), if_neg (nI_ge ht (by omega)), m_X7_hasTable_17]
  rfl
theorem c_hasTable_n {M : fp_Mem} {k n : Nat} {p : Int32} (hM : M k 3 = nI n) (h : p < 0 ∨ ¬ p < 0 ∧ nI n ≤ p) : m_X7_hasTable M k p = some (nI 0) := by
  rw [m_X7_hasTable, hM]
  rcases h with h | ⟨h1, h2⟩
  · rw [if_pos h, m_X7_hasTable_16, m_X7_hasTable_17]
    rfl
  · rw [if_neg h1, if_pos h2, m_X7_hasTable_16, m_X7_hasTable_17]
    rfl
theorem c_hasWay_y {M : fp_Mem} {k n t : Nat} (hM : M k 4 = nI n) (hn : n ≤ 14) (ht : t < n) : m_X7_hasWay M k (nI t) = some (nI 1) := by
  rw [m_X7_hasWay, hM, if_neg (nI_pos (by omega)), if_neg (nI_ge ht (by omega)), m_X7_hasWay_17]
  rfl
theorem c_hasWay_n {M : fp_Mem} {k n : Nat} {p : Int32} (hM : M k 4 = nI n) (h : p < 0 ∨ ¬ p < 0 ∧ nI n ≤ p) : m_X7_hasWay M k p = some (nI 0) := by
  rw [m_X7_hasWay, hM]
  rcases h with h | ⟨h1, h2⟩
  · rw [if_pos h, m_X7_hasWay_16, m_X7_hasWay_17]
    rfl
  · rw [if_neg h1, if_pos h2, m_X7_hasWay_16, m_X7_hasWay_17]
    rfl
/-- the model's 'in' -/
theorem m_in_eq (M : fp_Mem) (v a b : Int64) : m_X12_in M v a b = some (if v < a ∨ b < v then nI 0 else nI 1) := by
  rw [m_X12_in]
  by_cases h1 : v < a
  · rw [if_pos ((lg_cmp_lt v a).mpr h1), m_X12_in_17, m_X12_in_18, if_pos (Or.inl h1)]
    rfl
  · rw [if_neg (fun h => h1 ((lg_cmp_lt v a).mp h))]
    by_cases h2 : b < v
    · rw [if_pos ((lg_cmp_gt v b).mpr h2), m_X12_in_17, m_X12_in_18, if_pos (Or.inr h2)]
      rfl
    · rw [if_neg (fun h => h2 ((lg_cmp_gt v b).mp h)), m_X12_in_18, if_neg (fun h => h.elim h1 h2)]
      rfl
theorem m_inI (M : fp_Mem) (p a b : Int32) : m_X12_in M (Int32.toInt64 p) (Int32.toInt64 a) (Int32.toInt64 b) = some (if p < a ∨ b < p then nI 0 else nI 1) := by
  rw [m_in_eq]
  have e1 : (Int32.toInt64 p < Int32.toInt64 a) = (p < a) := propext (by rw [Int64.lt_iff_toInt_lt, Int32.lt_iff_toInt_lt, Int32.toInt_toInt64, Int32.toInt_toInt64])
  have e2 : (Int32.toInt64 b < Int32.toInt64 p) = (b < p) := propext (by rw [Int64.lt_iff_toInt_lt, Int32.lt_iff_toInt_lt, Int32.toInt_toInt64, Int32.toInt_toInt64])
  simp only [e1, e2]
theorem m_inN (M : fp_Mem) (p : Int32) {a b : Nat} (ha : a < 2 ^ 31) (hb : b < 2 ^ 31) : m_X12_in M (Int32.toInt64 p) (lN a) (lN b) = some (if p < nI a ∨ nI b < p then nI 0 else nI 1) := by
  rw [← nI_l ha, ← nI_l hb, m_inI]
theorem q_pred (n : Nat) : nI n - nI 1 < (0 : Int32) ∨ True := Or.inr trivial
theorem m_in0_y (M : fp_Mem) {t n : Nat} (ht : t < n) (hn : n ≤ 14) : m_X12_in M (Int32.toInt64 (nI t)) (lN 0) (Int32.toInt64 (nI n - nI 1)) = some (nI 1) := by
  rw [q_sub (by omega), show lN 0 = Int32.toInt64 (nI 0) from (nI_l (by decide)).symm, m_inI, if_neg]
  rw [q_lt (by omega) (by omega), q_lt (by omega) (by omega)]
  omega
theorem q_m1lt {p : Int32} (h : ¬ p < 0) : nI 0 - nI 1 < p := by
  rw [Int32.lt_iff_toInt_lt] at h ⊢
  have : (nI 0 - nI 1).toInt = -1 := by decide +kernel
  rw [this]
  have h0 : (0 : Int32).toInt = 0 := by decide +kernel
  rw [h0] at h
  omega
theorem m_in0_n (M : fp_Mem) {p : Int32} {n : Nat} (hn : n ≤ 14) (h : p < 0 ∨ ¬ p < 0 ∧ nI n ≤ p) : m_X12_in M (Int32.toInt64 p) (lN 0) (Int32.toInt64 (nI n - nI 1)) = some (nI 0) := by
  have e0 : lN 0 = Int32.toInt64 (nI 0) := (nI_l (by decide)).symm
  rw [e0, m_inI, if_pos]
  rcases h with h | ⟨h1, h2⟩
  · exact Or.inl h
  · refine Or.inr ?_
    by_cases h0 : n = 0
    · subst h0
      exact q_m1lt h1
    · obtain ⟨j, hj, rfl⟩ := nI_of h1
      rw [q_le (by omega) hj] at h2
      rw [q_sub (by omega), q_lt (by omega) hj]
      omega
theorem m_isTable_y {M : fp_Mem} {t n : Nat} (hM : M 120 1 = nI n) (hn : n ≤ 9) (ht : t < n) : m_X12_isTable M (nI t) = some (nI 1) := by
  rw [m_X12_isTable, hM, m_in0_y M ht (by omega), fp_b1t]
  rfl
theorem m_isTable_n {M : fp_Mem} {p : Int32} {n : Nat} (hM : M 120 1 = nI n) (hn : n ≤ 9) (h : p < 0 ∨ ¬ p < 0 ∧ nI n ≤ p) : m_X12_isTable M p = some (nI 0) := by
  rw [m_X12_isTable, hM, m_in0_n M (by omega) h, fp_b1t]
  rfl
theorem m_has_eq {M : fp_Mem} {x : Int32} {P : Nat → Bool} (h : isM x P) {t : Nat} (ht : t < 9) : m_X12_has M x (nI t) = some (nI (if P t then 1 else 0)) := by
  rw [m_X12_has]
  cases hp : P t with
  | true =>
    rw [if_pos ((isM_to h ht).mpr hp), m_X12_has_14]
    rfl
  | false =>
    rw [if_neg (fun e => by rw [(isM_to h ht).mp e] at hp; cases hp), m_X12_has_14]
    rfl

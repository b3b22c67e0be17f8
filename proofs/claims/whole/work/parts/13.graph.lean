/-! the realm as a graph: who is joined to whom by unshut ways; how far a table is from one with two free -/
/-- way w is unshut -/
def opn (sh : Int32) (w : Nat) : Bool := decide ((sh >>> (nI w &&& 31)) &&& nI 1 = 0)
/-- t and u are joined by one of the first n ways -/
def adjN (sh : Int32) (fa fb : Nat → Nat) : Nat → Nat → Nat → Bool
  | 0, _, _ => false
  | n + 1, t, u => adjN sh fa fb n t u || (opn sh n && ((fa n == t && fb n == u) || (fb n == t && fa n == u)))
theorem q_bit01 (sh : Int32) {w : Nat} (hw : w < 14) : (sh >>> (nI w &&& 31)) &&& nI 1 = 0 ∨ (sh >>> (nI w &&& 31)) &&& nI 1 = nI 1 := by
  generalize sh >>> (nI w &&& 31) = x
  have h : x &&& nI 1 = nI (x.toBitVec.toNat % 2 ^ 1) := pk_and x 1 (by decide)
  rw [h]
  have : x.toBitVec.toNat % 2 ^ 1 < 2 := Nat.mod_lt _ (by decide)
  rcases (show x.toBitVec.toNat % 2 ^ 1 = 0 ∨ x.toBitVec.toNat % 2 ^ 1 = 1 by omega) with e | e
  · rw [e]; exact Or.inl rfl
  · rw [e]; exact Or.inr rfl
theorem opn_t {sh : Int32} {w : Nat} (h : opn sh w = true) : (sh >>> (nI w &&& 31)) &&& nI 1 = 0 := of_decide_eq_true h
theorem opn_f {sh : Int32} {w : Nat} (h : opn sh w = false) : ¬ (sh >>> (nI w &&& 31)) &&& nI 1 = 0 := of_decide_eq_false h
section GR
variable (nt : Nat) (A : Nat → Nat → Bool) (O : Nat → Bool)
/-- one of the tables u < nt has it -/
def anyT (P : Nat → Bool) : Nat → Bool
  | 0 => false
  | n + 1 => anyT P n || P n
theorem anyT_y {P : Nat → Bool} : ∀ {n u : Nat}, u < n → P u = true → anyT P n = true
  | n + 1, u, h, hp => by
    by_cases e : u = n
    · subst e
      simp [anyT, hp]
    · simp [anyT, anyT_y (show u < n by omega) hp]
theorem anyT_e {P : Nat → Bool} : ∀ {n : Nat}, anyT P n = true → ∃ u, u < n ∧ P u = true
  | n + 1, h => by
    rw [anyT, Bool.or_eq_true] at h
    rcases h with h | h
    · obtain ⟨u, h1, h2⟩ := anyT_e h
      exact ⟨u, by omega, h2⟩
    · exact ⟨n, by omega, h⟩
theorem anyT_congr {P Q : Nat → Bool} : ∀ {n : Nat}, (∀ u, u < n → P u = Q u) → anyT P n = anyT Q n
  | 0, _ => rfl
  | n + 1, h => by rw [anyT, anyT, anyT_congr (fun u hu => h u (by omega)), h n (by omega)]
/-- within d steps of a table that O has -/
def reach : Nat → Nat → Bool
  | 0, t => decide (t < nt) && O t
  | d + 1, t => reach d t || (decide (t < nt) && anyT (fun u => A t u && reach d u) nt)
/-- how many steps; 9: more than eight -/
def dst (t : Nat) : Nat := lst (fun d => reach nt A O d t)
variable {nt A O}
theorem reach_lt : ∀ {d t : Nat}, reach nt A O d t = true → t < nt
  | 0, t, h => by simp [reach] at h; exact h.1
  | d + 1, t, h => by
    rw [reach, Bool.or_eq_true] at h
    rcases h with h | h
    · exact reach_lt h
    · simp at h
      exact h.1
theorem reach_s {d t : Nat} (h : reach nt A O d t = true) : reach nt A O (d + 1) t = true := by
  rw [reach, h]
  rfl
theorem reach_mono {d e t : Nat} (hde : d ≤ e) (h : reach nt A O d t = true) : reach nt A O e t = true := by
  obtain ⟨c, rfl⟩ : ∃ c, e = d + c := ⟨e - d, by omega⟩
  clear hde
  induction c with
  | zero => exact h
  | succ c ih => exact reach_s ih
theorem dst_reach {d t : Nat} (hd : d < 9) : dst nt A O t ≤ d ↔ reach nt A O d t = true := by
  constructor
  · intro h
    exact reach_mono h (lst_yes (P := fun d => reach nt A O d t) (show lst _ < 9 from Nat.lt_of_le_of_lt h hd))
  · intro h
    by_cases h2 : dst nt A O t ≤ d
    · exact h2
    · have this : reach nt A O d t = false := lst_no (P := fun d => reach nt A O d t) (j := d) (by show d < dst nt A O t; omega)
      rw [h] at this
      cases this
theorem dst_le9 (t : Nat) : dst nt A O t ≤ 9 := lst_le _
theorem dst_0 {t : Nat} (ht : t < nt) : dst nt A O t = 0 ↔ O t = true := by
  have h := dst_reach (nt := nt) (A := A) (O := O) (t := t) (show 0 < 9 by decide)
  constructor
  · intro e
    have := h.mp (by omega)
    simp [reach, ht] at this
    exact this
  · intro e
    have := h.mpr (by simp [reach, ht, e])
    omega
theorem dst_lt {t : Nat} (h : dst nt A O t < 9) : t < nt := reach_lt ((dst_reach (show dst nt A O t < 9 from h)).mp (Nat.le_refl _))
/-- ring d + 1: joined to ring d, and no nearer -/
theorem dst_s {d t : Nat} (hd : d + 1 < 9) : dst nt A O t = d + 1 ↔ t < nt ∧ ¬ dst nt A O t ≤ d ∧ ∃ u, u < nt ∧ A t u = true ∧ dst nt A O u = d := by
  constructor
  · intro h
    have h1 : reach nt A O (d + 1) t = true := (dst_reach hd).mp (by omega)
    have h2 : ¬ reach nt A O d t = true := fun q => by have := (dst_reach (show d < 9 by omega)).mpr q; omega
    refine ⟨reach_lt h1, by omega, ?_⟩
    rw [reach, Bool.or_eq_true] at h1
    rcases h1 with h1 | h1
    · exact absurd h1 h2
    · rw [Bool.and_eq_true] at h1
      obtain ⟨u, hu, hp⟩ := anyT_e h1.2
      simp only [Bool.and_eq_true] at hp
      refine ⟨u, hu, hp.1, ?_⟩
      have h3 : dst nt A O u ≤ d := (dst_reach (by omega)).mpr hp.2
      by_cases h4 : dst nt A O u = d
      · exact h4
      · exfalso
        apply h2
        obtain ⟨c, rfl⟩ : ∃ c, d = c + 1 := ⟨d - 1, by omega⟩
        have h5 : reach nt A O c u = true := (dst_reach (by omega)).mp (by omega)
        rw [reach, Bool.or_eq_true]
        refine Or.inr ?_
        rw [Bool.and_eq_true]
        exact ⟨h1.1, anyT_y hu (by simp [hp.1, h5])⟩
  · rintro ⟨ht, h2, u, hu, ha, hd2⟩
    have h3 : reach nt A O d u = true := (dst_reach (by omega)).mp (by omega)
    have h1 : reach nt A O (d + 1) t = true := by
      rw [reach, Bool.or_eq_true]
      refine Or.inr ?_
      rw [Bool.and_eq_true]
      exact ⟨decide_eq_true ht, anyT_y hu (by simp [ha, h3])⟩
    have := (dst_reach (nt := nt) (A := A) (O := O) (t := t) hd).mpr h1
    omega
/-- the next table of a chain: the least that is joined and a step nearer; 9: none -/
def nxt (nt : Nat) (A : Nat → Nat → Bool) (O : Nat → Bool) (t : Nat) : Nat := lst (fun u => decide (u < nt) && (A t u && decide (dst nt A O u + 1 = dst nt A O t)))
theorem nxt_lt {t : Nat} (hn : nt ≤ 9) (h0 : 0 < dst nt A O t) (h9 : dst nt A O t < 9) : nxt nt A O t < nt ∧ A t (nxt nt A O t) = true ∧ dst nt A O (nxt nt A O t) + 1 = dst nt A O t := by
  obtain ⟨d, hd⟩ : ∃ d, dst nt A O t = d + 1 := ⟨dst nt A O t - 1, by omega⟩
  obtain ⟨ht, -, u, hu, ha, hdu⟩ := (dst_s (by omega)).mp hd
  have h1 : nxt nt A O t < 9 := lst_lt (j := u) (by omega) (by simp [hu, ha, hdu, hd])
  have h2 := lst_yes (P := fun u => decide (u < nt) && (A t u && decide (dst nt A O u + 1 = dst nt A O t))) h1
  simp only [Bool.and_eq_true, decide_eq_true_eq] at h2
  exact ⟨h2.1, h2.2.1, h2.2.2⟩
/-- the i-th table of the chain from t -/
def chn (nt : Nat) (A : Nat → Nat → Bool) (O : Nat → Bool) (t : Nat) : Nat → Nat
  | 0 => t
  | i + 1 => nxt nt A O (chn nt A O t i)
theorem chn_dst {t : Nat} (hn : nt ≤ 9) (h9 : dst nt A O t < 9) : ∀ {i : Nat}, i ≤ dst nt A O t → chn nt A O t i < nt ∧ dst nt A O (chn nt A O t i) + i = dst nt A O t
  | 0, _ => ⟨dst_lt h9, rfl⟩
  | i + 1, h => by
    obtain ⟨h1, h2⟩ := chn_dst hn h9 (i := i) (by omega)
    obtain ⟨h3, h4, h5⟩ := nxt_lt (A := A) (O := O) hn (t := chn nt A O t i) (by omega) (by omega)
    exact ⟨h3, by show dst nt A O (nxt nt A O (chn nt A O t i)) + (i + 1) = _; omega⟩
theorem chn_s {t : Nat} : ∀ (i : Nat), chn nt A O t (i + 1) = chn nt A O (nxt nt A O t) i
  | 0 => rfl
  | i + 1 => by rw [chn, chn_s i, chn]
/-- from which tables of the chain one moves up -/
def mvr (nt : Nat) (A : Nat → Nat → Bool) (O : Nat → Bool) : Nat → Nat → Nat → Bool
  | 0, _, _ => false
  | d + 1, t, j => (j == t) || mvr nt A O d (nxt nt A O t) j
end GR

/-! what the measured chains answer -/
def mvI (d : Nat) : Int32 := if d < 9 then nI d else -1
section CRD
variable {M : fp_Mem} {k nt : Nat} {A : Nat → Nat → Bool} {O : Nat → Bool}
theorem cc_moves (hC : CC M k nt A O) {t : Nat} (ht : t < 9) : M (k + 2) t = mvI (dst nt A O t) := by
  unfold mvI
  by_cases h : dst nt A O t < 9
  · rw [if_pos h]
    exact ((hC.2 t ht).1 h).1
  · rw [if_neg h]
    exact ((hC.2 t ht).2 h).1
theorem mvI_m1 {d : Nat} : mvI d = -1 ↔ ¬ d < 9 := by
  unfold mvI
  by_cases h : d < 9
  · rw [if_pos h]
    refine ⟨fun e => ?_, fun e => absurd h e⟩
    have h2 := nI_pos (n := d) (by omega)
    rw [e] at h2
    exact absurd (by decide) h2
  · rw [if_neg h]
    exact ⟨fun _ => h, fun _ => rfl⟩
theorem cc_movesFrom (hC : CC M k nt A O) (hn : nt ≤ 9) {t : Nat} (ht : t < nt) : m_X2_movesFrom M k (nI t) = some (mvI (dst nt A O t)) := by
  rw [m_X2_movesFrom, hC.1.1, if_neg (nI_pos (by omega)), if_neg (nI_ge ht (by omega)), fp_inN (show t < 9 by omega) (by decide), fp_gdt, m_X2_movesFrom_22, q_cl (by omega), cc_moves hC (by omega)]
theorem cc_movesFrom_m1 : m_X2_movesFrom M k (-1) = some (-1) := by
  rw [m_X2_movesFrom, if_pos (by decide), m_X2_movesFrom_21, m_X2_movesFrom_22]
/-- the movers of t's chain -/
def mvS (nt : Nat) (A : Nat → Nat → Bool) (O : Nat → Bool) (t : Nat) : Nat → Bool := fun j => if dst nt A O t < 9 then mvr nt A O (dst nt A O t) t j else false
theorem cc_moversFrom (hC : CC M k nt A O) (hn : nt ≤ 9) {t : Nat} (ht : t < nt) : ∃ x, m_X2_moversFrom M k (nI t) = some x ∧ isM x (mvS nt A O t) := by
  refine ⟨M (k + 4) t, ?_, ?_⟩
  · rw [m_X2_moversFrom, hC.1.1, if_neg (nI_pos (by omega)), if_neg (nI_ge ht (by omega)), fp_inN (show t < 9 by omega) (by decide), fp_gdt, m_X2_moversFrom_22, q_cl (by omega)]
  · unfold mvS
    by_cases h : dst nt A O t < 9
    · simp only [h, if_true]
      exact ((hC.2 t (by omega)).1 h).2.2
    · simp only [h, if_false]
      rw [((hC.2 t (by omega)).2 h).2.2]
      exact isM_0
theorem cc_tableOf_n (hC : CC M k nt A O) (hn : nt ≤ 9) {t : Nat} (ht : t < nt) {i : Int32} (hi : i < 0 ∨ ¬ i ≤ mvI (dst nt A O t)) : m_X2_tableOf M k (nI t) i = some (-1) := by
  rw [m_X2_tableOf]
  by_cases h : i < 0
  · rw [if_pos h, m_X2_tableOf_13]
  · rw [if_neg h, cc_movesFrom hC hn ht, fp_b1t, if_neg (hi.resolve_left h), m_X2_tableOf_13]
theorem cc_tableOf_y (hC : CC M k nt A O) (hn : nt ≤ 9) {t : Nat} (ht : t < nt) {j : Nat} (h9 : dst nt A O t < 9) (hj : j ≤ dst nt A O t) : m_X2_tableOf M k (nI t) (nI j) = some (nI (chn nt A O t j)) := by
  rw [m_X2_tableOf, if_neg (nI_pos (by omega)), cc_movesFrom hC hn ht, fp_b1t, mvI, if_pos h9, if_pos (nI_le hj (by omega))]
  obtain ⟨n1, s1, hI, he⟩ := loopI (fun n i s => m_X2_tableOf_20 M k (nI t) (nI j) n s (nI i)) j (fun i s => s = nI (chn nt A O t i)) (by
    intro n i s hi hI
    obtain ⟨h1, h2⟩ := chn_dst hn h9 (i := i) (by omega)
    refine ⟨nI (chn nt A O t (i + 1)), rfl, ?_⟩
    show m_X2_tableOf_20 M k (nI t) (nI j) (n + 1) s (nI i) = _
    have hx := ((hC.2 (chn nt A O t i) (by omega)).1 (by omega)).2.1 (by omega)
    rw [hI, m_X2_tableOf_20, if_neg (nI_ge hi (by omega)), if_neg (nI_pos (by omega)), hC.1.1, if_neg (nI_ge h1 (by omega)), fp_inN (show chn nt A O t i < 9 by omega) (by decide), fp_gdt, fp_ltt, fp_ltt, nI_add, q_cl (by omega), hx]
    rfl) j 0 fp_fu (nI t) (by omega) (fu_lt (by omega)) rfl
  refine he.trans ?_
  show m_X2_tableOf_20 M k (nI t) (nI j) (n1 + 1) s1 (nI j) = _
  rw [m_X2_tableOf_20, if_pos (nI_le (Nat.le_refl _) (by omega)), m_X2_tableOf_51, hI]
theorem cc_without (hC : CC M k nt A O) (hn : nt ≤ 9) : ∃ x, m_X2_withoutChain M k = some x ∧ isM x (fun t => decide (t < nt) && decide (¬ dst nt A O t < 9)) := by
  obtain ⟨n1, s1, hI, he⟩ := loopI (fun n i s => m_X2_withoutChain_4 M k n s (nI i)) nt (fun i s => upM s i (fun t => decide (¬ dst nt A O t < 9))) (by
    intro n i s hi hI
    have hm := cc_moves hC (t := i) (by omega)
    by_cases hc : dst nt A O i < 9
    · refine ⟨s, upM_f hI (by simp [hc]), ?_⟩
      show m_X2_withoutChain_4 M k (n + 1) s (nI i) = _
      rw [m_X2_withoutChain_4, hC.1.1, if_neg (nI_ge hi (by omega)), fp_inN (show i < 9 by omega) (by decide), fp_gdt, q_cl (by omega), hm, if_neg (fun e => mvI_m1.mp e hc), m_X2_withoutChain_28, fp_ltt, nI_add]
    · refine ⟨_, upM_t hI (by omega) (by simp [hc]), ?_⟩
      show m_X2_withoutChain_4 M k (n + 1) s (nI i) = _
      rw [m_X2_withoutChain_4, hC.1.1, if_neg (nI_ge hi (by omega)), fp_inN (show i < 9 by omega) (by decide), fp_gdt, q_cl (by omega), hm, if_pos (mvI_m1.mpr hc), fp_ltt, m_X2_withoutChain_28, fp_ltt, nI_add]) nt 0 fp_fu (nI 0) (by omega) (fu_lt (by omega)) (upM_0 _)
  refine ⟨s1, ?_, hI⟩
  rw [m_X2_withoutChain]
  refine he.trans ?_
  show m_X2_withoutChain_4 M k (n1 + 1) s1 (nI nt) = _
  rw [m_X2_withoutChain_4, hC.1.1, if_pos (nI_le (Nat.le_refl _) (by omega))]
end CRD
/-- the first of the greatest: its place (or none), its value and one more (0: none yet) -/
def farS (v : Nat → Nat) : Nat → Option Nat × Nat
  | 0 => (none, 0)
  | n + 1 => if (farS v n).2 < v n + 1 then (some n, v n + 1) else farS v n
def oI : Option Nat → Int32
  | none => -1
  | some n => nI n
def dv (d : Nat) : Nat := if d < 9 then d else 1000
theorem farS_inv (v : Nat → Nat) : ∀ n, ((farS v n).1 = none ∧ (farS v n).2 = 0 ∧ n = 0) ∨ (∃ b, b < n ∧ (farS v n).1 = some b ∧ (farS v n).2 = v b + 1)
  | 0 => Or.inl ⟨rfl, rfl, rfl⟩
  | n + 1 => by
    right
    rw [farS]
    by_cases h : (farS v n).2 < v n + 1
    · rw [if_pos h]
      exact ⟨n, by omega, rfl, rfl⟩
    · rw [if_neg h]
      rcases farS_inv v n with ⟨h1, h2, h3⟩ | ⟨b, h1, h2, h3⟩
      · omega
      · exact ⟨b, by omega, h2, h3⟩
theorem farS_top {v : Nat → Nat} (hv : ∀ t, v t ≤ 1000) {n : Nat} (h : (farS v n).2 = 1001) : ∀ m, n ≤ m → farS v m = farS v n := by
  intro m hm
  obtain ⟨c, rfl⟩ : ∃ c, m = n + c := ⟨m - n, by omega⟩
  clear hm
  induction c with
  | zero => rfl
  | succ c ih =>
    rw [show n + (c + 1) = (n + c) + 1 from rfl, farS, ih, if_neg]
    have := hv (n + c)
    omega
theorem dv_le (d : Nat) : dv d ≤ 1000 := by
  unfold dv
  split <;> omega
theorem cc_farthest {M : fp_Mem} {k nt : Nat} {A : Nat → Nat → Bool} {O : Nat → Bool} (hC : CC M k nt A O) (hn : nt ≤ 9) : m_X2_farthest M k = some (oI (farS (fun t => dv (dst nt A O t)) nt).1) := by
  have key := loopE (fun n i s => m_X2_farthest_4 M k n s (nI i)) nt (fun i s => s = oI (farS (fun t => dv (dst nt A O t)) i).1 ∧ ∀ t, t < i → dst nt A O t < 9) (fun r => r = oI (farS (fun t => dv (dst nt A O t)) nt).1) (by
    rintro n i s hi ⟨hI, hall⟩
    have hm := cc_moves hC (t := i) (by omega)
    by_cases hc : dst nt A O i < 9
    · left
      have hinv := farS_inv (fun t => dv (dst nt A O t)) i
      have hmf : m_X2_movesFrom M k s = some (if (farS (fun t => dv (dst nt A O t)) i).2 = 0 then -1 else nI ((farS (fun t => dv (dst nt A O t)) i).2 - 1)) := by
        rcases hinv with ⟨h1, h2, h3⟩ | ⟨b, h1, h2, h3⟩
        · rw [hI, h1, h2]
          exact cc_movesFrom_m1
        · rw [hI, h2, h3]
          have := cc_movesFrom hC hn (t := b) (by omega)
          show m_X2_movesFrom M k (nI b) = _
          rw [this, mvI, if_pos (hall b h1), if_neg (by omega), dv, if_pos (hall b h1)]
          rfl
      have hle : (mvI (dst nt A O i) ≤ (if (farS (fun t => dv (dst nt A O t)) i).2 = 0 then -1 else nI ((farS (fun t => dv (dst nt A O t)) i).2 - 1))) ↔ ¬ (farS (fun t => dv (dst nt A O t)) i).2 < dv (dst nt A O i) + 1 := by
        rw [mvI, if_pos hc, dv, if_pos hc]
        by_cases h0 : (farS (fun t => dv (dst nt A O t)) i).2 = 0
        · rw [if_pos h0, h0]
          constructor
          · intro h
            have h2 := nI_pos' (n := dst nt A O i) (by omega)
            exact absurd (Int32.le_trans h2 h) (by decide)
          · intro h
            omega
        · rw [if_neg h0]
          have hb : (farS (fun t => dv (dst nt A O t)) i).2 - 1 < 2 ^ 31 := by
            rcases hinv with ⟨h1, h2, h3⟩ | ⟨b, h1, h2, h3⟩
            · omega
            · have := dv_le (dst nt A O b)
              omega
          rw [q_le (by omega) hb]
          constructor
          · intro h; omega
          · intro h; omega
      by_cases hcmp : (farS (fun t => dv (dst nt A O t)) i).2 < dv (dst nt A O i) + 1
      · refine ⟨nI i, ⟨by rw [farS, if_pos hcmp]; rfl, fun t ht => by by_cases e : t = i; (subst e; exact hc); exact hall t (by omega)⟩, ?_⟩
        show m_X2_farthest_4 M k (n + 1) s (nI i) = _
        rw [m_X2_farthest_4, hC.1.1, if_neg (nI_ge hi (by omega)), fp_inN (show i < 9 by omega) (by decide), fp_gdt, q_cl (by omega), hm, if_neg (fun e => mvI_m1.mp e hc), fp_gdt, hmf, fp_b1t, if_neg (fun e => hle.mp e hcmp), m_X2_farthest_40, fp_ltt, nI_add]
      · refine ⟨s, ⟨by rw [farS, if_neg hcmp]; exact hI, fun t ht => by by_cases e : t = i; (subst e; exact hc); exact hall t (by omega)⟩, ?_⟩
        show m_X2_farthest_4 M k (n + 1) s (nI i) = _
        rw [m_X2_farthest_4, hC.1.1, if_neg (nI_ge hi (by omega)), fp_inN (show i < 9 by omega) (by decide), fp_gdt, q_cl (by omega), hm, if_neg (fun e => mvI_m1.mp e hc), fp_gdt, hmf, fp_b1t, if_pos (hle.mpr hcmp), m_X2_farthest_40, fp_ltt, nI_add]
    · right
      refine ⟨nI i, ?_, ?_⟩
      · have hd : dv (dst nt A O i) = 1000 := if_neg hc
        have hlt : (farS (fun t => dv (dst nt A O t)) i).2 < 1001 := by
          rcases farS_inv (fun t => dv (dst nt A O t)) i with ⟨h1, h2, h3⟩ | ⟨b, h1, h2, h3⟩
          · omega
          · have hb := hall b h1
            rw [h3]
            show dv (dst nt A O b) + 1 < 1001
            rw [dv, if_pos hb]
            omega
        have hs : farS (fun t => dv (dst nt A O t)) (i + 1) = (some i, 1001) := by
          rw [farS, hd, if_pos hlt]
        rw [farS_top (fun t => dv_le _) (n := i + 1) (by rw [hs]) nt hi, hs]
        rfl
      · show m_X2_farthest_4 M k (n + 1) s (nI i) = _
        rw [m_X2_farthest_4, hC.1.1, if_neg (nI_ge hi (by omega)), fp_inN (show i < 9 by omega) (by decide), fp_gdt, q_cl (by omega), hm, if_pos (mvI_m1.mpr hc)])
    (by
      rintro n s ⟨hI, -⟩
      refine ⟨s, hI, ?_⟩
      show m_X2_farthest_4 M k (n + 1) s (nI nt) = _
      rw [m_X2_farthest_4, hC.1.1, if_pos (nI_le (Nat.le_refl _) (by omega))]) nt 0 fp_fu (-1) (by omega) (fu_lt (by omega)) ⟨rfl, fun t ht => absurd ht (Nat.not_lt_zero t)⟩
  obtain ⟨r, hr, he⟩ := key
  rw [m_X2_farthest]
  rw [← hr]
  exact he

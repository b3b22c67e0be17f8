/-! the program's chains: join, around, link, measure -/
/-- a realm of the program at k: nt tables, nw ways between fa and fb -/
def CR (M : fp_Mem) (k nt nw : Nat) (fa fb : Nat → Nat) : Prop := nt ≤ 9 ∧ nw ≤ 14 ∧ M k 3 = nI nt ∧ M k 4 = nI nw ∧ ∀ w, w < nw → M (k + 3) w = nI (fa w) ∧ M (k + 4) w = nI (fb w) ∧ fa w < nt ∧ fb w < nt ∧ fa w ≠ fb w
/-- who is joined, in the chains' row at k + 1 -/
def CJ (M : fp_Mem) (k nt : Nat) (A : Nat → Nat → Bool) : Prop := M k 0 = nI nt ∧ ∀ t, t < 9 → isM (M (k + 1) t) (A t)
theorem isM_adj_f {x : Int32} {sh : Int32} {fa fb : Nat → Nat} {w t : Nat} (h : isM x (adjN sh fa fb w t)) (ho : opn sh w = false) : isM x (adjN sh fa fb (w + 1) t) := isM_congr h (fun u _ => by simp [adjN, ho])
theorem c_join {M : fp_Mem} {k kr nt nw : Nat} {fa fb : Nat → Nat} {sh : Int32} (hR : CR M kr nt nw fa fb) (hk : kr ≠ k ∧ kr ≠ k + 1 ∧ kr + 3 ≠ k ∧ kr + 3 ≠ k + 1 ∧ kr + 4 ≠ k ∧ kr + 4 ≠ k + 1) :
    ∃ M', m_X2_join M k kr sh = some M' ∧ CJ M' k nt (adjN sh fa fb nw) ∧ fr (fun q => q = k ∨ q = k + 1) M M' := by
  obtain ⟨h9, h14, hr3, hr4, hw⟩ := hR
  obtain ⟨k1, k2, k3, k4, k5, k6⟩ := hk
  -- first the row is cleared
  obtain ⟨n1, M1, hI1, he1⟩ := loopI (fun n i s => m_X2_join_10 k kr sh n (nI i) s) 9 (fun i s => fr (fun q => q = k ∨ q = k + 1) M s ∧ s k 0 = nI nt ∧ ∀ t, t < i → s (k + 1) t = nI 0) (by
    rintro n i s hi ⟨f1, f2, f3⟩
    refine ⟨fp_set s (k + 1) i (nI 0), ⟨fr_tr f1 (fr_set (Or.inr rfl)), by rw [set_off (by omega)]; exact f2, fun t ht => ?_⟩, ?_⟩
    · rw [set_q]
      by_cases e : t = i
      · simp [e]
      · simp [e]; exact f3 t (by omega)
    · show m_X2_join_10 k kr sh (n + 1) (nI i) s = _
      rw [m_X2_join_10, if_neg (nI_ge hi (by decide)), fp_inN hi (by decide), fp_gdt, fp_ltt, fp_ltt, q_cl (by omega), nI_add]) 9 0 fp_fu (fp_set M k 0 (M kr 3)) rfl (fu_lt (by decide)) ⟨fr_set (Or.inl rfl), by rw [set_at, hr3], fun t ht => absurd ht (Nat.not_lt_zero t)⟩
  obtain ⟨f1, f2, f3⟩ := hI1
  have g4 : ∀ s : fp_Mem, fr (fun q => q = k ∨ q = k + 1) M s → s kr 4 = nI nw ∧ s kr 3 = nI nt ∧ ∀ w, w < nw → s (kr + 3) w = nI (fa w) ∧ s (kr + 4) w = nI (fb w) := fun s fs => ⟨by rw [fs kr (by omega)]; exact hr4, by rw [fs kr (by omega)]; exact hr3, fun w hw2 => ⟨by rw [fs (kr + 3) (by omega)]; exact (hw w hw2).1, by rw [fs (kr + 4) (by omega)]; exact (hw w hw2).2.1⟩⟩
  obtain ⟨n2, M2, hI2, he2⟩ := loopI (fun n i s => m_X2_join_31 k kr sh n (nI i) s) nw (fun i s => fr (fun q => q = k ∨ q = k + 1) M s ∧ s k 0 = nI nt ∧ ∀ t, t < 9 → isM (s (k + 1) t) (adjN sh fa fb i t)) (by
    rintro n i s hi ⟨e1, e2, e3⟩
    obtain ⟨s4, s3, sw⟩ := g4 s e1
    obtain ⟨a1, a2⟩ := sw i hi
    obtain ⟨-, -, b1, b2, b3⟩ := hw i hi
    have hi31 : i < 2 ^ 31 := by omega
    cases ho : opn sh i with
    | false =>
      refine ⟨s, ⟨e1, e2, fun t ht => isM_adj_f (e3 t ht) ho⟩, ?_⟩
      show m_X2_join_31 k kr sh (n + 1) (nI i) s = _
      rw [m_X2_join_31, s4, if_neg (nI_ge hi (by omega)), fp_inN (show i < 14 by omega) (by decide), fp_gdt, fp_ltt, fp_gdt, fp_ltt, if_neg (opn_f ho), m_X2_join_109, fp_ltt, nI_add]
    | true =>
      refine ⟨fp_set (fp_set s (k + 1) (fa i) (s (k + 1) (fa i) ||| ((nI 1) <<< (nI (fb i) &&& 31)))) (k + 1) (fb i) (s (k + 1) (fb i) ||| ((nI 1) <<< (nI (fa i) &&& 31))), ⟨fr_tr e1 (fr_tr (fr_set (Or.inr rfl)) (fr_set (Or.inr rfl))), by rw [set_off (by omega), set_off (by omega)]; exact e2, fun t ht => ?_⟩, ?_⟩
      · rw [set_q, set_q]
        by_cases c1 : t = fb i
        · rw [if_pos ⟨rfl, c1⟩]
          have hx := isM_or (e3 (fb i) (by omega)) (isM_bit (t := fa i) (by omega))
          refine isM_congr hx (fun u _ => ?_)
          subst c1
          have d1 : (fa i == fb i) = false := by simp [b3]
          have d2 : (u == fa i) = (fa i == u) := by rw [Bool.beq_comm]
          simp [adjN, ho, d1, d2]
        · rw [if_neg (by simp [c1])]
          by_cases c2 : t = fa i
          · rw [if_pos ⟨rfl, c2⟩]
            have hx := isM_or (e3 (fa i) (by omega)) (isM_bit (t := fb i) (by omega))
            refine isM_congr hx (fun u _ => ?_)
            subst c2
            have d1 : (fb i == fa i) = false := by simp; exact fun e => b3 e.symm
            have d2 : (u == fb i) = (fb i == u) := by rw [Bool.beq_comm]
            simp [adjN, ho, d1, d2]
          · rw [if_neg (by simp [c2])]
            refine isM_congr (e3 t ht) (fun u _ => ?_)
            have d1 : (fa i == t) = false := by simp; exact fun e => c2 e.symm
            have d2 : (fb i == t) = false := by simp; exact fun e => c1 e.symm
            simp [adjN, d1, d2]
      · show m_X2_join_31 k kr sh (n + 1) (nI i) s = _
        rw [m_X2_join_31, s4, if_neg (nI_ge hi (by omega)), fp_inN (show i < 14 by omega) (by decide), fp_gdt, fp_ltt, fp_gdt, fp_ltt, if_pos (opn_t ho), q_cl hi31, a1, a2, c_hasTable_y s3 h9 b1, fp_b1t, if_neg (by decide), c_hasTable_y s3 h9 b2, fp_b1t, if_neg (by decide), fp_inN (show fa i < 9 by omega) (by decide), fp_gdt, fp_gdt, fp_ltt, fp_inN (show fb i < 9 by omega) (by decide), fp_gdt, fp_gdt, fp_ltt, m_X2_join_109, fp_ltt, nI_add, q_cl (show fa i < 2 ^ 31 by omega), q_cl (show fb i < 2 ^ 31 by omega), set_q s, if_neg (by simp; exact fun e => b3 e.symm)]) nw 0 fp_fu M1 (by omega) (fu_lt (by omega)) ⟨f1, f2, fun t ht => by rw [f3 t ht]; exact isM_0⟩
  obtain ⟨e1, e2, e3⟩ := hI2
  refine ⟨M2, ?_, ⟨e2, e3⟩, e1⟩
  rw [m_X2_join, fp_ltt]
  refine he1.trans ?_
  show m_X2_join_10 k kr sh (n1 + 1) (nI 9) M1 = _
  rw [m_X2_join_10, if_pos (nI_le (Nat.le_refl _) (by decide))]
  refine he2.trans ?_
  show m_X2_join_31 k kr sh (n2 + 1) (nI nw) M2 = _
  rw [m_X2_join_31, (g4 M2 e1).1, if_pos (nI_le (Nat.le_refl _) (by omega))]
/-- around: who is joined to one of a set -/
theorem c_around {M : fp_Mem} {k nt : Nat} {A : Nat → Nat → Bool} (hJ : CJ M k nt A) (hn : nt ≤ 9) {x : Int32} {P : Nat → Bool} (hx : isM x P) : ∃ y, m_X2_around M k x = some y ∧ isM y (fun u => anyT (fun t => P t && A t u) nt) := by
  obtain ⟨h0, hj⟩ := hJ
  obtain ⟨n1, s1, hI, he⟩ := loopI (fun n i s => m_X2_around_4 M k x n s (nI i)) nt (fun i s => isM s (fun u => anyT (fun t => P t && A t u) i)) (by
    intro n i s hi hI
    have hi9 : i < 9 := by omega
    cases hp : P i with
    | false =>
      refine ⟨s, isM_congr hI (fun u _ => by simp [anyT, hp]), ?_⟩
      show m_X2_around_4 M k x (n + 1) s (nI i) = _
      rw [m_X2_around_4, h0, if_neg (nI_ge hi (by omega)), if_pos ((isM_tz hx hi9).mpr hp), m_X2_around_29, fp_ltt, nI_add]
    | true =>
      refine ⟨_, isM_congr (isM_or hI (hj i hi9)) (fun u _ => by simp [anyT, hp]), ?_⟩
      show m_X2_around_4 M k x (n + 1) s (nI i) = _
      rw [m_X2_around_4, h0, if_neg (nI_ge hi (by omega)), if_neg (fun e => by rw [(isM_tz hx hi9).mp e] at hp; cases hp), fp_inN hi9 (by decide), fp_gdt, fp_ltt, m_X2_around_29, fp_ltt, nI_add, q_cl (by omega)]) nt 0 fp_fu (nI 0) (by omega) (fu_lt (by omega)) isM_0
  refine ⟨s1, ?_, hI⟩
  rw [m_X2_around]
  refine he.trans ?_
  show m_X2_around_4 M k x (n1 + 1) s1 (nI nt) = _
  rw [m_X2_around_4, h0, if_pos (nI_le (Nat.le_refl _) (by omega))]

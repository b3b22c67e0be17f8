/-! where a guest could have come, as the sights have it; the best place to look -/
section SIGHT
variable {M : fp_Mem} {nt c : Nat} {A : Nat → Nat → Bool} {O : Nat → Bool}
def ttS (M : fp_Mem) (j : Nat) : Nat := Int32.toNatClampNeg (M 134 j)
def bbS (M : fp_Mem) (j : Nat) : Bool := decide (M 135 j = nI 1)
def badS (M : fp_Mem) (c nt : Nat) (A : Nat → Nat → Bool) (O : Nat → Bool) (t : Nat) : Bool := anyT (fun j => mvS nt A O t (ttS M j) != bbS M j) c
def fitS (M : fp_Mem) (c nt : Nat) (A : Nat → Nat → Bool) (O : Nat → Bool) (t : Nat) : Bool := decide (dst nt A O t < 9) && !badS M c nt A O t
/-- the sights' rows are good -/
def okS (M : fp_Mem) (nt c : Nat) : Prop := ∀ j, j < c → (∃ t, t < nt ∧ M 134 j = nI t) ∧ (M 135 j = nI 0 ∨ M 135 j = nI 1)
theorem ttS_is (hn : nt ≤ 9) (h : okS M nt c) {j : Nat} (hj : j < c) : M 134 j = nI (ttS M j) ∧ ttS M j < nt := by
  obtain ⟨⟨t, ht, e⟩, -⟩ := h j hj
  unfold ttS
  rw [e, q_cl (by omega)]
  exact ⟨rfl, ht⟩
theorem bbS_is (h : okS M nt c) {j : Nat} (hj : j < c) : M 135 j = nI (if bbS M j = true then 1 else 0) := by
  obtain ⟨-, e⟩ := h j hj
  unfold bbS
  rcases e with e | e
  · rw [e, decide_eq_false (by decide), if_neg (by decide)]
  · rw [e, decide_eq_true rfl, if_pos rfl]
theorem fit_iff (hn : nt ≤ 9) (h : okS M nt c) (mv : Nat → Bool) :
    ((∀ u, u < 9 → (anyT (fun j => decide (M 134 j = nI u ∧ M 135 j = nI 1)) c && !mv u) = false) ∧ (∀ u, u < 9 → (anyT (fun j => decide (M 134 j = nI u ∧ M 135 j = nI 0)) c && mv u) = false)) ↔ anyT (fun j => mv (ttS M j) != bbS M j) c = false := by
  constructor
  · rintro ⟨h1, h2⟩
    cases hb : anyT (fun j => mv (ttS M j) != bbS M j) c with
    | false => rfl
    | true =>
      obtain ⟨j, hj, h3⟩ := anyT_e hb
      obtain ⟨e1, e2⟩ := ttS_is hn h hj
      have e3 := bbS_is h hj
      cases hbb : bbS M j with
      | true =>
        rw [hbb] at h3 e3
        have hm : mv (ttS M j) = false := by cases hm : mv (ttS M j) with
          | false => rfl
          | true => rw [hm] at h3; cases h3
        have := h1 (ttS M j) (by omega)
        rw [anyT_y (u := j) hj (decide_eq_true ⟨e1, by rw [e3]; rfl⟩), hm] at this
        cases this
      | false =>
        rw [hbb] at h3 e3
        have hm : mv (ttS M j) = true := by cases hm : mv (ttS M j) with
          | true => rfl
          | false => rw [hm] at h3; cases h3
        have := h2 (ttS M j) (by omega)
        rw [anyT_y (u := j) hj (decide_eq_true ⟨e1, by rw [e3]; rfl⟩), hm] at this
        cases this
  · intro hb
    have nob : ∀ j, j < c → (mv (ttS M j) != bbS M j) = false := by
      intro j hj
      cases h3 : (mv (ttS M j) != bbS M j) with
      | false => rfl
      | true =>
        rw [anyT_y (P := fun j => mv (ttS M j) != bbS M j) hj h3] at hb
        cases hb
    have at' : ∀ j u, j < c → u < 9 → M 134 j = nI u → ttS M j = u := by
      intro j u hj hu e
      unfold ttS
      rw [e, q_cl (by omega)]
    refine ⟨fun u hu => ?_, fun u hu => ?_⟩
    · cases h1 : anyT (fun j => decide (M 134 j = nI u ∧ M 135 j = nI 1)) c with
      | false => rfl
      | true =>
        obtain ⟨j, hj, h3⟩ := anyT_e h1
        obtain ⟨e1, e2⟩ := of_decide_eq_true h3
        have h4 := nob j hj
        rw [at' j u hj hu e1, show bbS M j = true from decide_eq_true e2] at h4
        cases hm : mv u with
        | true => rfl
        | false => rw [hm] at h4; cases h4
    · cases h1 : anyT (fun j => decide (M 134 j = nI u ∧ M 135 j = nI 0)) c with
      | false => rfl
      | true =>
        obtain ⟨j, hj, h3⟩ := anyT_e h1
        obtain ⟨e1, e2⟩ := of_decide_eq_true h3
        have h4 := nob j hj
        rw [at' j u hj hu e1, show bbS M j = false from decide_eq_false (by rw [e2]; decide)] at h4
        cases hm : mv u with
        | false => rfl
        | true => rw [hm] at h4; cases h4
theorem c_fitting {M1 : fp_Mem} (hC : CC M1 16 nt A O) (hn : nt ≤ 9) (h : okS M nt c) (s1 : isM (M1 43 1) (fun u => anyT (fun j => decide (M 134 j = nI u ∧ M 135 j = nI 1)) c)) (s2 : isM (M1 43 2) (fun u => anyT (fun j => decide (M 134 j = nI u ∧ M 135 j = nI 0)) c)) :
    ∃ x, m_X8_fitting M1 16 = some x ∧ isM x (fun t => decide (t < nt) && fitS M c nt A O t) := by
  have r0 : M1 16 0 = nI nt := hC.1.1
  obtain ⟨n1, x, i1, he⟩ := loopI (fun n i s => m_X8_fitting_4 M1 16 n s (nI i)) nt (fun i s => upM s i (fitS M c nt A O)) (by
    intro n i s hi i1
    obtain ⟨y, p, q⟩ := cc_moversFrom hC hn hi
    have hm := cc_movesFrom hC hn hi
    have st : m_X8_fitting_4 M1 16 (n + 1) s (nI i) = if mvI (dst nt A O i) = (-1 : Int32) then m_X8_fitting_4 M1 16 n s (nI (i + 1)) else if ((M1 43 1) &&& (y ^^^ (-1 : Int32))) = 0 then (if ((M1 43 2) &&& y) = 0 then m_X8_fitting_4 M1 16 n (s ||| ((nI 1) <<< (nI i &&& 31))) (nI (i + 1)) else m_X8_fitting_4 M1 16 n s (nI (i + 1))) else m_X8_fitting_4 M1 16 n s (nI (i + 1)) := by
      rw [m_X8_fitting_4, r0, if_neg (nI_ge hi (by omega)), p, fp_b1t, hm, fp_b1t]
      simp only [m_X8_fitting_56, fp_ltt, nI_add]
    have hz := fit_iff hn h (mvS nt A O i)
    have z1 := isM_z (isM_diff s1 q)
    have z2 := isM_z (isM_and s2 q)
    by_cases h9 : dst nt A O i < 9
    · rw [mvI_lt h9, if_neg (fun e => by have := nI_pos (n := dst nt A O i) (by omega); rw [e] at this; exact this (by decide))] at st
      cases hb : badS M c nt A O i with
      | false =>
        obtain ⟨k1, k2⟩ := hz.mpr hb
        refine ⟨_, upM_t i1 (by omega) (by rw [fitS, decide_eq_true h9, hb]; rfl), ?_⟩
        refine st.trans ?_
        rw [if_pos (z1.mpr k1), if_pos (z2.mpr k2)]
      | true =>
        refine ⟨s, upM_f i1 (by rw [fitS, hb]; simp), ?_⟩
        refine st.trans ?_
        by_cases k1 : ((M1 43 1) &&& (y ^^^ (-1 : Int32))) = 0
        · rw [if_pos k1]
          by_cases k2 : ((M1 43 2) &&& y) = 0
          · have := hz.mp ⟨z1.mp k1, z2.mp k2⟩
            unfold badS at hb
            rw [this] at hb
            cases hb
          · rw [if_neg k2]
        · rw [if_neg k1]
    · refine ⟨s, upM_f i1 (by rw [fitS, decide_eq_false h9]; rfl), ?_⟩
      refine st.trans ?_
      rw [mvI_ge h9, if_pos rfl]) nt 0 fp_fu (nI 0) (by omega) (fu_lt (by omega)) (upM_0 _)
  refine ⟨x, ?_, i1⟩
  rw [m_X8_fitting]
  refine he.trans ?_
  show m_X8_fitting_4 M1 16 (n1 + 1) x (nI nt) = _
  rw [m_X8_fitting_4, r0, if_pos (nI_le (Nat.le_refl _) (by omega))]
theorem m_could_in {nw t : Nat} {fa fb : Nat → Nat} {v1 : Int32} (K8 : Int32 → Int32 → fp_Mem → Option (Int32 × fp_Mem)) (hC : MC M nt nw fa fb A O) (hc : c ≤ 6) (h27 : M 120 27 = nI c) (h : okS M nt c) (ht : t < nt) (h9 : dst nt A O t < 9) :
    ∀ (d i n : Nat), i + d = c → d + 1 < n → (∀ j, j < i → (mvS nt A O t (ttS M j) != bbS M j) = false) → m_X12_couldCome_37 K8 n v1 (nI t) (nI 1) (nI i) M = m_X12_couldCome_87 K8 v1 (nI t) (nI (if badS M c nt A O t = true then 0 else 1)) M
  | 0, i, n, hi, hd, hg => by
    obtain ⟨n, rfl⟩ : ∃ m, n = m + 1 := ⟨n - 1, by omega⟩
    have hb : badS M c nt A O t = false := by
      unfold badS
      cases h3 : anyT (fun j => mvS nt A O t (ttS M j) != bbS M j) c with
      | false => rfl
      | true =>
        obtain ⟨j, hj, h4⟩ := anyT_e h3
        rw [hg j (by omega)] at h4
        cases h4
    rw [m_X12_couldCome_37, h27, if_pos (nI_le (by omega) (by omega)), hb, if_neg (by decide)]
  | d + 1, i, n, hi, hd, hg => by
    obtain ⟨n, rfl⟩ : ∃ m, n = m + 1 := ⟨n - 1, by omega⟩
    have hn := hC.1.1
    obtain ⟨y, p, q⟩ := m_movers hC ht h9
    have hic : i < c := by omega
    obtain ⟨e1, e2⟩ := ttS_is hn h hic
    have e3 := bbS_is h hic
    have hh := m_has_eq (M := M) q (t := ttS M i) (by omega)
    rw [m_X12_couldCome_37, h27, if_neg (nI_ge hic (by omega)), if_neg (by decide), p, fp_b1t, fp_inN (show i < 6 by omega) (by decide), fp_gdt, q_cl (by omega), e1, hh, fp_b1t, fp_gdt, e3]
    cases hg2 : (mvS nt A O t (ttS M i) != bbS M i) with
    | false =>
      have heq : mvS nt A O t (ttS M i) = bbS M i := by
        cases h5 : mvS nt A O t (ttS M i) <;> cases h6 : bbS M i <;> rw [h5, h6] at hg2 <;> first | rfl | cases hg2
      rw [heq, if_pos rfl, m_X12_couldCome_80, fp_ltt, nI_add]
      exact m_could_in K8 hC hc h27 h ht h9 d (i + 1) n (by omega) (by omega) (fun j hj => by
        by_cases e : j = i
        · rw [e]; exact hg2
        · exact hg j (by omega))
    | true =>
      have hb : badS M c nt A O t = true := anyT_y (P := fun j => mvS nt A O t (ttS M j) != bbS M j) hic hg2
      have hne : ¬ nI (if mvS nt A O t (ttS M i) = true then 1 else 0) = nI (if bbS M i = true then 1 else 0) := by
        cases h5 : mvS nt A O t (ttS M i) <;> cases h6 : bbS M i <;> rw [h5, h6] at hg2 <;> first | decide | cases hg2
      rw [if_neg hne, m_X12_couldCome_80, fp_ltt, nI_add, hb, if_pos rfl]
      obtain ⟨n, rfl⟩ : ∃ m, n = m + 1 := ⟨n - 1, by omega⟩
      rw [m_X12_couldCome_37, if_pos (show nI 0 = 0 from rfl)]
      by_cases k : M 120 27 ≤ nI (i + 1)
      · rw [if_pos k]
      · rw [if_neg k]
theorem m_could {nw : Nat} {fa fb : Nat → Nat} (hC : MC M nt nw fa fb A O) (hc : c ≤ 6) (h27 : M 120 27 = nI c) (h : okS M nt c) :
    ∃ x, m_X12_couldCome_8 fp_fu (nI 0) (nI 0) M = some (x, M) ∧ isM x (fun t => decide (t < nt) && fitS M c nt A O t) := by
  have hn := hC.1.1
  have r2 := hC.1.2.2.1
  obtain ⟨n1, x, i1, he⟩ := loopI (fun n i s => m_X12_couldCome_8 n s (nI i) M) nt (fun i s => upM s i (fitS M c nt A O)) (by
    intro n i s hi i1
    have hv := hC.2.2 i (by omega)
    have h87 : ∀ b : Nat, b ≤ 1 → m_X12_couldCome_87 (m_X12_couldCome_8 n) s (nI i) (nI b) M = m_X12_couldCome_8 n (if b = 0 then s else s ||| ((nI 1) <<< (nI i &&& 31))) (nI (i + 1)) M := by
      intro b hb
      rw [m_X12_couldCome_87]
      by_cases h0 : b = 0
      · rw [h0, if_pos (by decide), m_X12_couldCome_99, fp_ltt, fp_ltt, or_0, nI_add, if_pos rfl]
      · rw [if_neg (by rw [q_eq0 (by omega)]; exact h0), m_X12_couldCome_99, fp_ltt, fp_ltt, nI_add, if_neg h0]
    by_cases h9 : dst nt A O i < 9
    · have st : m_X12_couldCome_8 (n + 1) s (nI i) M = m_X12_couldCome_87 (m_X12_couldCome_8 n) s (nI i) (nI (if badS M c nt A O i = true then 0 else 1)) M := by
        rw [m_X12_couldCome_8, r2, if_neg (nI_ge hi (by omega)), fp_inN (show i < 9 by omega) (by decide), fp_gdt, q_cl (by omega), hv, dv_lt _ h9, if_neg (by rw [q_le (by decide) (by omega)]; omega), m_X12_couldCome_33]
        exact m_could_in _ hC hc h27 h hi h9 c 0 fp_fu (by omega) (fu_lt (by omega)) (fun j hj => absurd hj (Nat.not_lt_zero j))
      cases hb : badS M c nt A O i with
      | false =>
        rw [hb, if_neg (by decide), h87 1 (Nat.le_refl _), if_neg (by decide)] at st
        exact ⟨_, upM_t i1 (by omega) (by rw [fitS, decide_eq_true h9, hb]; rfl), st⟩
      | true =>
        rw [hb, if_pos rfl, h87 0 (by decide), if_pos rfl] at st
        exact ⟨s, upM_f i1 (by rw [fitS, hb]; simp), st⟩
    · refine ⟨s, upM_f i1 (by rw [fitS, decide_eq_false h9]; rfl), ?_⟩
      show m_X12_couldCome_8 (n + 1) s (nI i) M = _
      rw [m_X12_couldCome_8, r2, if_neg (nI_ge hi (by omega)), fp_inN (show i < 9 by omega) (by decide), fp_gdt, q_cl (by omega), hv, dv_ge _ h9, if_pos (nI_le (Nat.le_refl _) (by decide)), m_X12_couldCome_33, fu_eq, m_X12_couldCome_37, if_pos (show nI 0 = 0 from rfl)]
      by_cases k : M 120 27 ≤ nI 0
      · rw [if_pos k, h87 0 (by decide), if_pos rfl]
      · rw [if_neg k, h87 0 (by decide), if_pos rfl]) nt 0 fp_fu (nI 0) (by omega) (fu_lt (by omega)) (upM_0 _)
  refine ⟨x, ?_, i1⟩
  refine he.trans ?_
  show m_X12_couldCome_8 (n1 + 1) x (nI nt) M = _
  rw [m_X12_couldCome_8, r2, if_pos (nI_le (Nat.le_refl _) (by omega))]
end SIGHT
/-- both: the same set, and its movers -/
theorem both_could {M : fp_Mem} {nt nw : Nat} {fa fb : Nat → Nat} {se si : Nat → Nat} (hP : InvP M nt nw fa fb) (hN : NR (M 123) se si) :
    ∃ M1 M2 x F A O, m_X2_measure M 16 8 13 = some M1 ∧ CC M1 16 nt A O ∧ m_X8_fitting M1 16 = some x ∧ m_X12_couldCome M1 = some (x, M2) ∧ MC M2 nt nw fa fb A O ∧ isM x F ∧ (∀ t, F t = true → t < nt ∧ dst nt A O t < 9) ∧ fp_Inv M2 := by
  have hP0 := hP
  obtain ⟨h1, h2, h3, h4, h5, h6, h7, h8, h9⟩ := hP
  obtain ⟨c, hc, s1, s2, s3, s4, s5⟩ := h6
  obtain ⟨M1, p1, C1, f1, K⟩ := both_away h3 h4.1 hN
  obtain ⟨M2, p2, C2, f2⟩ := K M1 f1
  have f12 := fr_tr f1 f2
  generalize adjN (M 123 19) fa fb nw = A at C1 C2
  generalize (fun t => decide (2 ≤ se t - si t)) = O at C1 C2
  have e43 : M1 43 = M 43 := f1 43 (by simp only [scr]; omega)
  have e134 : M2 134 = M 134 := f12 134 (by simp only [scr]; omega)
  have e135 : M2 135 = M 135 := f12 135 (by simp only [scr]; omega)
  have hok : okS M2 nt c := by
    unfold okS
    rw [e134, e135]
    exact s3
  obtain ⟨x, q1, q2⟩ := c_fitting (M := M2) (c := c) C1 h3.1.1 hok (by rw [e43, e134, e135]; exact s4) (by rw [e43, e134, e135]; exact s5)
  obtain ⟨y, q3, q4⟩ := m_could C2 hc (by rw [f12 120 (by simp only [scr]; omega)]; exact s2) hok
  have exy : y = x := isM_ext q4 q2 (fun _ _ => rfl)
  refine ⟨M1, M2, x, _, A, O, p1, C1, q1, ?_, C2, q2, fun t ht => ?_, InvS hP0 f12⟩
  · rw [m_X12_couldCome, p2, fp_b1t, q3, exy]
  · simp [fitS] at ht
    exact ⟨ht.1, ht.2.1⟩
theorem st_came {M : fp_Mem} (hI : fp_Inv M) : ok_came M := by
  obtain ⟨nt, nw, fa, fb, hP⟩ := hI
  obtain ⟨se, si, w, hN, -⟩ := hP.2.2.2.1.2
  obtain ⟨M1, M2, x, F, A, O, p1, C1, p2, p3, C2, q, hF, hIv⟩ := both_could hP hN
  exact ⟨x, M1, M2, by rw [m_X11_came, p1, fp_b1t, p2, fp_b1t], by rw [m_X12_came, p3, fp_b2t], hIv⟩

/-! the model's chains, read: nextOf, lastOf, movers, emergency, the chain's tables, far -/
/-- the model's row of distances is filled -/
def MC (M : fp_Mem) (nt nw : Nat) (fa fb : Nat → Nat) (A : Nat → Nat → Bool) (O : Nat → Bool) : Prop := MR M nt nw fa fb ∧ A = adjN (M 123 19) fa fb nw ∧ ∀ v, v < 9 → M 130 v = nI (dv (dst nt A O v))
section MCR
variable {M : fp_Mem} {nt nw : Nat} {fa fb : Nat → Nat} {A : Nat → Nat → Bool} {O : Nat → Bool}
theorem dv_lt (d : Nat) (h : d < 9) : dv d = d := if_pos h
theorem dv_ge (d : Nat) (h : ¬ d < 9) : dv d = 1000 := if_neg h
theorem m_nextOf (hC : MC M nt nw fa fb A O) {t : Nat} (ht : t < nt) (h0 : 0 < dst nt A O t) (h9 : dst nt A O t < 9) : m_X12_nextOf M (nI t) = some (nI (nxt nt A O t)) := by
  obtain ⟨hR, hA, hv⟩ := hC
  have hn := hR.1
  have hr1 := hR.2.2.1
  obtain ⟨x, hx1, hx2⟩ := m_joined hR (t := t) (by omega)
  rw [← hA] at hx2
  obtain ⟨g1, g2, g3⟩ := nxt_lt (A := A) (O := O) hn h0 h9
  have hno : ∀ u, u < nxt nt A O t → u < nt → ¬ (A t u = true ∧ dst nt A O u + 1 = dst nt A O t) := by
    rintro u hu hun ⟨q1, q2⟩
    have := lst_no (P := fun u => decide (u < nt) && (A t u && decide (dst nt A O u + 1 = dst nt A O t))) (j := u) hu
    simp [hun, q1, q2] at this
  have hd9 : ∀ v, dst nt A O v ≤ 9 := fun v => dst_le9 v
  have hcmp : ∀ u, u < nt → ((M 130 u = M 130 t - nI 1) ↔ dst nt A O u + 1 = dst nt A O t) := by
    intro u hu
    rw [hv u (by omega), hv t (by omega), dv_lt _ h9, q_sub (by omega), nI_eq (by have := dv_le (dst nt A O u); omega) (by omega)]
    by_cases hu9 : dst nt A O u < 9
    · rw [dv_lt _ hu9]
      omega
    · rw [dv_ge _ hu9]
      have := hd9 u
      omega
  have key := loopE (σ := Unit) (fun n i _ => m_X12_nextOf_8 M (nI t) n x (nI i)) (nxt nt A O t) (fun _ _ => True) (fun r => r = nI (nxt nt A O t)) (by
    intro n i _ hi _
    left
    refine ⟨(), trivial, ?_⟩
    show m_X12_nextOf_8 M (nI t) (n + 1) x (nI i) = _
    rw [m_X12_nextOf_8, hr1, if_neg (nI_ge (show i < nt by omega) (by omega)), m_has_eq hx2 (show i < 9 by omega), fp_b1t]
    cases ha : A t i with
    | false => rw [if_pos (by decide), m_X12_nextOf_43, fp_ltt, nI_add]
    | true =>
      rw [if_neg (by decide), fp_inN (show i < 9 by omega) (by decide), fp_gdt, fp_inN (show t < 9 by omega) (by decide), fp_gdt, q_cl (by omega), q_cl (by omega), if_neg (fun e => hno i hi (by omega) ⟨ha, (hcmp i (by omega)).mp e⟩), m_X12_nextOf_43, fp_ltt, nI_add]) (by
    intro n _ _
    refine ⟨nI (nxt nt A O t), rfl, ?_⟩
    show m_X12_nextOf_8 M (nI t) (n + 1) x (nI (nxt nt A O t)) = _
    rw [m_X12_nextOf_8, hr1, if_neg (nI_ge g1 (by omega)), m_has_eq hx2 (show nxt nt A O t < 9 by omega), fp_b1t, g2, if_neg (by decide), fp_inN (show nxt nt A O t < 9 by omega) (by decide), fp_gdt, fp_inN (show t < 9 by omega) (by decide), fp_gdt, q_cl (by omega), q_cl (by omega), if_pos ((hcmp _ g1).mpr g3)]) (nxt nt A O t) 0 fp_fu () (by omega) (fu_lt (by omega)) trivial
  obtain ⟨r, rfl, he⟩ := key
  rw [m_X12_nextOf, hx1, fp_b1t]
  exact he
theorem m_lastOf (hC : MC M nt nw fa fb A O) {t : Nat} (ht : t < nt) (h9 : dst nt A O t < 9) : m_X12_lastOf M (nI t) = some (nI (chn nt A O t (dst nt A O t))) := by
  have hn := hC.1.1
  have hv := hC.2.2
  obtain ⟨n1, s1, hI, he⟩ := loopI (fun n i s => m_X12_lastOf_2 M (nI t) n s) (dst nt A O t) (fun i s => s = nI (chn nt A O t i)) (by
    intro n i s hi hI
    obtain ⟨h1, h2⟩ := chn_dst (A := A) (O := O) hn h9 (i := i) (by omega)
    refine ⟨nI (chn nt A O t (i + 1)), rfl, ?_⟩
    show m_X12_lastOf_2 M (nI t) (n + 1) s = _
    rw [hI, m_X12_lastOf_2, fp_inN (show chn nt A O t i < 9 by omega) (by decide), fp_gdt, q_cl (by omega), hv _ (by omega), dv_lt _ (by omega), if_neg (nI_nle (by omega) (by omega)), m_nextOf hC h1 (by omega) (by omega), fp_b1t]
    rfl) (dst nt A O t) 0 fp_fu (nI t) (by omega) (fu_lt (by omega)) rfl
  obtain ⟨h1, h2⟩ := chn_dst (A := A) (O := O) hn h9 (i := dst nt A O t) (Nat.le_refl _)
  rw [m_X12_lastOf]
  refine he.trans ?_
  show m_X12_lastOf_2 M (nI t) (n1 + 1) s1 = _
  rw [hI, m_X12_lastOf_2, fp_inN (show chn nt A O t (dst nt A O t) < 9 by omega) (by decide), fp_gdt, q_cl (by omega), hv _ (by omega), dv_lt _ (by omega), show dst nt A O (chn nt A O t (dst nt A O t)) = 0 by omega, if_pos (by decide)]
/-- the i-th table, as chain() asks for it -/
theorem m_walk (hC : MC M nt nw fa fb A O) {t j : Nat} (ht : t < nt) (h9 : dst nt A O t < 9) (hj : j ≤ dst nt A O t) : m_X12_chain_64 (nI t) (nI j) fp_fu (nI t) (nI 0) M = some (nI (chn nt A O t j), M) := by
  have hn := hC.1.1
  obtain ⟨n1, s1, hI, he⟩ := loopI (fun n i s => m_X12_chain_64 (nI t) (nI j) n s (nI i) M) j (fun i s => s = nI (chn nt A O t i)) (by
    intro n i s hi hI
    obtain ⟨h1, h2⟩ := chn_dst (A := A) (O := O) hn h9 (i := i) (by omega)
    refine ⟨nI (chn nt A O t (i + 1)), rfl, ?_⟩
    show m_X12_chain_64 (nI t) (nI j) (n + 1) s (nI i) M = _
    rw [hI, m_X12_chain_64, if_neg (nI_ge hi (by omega)), m_nextOf hC h1 (by omega) (by omega), fp_b1t, fp_ltt, nI_add]
    rfl) j 0 fp_fu (nI t) (by omega) (fu_lt (by omega)) rfl
  refine he.trans ?_
  show m_X12_chain_64 (nI t) (nI j) (n1 + 1) s1 (nI j) M = _
  rw [m_X12_chain_64, if_pos (nI_le (Nat.le_refl _) (by omega)), hI]
end MCR
theorem mvr_chn {nt : Nat} {A : Nat → Nat → Bool} {O : Nat → Bool} : ∀ (i d t j : Nat), mvr nt A O (i + d) t j = (anyT (fun c => j == chn nt A O t c) i || mvr nt A O d (chn nt A O t i) j)
  | 0, d, t, j => by simp [anyT, chn]
  | i + 1, d, t, j => by
    rw [show i + 1 + d = i + (d + 1) by omega, mvr_chn i (d + 1) t j, mvr, anyT, chn, Bool.or_assoc]
theorem m_movers {M : fp_Mem} {nt nw : Nat} {fa fb : Nat → Nat} {A : Nat → Nat → Bool} {O : Nat → Bool} (hC : MC M nt nw fa fb A O) {t : Nat} (ht : t < nt) (h9 : dst nt A O t < 9) : ∃ x, m_X12_movers M (nI t) = some x ∧ isM x (mvS nt A O t) := by
  have hn := hC.1.1
  have hv := hC.2.2
  obtain ⟨n1, s1, ⟨i1, i2⟩, he⟩ := loopI (σ := Int32 × Int32) (fun n i s => m_X12_movers_4 M (nI t) n s.1 s.2) (dst nt A O t) (fun i s => s.2 = nI (chn nt A O t i) ∧ isM s.1 (fun j => anyT (fun c => j == chn nt A O t c) i)) (by
    rintro n i ⟨s, a⟩ hi ⟨i1, i2⟩
    dsimp only at i1 i2
    obtain ⟨h1, h2⟩ := chn_dst (A := A) (O := O) hn h9 (i := i) (by omega)
    refine ⟨(s ||| ((nI 1) <<< (nI (chn nt A O t i) &&& 31)), nI (chn nt A O t (i + 1))), ⟨rfl, isM_congr (isM_or i2 (isM_bit (t := chn nt A O t i) (by omega))) (fun j _ => by rw [anyT])⟩, ?_⟩
    show m_X12_movers_4 M (nI t) (n + 1) s a = _
    rw [i1, m_X12_movers_4, fp_inN (show chn nt A O t i < 9 by omega) (by decide), fp_gdt, q_cl (by omega), hv _ (by omega), dv_lt _ (by omega), if_neg (nI_nle (by omega) (by omega)), fp_ltt, m_nextOf hC h1 (by omega) (by omega), fp_b1t]
    rfl) (dst nt A O t) 0 fp_fu (nI 0, nI t) (by omega) (fu_lt (by omega)) ⟨rfl, isM_0⟩
  obtain ⟨h1, h2⟩ := chn_dst (A := A) (O := O) hn h9 (i := dst nt A O t) (Nat.le_refl _)
  obtain ⟨s, a⟩ := s1
  dsimp only at i1 i2
  refine ⟨s, ?_, ?_⟩
  · rw [m_X12_movers]
    refine he.trans ?_
    show m_X12_movers_4 M (nI t) (n1 + 1) s a = _
    rw [i1, m_X12_movers_4, fp_inN (show chn nt A O t (dst nt A O t) < 9 by omega) (by decide), fp_gdt, q_cl (by omega), hv _ (by omega), dv_lt _ (by omega), show dst nt A O (chn nt A O t (dst nt A O t)) = 0 by omega, if_pos (by decide)]
  · refine isM_congr i2 (fun j _ => ?_)
    unfold mvS
    rw [if_pos h9]
    have := mvr_chn (nt := nt) (A := A) (O := O) (dst nt A O t) 0 t j
    rw [Nat.add_zero] at this
    rw [this, mvr, Bool.or_false]
theorem m_emergency {M : fp_Mem} {nt nw : Nat} {fa fb : Nat → Nat} {A : Nat → Nat → Bool} {O : Nat → Bool} (hC : MC M nt nw fa fb A O) : ∃ x, m_X12_emergency_8 fp_fu (nI 0) (nI 0) M = some (x, M) ∧ isM x (fun t => decide (t < nt) && decide (¬ dst nt A O t < 9)) := by
  have hn := hC.1.1
  have hv := hC.2.2
  obtain ⟨n1, s1, hI, he⟩ := loopI (fun n i s => m_X12_emergency_8 n s (nI i) M) nt (fun i s => upM s i (fun t => decide (¬ dst nt A O t < 9))) (by
    intro n i s hi hI
    have hm := hv i (by omega)
    by_cases hc : dst nt A O i < 9
    · refine ⟨s, upM_f hI (by simp [hc]), ?_⟩
      show m_X12_emergency_8 (n + 1) s (nI i) M = _
      rw [m_X12_emergency_8, hC.1.2.2.1, if_neg (nI_ge hi (by omega)), fp_inN (show i < 9 by omega) (by decide), fp_gdt, q_cl (by omega), hm, dv_lt _ hc, if_neg (fun e => by rw [nI_eq (by omega) (by decide)] at e; omega), m_X12_emergency_36, fp_ltt, fp_ltt, nI_add, or_0]
    · refine ⟨_, upM_t hI (by omega) (by simp [hc]), ?_⟩
      show m_X12_emergency_8 (n + 1) s (nI i) M = _
      rw [m_X12_emergency_8, hC.1.2.2.1, if_neg (nI_ge hi (by omega)), fp_inN (show i < 9 by omega) (by decide), fp_gdt, q_cl (by omega), hm, dv_ge _ hc, if_pos rfl, m_X12_emergency_36, fp_ltt, fp_ltt, nI_add]) nt 0 fp_fu (nI 0) (by omega) (fu_lt (by omega)) (upM_0 _)
  refine ⟨s1, ?_, hI⟩
  refine he.trans ?_
  show m_X12_emergency_8 (n1 + 1) s1 (nI nt) M = _
  rw [m_X12_emergency_8, hC.1.2.2.1, if_pos (nI_le (Nat.le_refl _) (by omega))]
def mI (m : Nat) : Int32 := if m = 0 then -1 else nI (m - 1)
theorem m_far {M : fp_Mem} {nt nw : Nat} {fa fb : Nat → Nat} {A : Nat → Nat → Bool} {O : Nat → Bool} (hC : MC M nt nw fa fb A O) (p : Int32) : m_X12_far_24 p fp_fu (-1) (-1) (nI 0) M = some (if p = nI 1 then oI (farS (fun t => dv (dst nt A O t)) nt).1 else if (farS (fun t => dv (dst nt A O t)) nt).2 = 1001 then -1 else mI (farS (fun t => dv (dst nt A O t)) nt).2, M) := by
  have hn := hC.1.1
  have hv := hC.2.2
  obtain ⟨n1, s1, ⟨i1, i2⟩, he⟩ := loopI (σ := Int32 × Int32) (fun n i s => m_X12_far_24 p n s.1 s.2 (nI i) M) nt (fun i s => s.1 = oI (farS (fun t => dv (dst nt A O t)) i).1 ∧ s.2 = mI (farS (fun t => dv (dst nt A O t)) i).2) (by
    rintro n i ⟨b, m⟩ hi ⟨i1, i2⟩
    dsimp only at i1 i2
    have hm := hv i (by omega)
    have hdl := dv_le (dst nt A O i)
    have hle : (nI (dv (dst nt A O i)) ≤ m) ↔ ¬ (farS (fun t => dv (dst nt A O t)) i).2 < dv (dst nt A O i) + 1 := by
      rw [i2, mI]
      rcases farS_inv (fun t => dv (dst nt A O t)) i with ⟨h1, h2, h3⟩ | ⟨c, h1, h2, h3⟩
      · rw [if_pos h2, h2]
        constructor
        · intro h
          exact absurd (Int32.le_trans (nI_pos' (n := dv (dst nt A O i)) (by omega)) h) (by decide)
        · intro h
          omega
      · have := dv_le (dst nt A O c)
        rw [if_neg (by omega), h3, q_le (by omega) (by omega)]
        constructor
        · intro h; omega
        · intro h; omega
    by_cases hcmp : (farS (fun t => dv (dst nt A O t)) i).2 < dv (dst nt A O i) + 1
    · refine ⟨(nI i, nI (dv (dst nt A O i))), ⟨by rw [farS, if_pos hcmp]; rfl, by rw [farS, if_pos hcmp]; rfl⟩, ?_⟩
      show m_X12_far_24 p (n + 1) b m (nI i) M = _
      rw [m_X12_far_24, hC.1.2.2.1, if_neg (nI_ge hi (by omega)), fp_inN (show i < 9 by omega) (by decide), fp_gdt, q_cl (by omega), hm, if_neg (fun e => hle.mp e hcmp), m_X12_far_50, fp_inN (show i < 9 by omega) (by decide), fp_gdt, q_cl (by omega), hm, if_neg (fun e => hle.mp e hcmp), fp_gdt, m_X12_far_73, fp_ltt, nI_add]
    · refine ⟨(b, m), ⟨by rw [farS, if_neg hcmp]; exact i1, by rw [farS, if_neg hcmp]; exact i2⟩, ?_⟩
      show m_X12_far_24 p (n + 1) b m (nI i) M = _
      rw [m_X12_far_24, hC.1.2.2.1, if_neg (nI_ge hi (by omega)), fp_inN (show i < 9 by omega) (by decide), fp_gdt, q_cl (by omega), hm, if_pos (hle.mpr hcmp), m_X12_far_50, fp_inN (show i < 9 by omega) (by decide), fp_gdt, q_cl (by omega), hm, if_pos (hle.mpr hcmp), m_X12_far_73, fp_ltt, nI_add]) nt 0 fp_fu (-1, -1) (by omega) (fu_lt (by omega)) ⟨rfl, rfl⟩
  obtain ⟨b, m⟩ := s1
  dsimp only at i1 i2
  refine he.trans ?_
  show m_X12_far_24 p (n1 + 1) b m (nI nt) M = _
  rw [m_X12_far_24, hC.1.2.2.1, if_pos (nI_le (Nat.le_refl _) (by omega))]
  by_cases hp : p = nI 1
  · rw [if_pos hp, if_pos hp, m_X12_far_101, i1]
  · rw [if_neg hp, if_neg hp]
    have hm : (m = nI 1000) ↔ (farS (fun t => dv (dst nt A O t)) nt).2 = 1001 := by
      rw [i2, mI]
      rcases farS_inv (fun t => dv (dst nt A O t)) nt with ⟨h1, h2, h3⟩ | ⟨c, h1, h2, h3⟩
      · rw [if_pos h2, h2]
        exact ⟨fun e => absurd e (by decide), fun e => by omega⟩
      · have := dv_le (dst nt A O c)
        rw [if_neg (by omega), h3, nI_eq (by omega) (by decide)]
        omega
    by_cases hc : m = nI 1000
    · rw [if_pos hc, if_pos (hm.mp hc), m_X12_far_101]
    · rw [if_neg hc, if_neg (fun e => hc (hm.mpr e)), m_X12_far_101, i2]

/-! draws; drifting -/
theorem l_add (a b : Nat) : lN a + lN b = lN (a + b) := (Int64.ofNat_add a b).symm
theorem l_mul (a b : Nat) : lN a * lN b = lN (a * b) := (Int64.ofNat_mul a b).symm
theorem l_and (a b : Nat) : lN a &&& lN b = lN (a &&& b) := by
  apply Int64.toBitVec_inj.mp
  simp [lN, Int64.toBitVec_ofNat', BitVec.ofNat_and]
theorem l_toI {b : Nat} (h : b < 2 ^ 31) : Int64.toInt32 (lN b) = nI b := by
  rw [← nI_l h]
  exact lg_l2i_i2l _
theorem l_toInt {n : Nat} (h : n < 2 ^ 63) : (lN n).toInt = n := lg_ofNat_toInt h
theorem l_div {a d : Nat} (ha : a < 2 ^ 63) (h0 : 0 < d) (hd : d < 2 ^ 63) : lN a / lN d = lN (a / d) := by
  apply Int64.toInt_inj.mp
  rw [lg_ldiv_nonneg (by rw [l_toInt ha]; omega) (by rw [l_toInt hd]; omega), l_toInt ha, l_toInt hd, l_toInt (Nat.lt_of_le_of_lt (Nat.div_le_self a d) ha)]
  first | rfl | exact (Int.natCast_ediv _ _).symm
theorem l_sub {a b : Nat} (h : b ≤ a) : lN a - lN b = lN (a - b) := by
  obtain ⟨c, rfl⟩ : ∃ c, a = c + b := ⟨a - b, by omega⟩
  rw [← l_add, Int64.add_sub_cancel, Nat.add_sub_cancel]
theorem l_rem {a d : Nat} (ha : a < 2 ^ 63) (h0 : 0 < d) (hd : d < 2 ^ 63) : lN a - lN a / lN d * lN d = lN (a % d) := by
  rw [l_div ha h0 hd, l_mul, l_sub (Nat.div_mul_le_self a d)]
  exact congrArg lN (by have := Nat.div_add_mod' a d; omega)
def lcg (v : Nat) : Nat := (v * 1103515245 + 12345) % 2147483648
theorem lcg_lt (v : Nat) : lcg v < 2 ^ 31 := Nat.mod_lt _ (by decide)
theorem q_lcg1 {v : Nat} (hv : v < 2 ^ 31) : Int64.toInt32 ((((Int32.toInt64 (nI v)) * (lN 1103515245)) + (lN 12345)) &&& (lN 2147483647)) = nI (lcg v) := by
  rw [nI_l hv, l_mul, l_add, l_and, show (2147483647 : Nat) = 2 ^ 31 - 1 from rfl, Nat.and_two_pow_sub_one_eq_mod]
  exact l_toI (lcg_lt v)
theorem q_lcg2 {v : Nat} (hv : v < 2 ^ 31) : Int64.toInt32 ((((Int32.toInt64 (nI v)) * (lN 1103515245)) + (lN 12345)) - (((Int32.toInt64 (nI v)) * (lN 1103515245)) + (lN 12345)) / (lN 2147483648) * (lN 2147483648)) = nI (lcg v) := by
  rw [nI_l hv, l_mul, l_add, l_rem (by omega) (by decide) (by decide)]
  exact l_toI (lcg_lt v)
/-- the draw's next number: of it only this is used -/
def okL (L : Nat → Nat) : Prop := ∀ v, v < 2 ^ 31 → L v < 2 ^ 31 ∧ Int64.toInt32 ((((Int32.toInt64 (nI v)) * (lN 1103515245)) + (lN 12345)) &&& (lN 2147483647)) = nI (L v) ∧ Int64.toInt32 ((((Int32.toInt64 (nI v)) * (lN 1103515245)) + (lN 12345)) - (((Int32.toInt64 (nI v)) * (lN 1103515245)) + (lN 12345)) / (lN 2147483648) * (lN 2147483648)) = nI (L v)
theorem okL_is : ∃ L, okL L := ⟨lcg, fun v hv => ⟨lcg_lt v, q_lcg1 hv, q_lcg2 hv⟩⟩
def drw (L : Nat → Nat) (v p : Nat) : Nat := L v / 65536 % p
theorem drw_lt (L : Nat → Nat) (v : Nat) {p : Nat} (h : 0 < p) : drw L v p < p := Nat.mod_lt _ h
theorem fp_nzN {p : Nat} (h0 : 0 < p) (hp : p < 2 ^ 31) : fp_nz (nI p) = true := decide_eq_true (fun e => by
  have := (q_eq0 hp).mp e
  omega)
theorem c_draw {L : Nat → Nat} (hL : okL L) {M : fp_Mem} {v p : Nat} (hv : v < 2 ^ 31) (h : M 47 0 = nI v) (h0 : 0 < p) (hp : p < 2 ^ 31) : m_X3_draw M (nI p) = some (nI (drw L v p), fp_set M 47 0 (nI (L v))) := by
  obtain ⟨hl, k1, k2⟩ := hL v hv
  have hd : L v / 65536 < 2 ^ 31 := Nat.lt_of_le_of_lt (Nat.div_le_self _ _) hl
  rw [m_X3_draw, h, k1, fp_ltt, if_neg (by rw [q_le0 hp]; omega), fp_nzN h0 hp, fp_gdt, set_at, pk_div hl (by decide) (by decide), pk_rem hd h0 hp, m_X3_draw_39, drw]
theorem m_draw {L : Nat → Nat} (hL : okL L) {M : fp_Mem} {v p : Nat} (hv : v < 2 ^ 31) (h : M 120 6 = nI v) (h0 : 0 < p) (hp : p < 2 ^ 31) : m_X12_draw M (nI p) = some (nI (drw L v p), fp_set M 120 6 (nI (L v))) := by
  obtain ⟨hl, k1, k2⟩ := hL v hv
  have hd : L v / 65536 < 2 ^ 31 := Nat.lt_of_le_of_lt (Nat.div_le_self _ _) hl
  rw [m_X12_draw, h, k2, fp_ltt, fp_nzN h0 hp, fp_gdt, set_at, pk_div hl (by decide) (by decide), pk_rem hd h0 hp, drw]
def seF (f : Nat → Int32) (t : Nat) : Nat := Int32.toNatClampNeg (f t)
def siF (f : Nat → Int32) (t : Nat) : Nat := Int32.toNatClampNeg (f (9 + t))
theorem NR_F {f : Nat → Int32} {se si : Nat → Nat} (h : NR f se si) : NR f (seF f) (siF f) := fun t ht => by
  obtain ⟨a, b, c, d⟩ := h t ht
  unfold seF siF
  rw [a, b, q_cl (by omega), q_cl (by omega)]
  exact ⟨rfl, rfl, c, d⟩
theorem SV_F {nt : Nat} {f : Nat → Int32} (h : SV nt f) : NR f (seF f) (siF f) ∧ (∀ t, t < 9 → seF f t ≤ 20 ∧ (nt ≤ t → seF f t = 0 ∧ siF f t = 0)) ∧ ∃ w, f 18 = nI w ∧ w ≤ 99 := by
  obtain ⟨se, si, w, hN, hb, hw, hw9⟩ := h
  refine ⟨NR_F hN, fun t ht => ?_, w, hw, hw9⟩
  obtain ⟨a, b, c, d⟩ := hN t ht
  unfold seF siF
  rw [a, b, q_cl (by omega), q_cl (by omega)]
  exact hb t ht
theorem sub_0 (x : Int32) : x - nI 0 = x := by
  have : nI 0 = 0 := rfl
  rw [this, Int32.sub_zero]
/-- one who drifts: the row of a state, one who goes from t -/
def oR (f : Nat → Int32) (t : Nat) : Nat → Int32 := fun j => if j = 9 + t then f j - (if f j ≤ 0 then nI 0 else nI 1) else f j
def dR (L : Nat → Nat) (nt nw : Nat) (fa fb : Nat → Nat) (fine : Int32) (x : Nat × (Nat → Int32)) : Nat × (Nat → Int32) :=
  (L (L x.1), if drw L (L x.1) 3 = 0 then oR x.2 (drw L x.1 nt) else (gR nt (adjN (x.2 19) fa fb nw) (seF x.2) (siF x.2) fine x.2 (drw L x.1 nt)).2)
def dRn (L : Nat → Nat) (nt nw : Nat) (fa fb : Nat → Nat) (fine : Int32) (x : Nat × (Nat → Int32)) : Nat → Nat × (Nat → Int32)
  | 0 => x
  | n + 1 => dR L nt nw fa fb fine (dRn L nt nw fa fb fine x n)
theorem oR_SV {nt t : Nat} {f : Nat → Int32} (h : SV nt f) (ht : t < 9) : SV nt (oR f t) := by
  obtain ⟨se, si, w, hN, hb, hw, hw9⟩ := h
  refine ⟨se, fun u => if u = t then si t - 1 else si u, w, fun u hu => ?_, fun u hu => ⟨(hb u hu).1, fun q => ⟨((hb u hu).2 q).1, ?_⟩⟩, ?_, hw9⟩
  · obtain ⟨a, b, c, d⟩ := hN u hu
    show (if u = 9 + t then _ else _) = _ ∧ (if 9 + u = 9 + t then _ else _) = nI (if u = t then si t - 1 else si u) ∧ (if u = t then si t - 1 else si u) ≤ _ ∧ _
    rw [if_neg (by omega)]
    by_cases e : u = t
    · subst e
      rw [if_pos rfl, if_pos rfl, b]
      refine ⟨a, ?_, by omega, d⟩
      by_cases h0 : si u = 0
      · rw [h0, if_pos (by decide)]; rfl
      · rw [if_neg (by rw [q_le0 (by omega)]; exact h0), q_sub (by omega)]
    · rw [if_neg (by omega), if_neg e]
      exact ⟨a, b, c, d⟩
  · show (if u = t then si t - 1 else si u) = 0
    have := ((hb u hu).2 q).2
    by_cases e : u = t
    · rw [if_pos e, ← e, this]
    · rw [if_neg e, this]
  · show (if 18 = 9 + t then _ else _) = _
    by_cases e : 18 = 9 + t
    · omega
    · rw [if_neg e]; exact hw
theorem dR_SV {L : Nat → Nat} {nt nw : Nat} {fa fb : Nat → Nat} {fine : Int32} {x : Nat × (Nat → Int32)} (hn : nt ≤ 9) (h0 : 0 < nt) (h : SV nt x.2) : SV nt (dR L nt nw fa fb fine x).2 := by
  have ht : drw L x.1 nt < nt := drw_lt L _ h0
  show SV nt (if _ then _ else _)
  by_cases e : drw L (L x.1) 3 = 0
  · rw [if_pos e]
    exact oR_SV h (by omega)
  · rw [if_neg e]
    obtain ⟨hN, hb, w, hw, hw9⟩ := SV_F h
    exact gR_SV hn ht hN hb hw hw9
theorem dRn_SV {L : Nat → Nat} (hL : okL L) {nt nw : Nat} {fa fb : Nat → Nat} {fine : Int32} {x : Nat × (Nat → Int32)} (hn : nt ≤ 9) (h0 : 0 < nt) (h : SV nt x.2) (hv : x.1 < 2 ^ 31) : ∀ n, SV nt (dRn L nt nw fa fb fine x n).2 ∧ (dRn L nt nw fa fb fine x n).1 < 2 ^ 31
  | 0 => ⟨h, hv⟩
  | n + 1 => ⟨dR_SV hn h0 (dRn_SV hL hn h0 h hv n).1, (hL _ (hL _ (dRn_SV hL hn h0 h hv n).2).1).1⟩
theorem SR_set47 {M : fp_Mem} {f : Nat → Int32} (h : SR M 13 f) (x : Int32) : SR (fp_set M 47 0 x) 13 f := SR_fr (P := fun q => q = 47) h (fr_set rfl) (by omega) (by omega) (by omega)
theorem c_dstep {L : Nat → Nat} (hL : okL L) {M : fp_Mem} {nt nw v : Nat} {fa fb : Nat → Nat} {f : Nat → Int32} {p4 v5 : Int32} (hR : CR M 8 nt nw fa fb) (h0 : 0 < nt) (hv : v < 2 ^ 31) (hs : M 47 0 = nI v) (hS : SR M 13 f) (hV : SV nt f) (hp : ¬ p4 ≤ v5) (n : Nat) :
    ∃ M', m_X0_drifts_11 21 8 13 p4 (n + 1) v5 M = m_X0_drifts_11 21 8 13 p4 n (v5 + nI 1) M' ∧ M' 47 0 = nI (dR L nt nw fa fb (M 8 1) (v, f)).1 ∧ SR M' 13 (dR L nt nw fa fb (M 8 1) (v, f)).2 ∧ fr (fun q => q = 47 ∨ (13 ≤ q ∧ q < 16) ∨ scr q) M M' := by
  have hn := hR.1
  have ht : drw L v nt < nt := drw_lt L _ h0
  have h83 : M 8 3 = nI nt := hR.2.2.1
  have hl := (hL v hv).1
  have e1 : fp_set (fp_set M 47 0 (nI (L v))) 47 0 (nI (L (L v))) 47 0 = nI (L (L v)) := set_at _ _ _ _
  have S2 := SR_set47 (SR_set47 hS (nI (L v))) (nI (L (L v)))
  have f2 : fr (fun q => q = 47) M (fp_set (fp_set M 47 0 (nI (L v))) 47 0 (nI (L (L v)))) := fr_tr (fr_set rfl) (fr_set rfl)
  rw [m_X0_drifts_11, if_neg hp, h83, c_draw hL hv hs h0 (by omega), fp_b2t, c_draw hL hl (set_at _ _ _ _) (by decide) (by decide), fp_b2t]
  generalize fp_set (fp_set M 47 0 (nI (L v))) 47 0 (nI (L (L v))) = M6 at e1 S2 f2 ⊢
  have h68 : M6 8 3 = nI nt := by rw [f2 8 (by omega)]; exact h83
  unfold dR
  by_cases e : drw L (L v) 3 = 0
  · rw [if_pos (by rw [e]; rfl), if_pos e, c_hasTable_y h68 hn ht, fp_b1t, if_neg (by decide), fp_inN (show drw L v nt < 9 by omega) (by decide), fp_gdt, fp_gdt, fp_gdt, q_cl (by omega), (S2.1 _ (by omega)).2]
    generalize hq : drw L v nt = t at ht ⊢
    by_cases c : f (9 + t) ≤ 0
    · refine ⟨M6, ?_, e1, SR_congr S2 (fun j hj => ?_), fr_mono f2 (fun q h => Or.inl h)⟩
      · rw [if_pos c, m_X0_drifts_78, fp_ltt]
      · show f j = if j = 9 + t then f j - (if f j ≤ 0 then nI 0 else nI 1) else f j
        by_cases e2 : j = 9 + t
        · rw [if_pos e2, e2, if_pos c, sub_0]
        · rw [if_neg e2]
    · refine ⟨fp_set M6 15 t (f (9 + t) - nI 1), ?_, ?_, ?_, fr_tr (fr_mono f2 (fun q h => Or.inl h)) (fr_set (by omega))⟩
      · rw [if_neg c, fp_ltt, m_X0_drifts_78, fp_ltt]
      · rw [set_off (by decide), e1]
      · obtain ⟨a, b1, b2, b3, b4, b5, b6, b7⟩ := S2
        refine ⟨fun u hu => ⟨?_, ?_⟩, ?_, ?_, ?_, ?_, ?_, ?_, ?_⟩
        all_goals simp only [set_q, oR]
        · rw [if_neg (by omega), if_neg (by omega)]; exact (a u hu).1
        · by_cases e : u = t
          · rw [if_pos ⟨trivial, e⟩, if_pos (by omega), e, if_neg c]
          · rw [if_neg (fun h => e h.2), if_neg (by omega)]; exact (a u hu).2
        · rw [if_neg (by omega), if_neg (by omega)]; exact b1
        · rw [if_neg (by omega), if_neg (by omega)]; exact b2
        · rw [if_neg (by omega), if_neg (by omega)]; exact b3
        · rw [if_neg (by omega), if_neg (by omega)]; exact b4
        · rw [if_neg (by omega), if_neg (by omega)]; exact b5
        · rw [if_neg (by omega), if_neg (by omega)]; exact b6
        · rw [if_neg (by omega), if_neg (by omega)]; exact b7
  · obtain ⟨hN, hb, w, hw, hw9⟩ := SV_F hV
    have hR6 : CR M6 8 nt nw fa fb := by
      unfold CR
      rw [f2 8 (by omega), f2 (8 + 3) (by omega), f2 (8 + 4) (by omega)]
      exact hR
    obtain ⟨M', p2, s2, f3⟩ := c_guest (k := 21) hR6 S2 hN ht (by omega) (by omega) (by omega)
    rw [f2 8 (by omega)] at p2 s2
    refine ⟨M', ?_, ?_, ?_, fr_tr (fr_mono f2 (fun q h => Or.inl h)) (fr_mono f3 (fun q h => by simp only [scr]; omega))⟩
    · rw [if_neg (by rw [q_eq0 (by have := drw_lt L (L v) (p := 3) (by decide); omega)]; exact e), p2, fp_b2t, m_X0_drifts_78, fp_ltt]
    · rw [f3 47 (by omega), e1]
    · rw [if_neg e]
      exact s2
theorem m_dstep {L : Nat → Nat} (hL : okL L) {M : fp_Mem} {nt nw v : Nat} {fa fb : Nat → Nat} {f : Nat → Int32} (hR : MR M nt nw fa fb) (h0 : 0 < nt) (hv : v < 2 ^ 31) (hs : M 120 6 = nI v) (hS : RW M f) (hV : SV nt f) :
    ∃ M', m_X12_chance M = some M' ∧ M' 120 6 = nI (dR L nt nw fa fb (M 120 0) (v, f)).1 ∧ RW M' (dR L nt nw fa fb (M 120 0) (v, f)).2 ∧ (∀ j, j ≠ 6 → M' 120 j = M 120 j) ∧ fr (fun q => q = 123 ∨ q = 120 ∨ scr q) M M' := by
  have hn := hR.1
  have ht : drw L v nt < nt := drw_lt L _ h0
  have h83 : M 120 1 = nI nt := hR.2.2.1
  have hl := (hL v hv).1
  have e1 : fp_set (fp_set M 120 6 (nI (L v))) 120 6 (nI (L (L v))) 120 6 = nI (L (L v)) := set_at _ _ _ _
  have f2 : fr (fun q => q = 120) M (fp_set (fp_set M 120 6 (nI (L v))) 120 6 (nI (L (L v)))) := fr_tr (fr_set rfl) (fr_set rfl)
  have g2 : ∀ j, j ≠ 6 → (fp_set (fp_set M 120 6 (nI (L v))) 120 6 (nI (L (L v)))) 120 j = M 120 j := fun j hj => by rw [set_ne hj, set_ne hj]
  rw [m_X12_chance, h83, m_draw hL hv hs h0 (by omega), fp_b2t, m_draw hL hl (set_at _ _ _ _) (by decide) (by decide), fp_b2t]
  generalize fp_set (fp_set M 120 6 (nI (L v))) 120 6 (nI (L (L v))) = M6 at e1 g2 f2 ⊢
  have S2 : RW M6 f := fun j hj => by rw [f2 123 (by decide)]; exact hS j hj
  unfold dR
  by_cases e : drw L (L v) 3 = 0
  · rw [if_pos (by rw [e]; rfl), if_pos e, nI_add, fp_inN (show 9 + drw L v nt < 25 by omega) (by decide), fp_gdt, fp_gdt, q_cl (by omega), S2 _ (by omega)]
    generalize hq : drw L v nt = t at ht ⊢
    have key : ∀ x, (x = if f (9 + t) ≤ 0 then nI 0 else nI 1) → ∃ M', m_X12_chance_46 (nI (9 + t)) (f (9 + t)) x M6 = some M' ∧ M' 120 6 = nI (L (L v)) ∧ RW M' (oR f t) ∧ (∀ j, j ≠ 6 → M' 120 j = M 120 j) ∧ fr (fun q => q = 123 ∨ q = 120 ∨ scr q) M M' := by
      intro x hx
      refine ⟨fp_set M6 123 (9 + t) (f (9 + t) - x), ?_, ?_, fun j hj => ?_, fun j hj => ?_, fr_tr (fr_mono f2 (fun q h => Or.inr (Or.inl h))) (fr_set (Or.inl rfl))⟩
      · rw [m_X12_chance_46, fp_inN (show 9 + t < 25 by omega) (by decide), fp_gdt, fp_ltt, q_cl (by omega), m_X12_chance_57]
      · rw [set_off (by decide), e1]
      · rw [set_q]
        unfold oR
        by_cases e2 : j = 9 + t
        · rw [if_pos ⟨rfl, e2⟩, if_pos e2, e2, hx]
        · rw [if_neg (fun q => e2 q.2), if_neg e2]
          exact S2 j hj
      · rw [set_off (by decide), g2 j hj]
    by_cases c : f (9 + t) ≤ 0
    · rw [if_pos c]
      exact key _ (by rw [if_pos c])
    · rw [if_neg c]
      exact key _ (by rw [if_neg c])
  · obtain ⟨hN, hb, w, hw, hw9⟩ := SV_F hV
    have hR6 : MR M6 nt nw fa fb := by
      unfold MR
      rw [f2 121 (by decide), f2 122 (by decide), g2 1 (by decide), g2 2 (by decide)]
      exact hR
    obtain ⟨M', p2, s2, f3⟩ := m_guest hR6 S2 hN ht
    rw [g2 0 (by decide)] at p2 s2
    refine ⟨M', ?_, ?_, ?_, fun j hj => ?_, fr_tr (fr_mono f2 (fun q h => Or.inr (Or.inl h))) (fr_mono f3 (fun q h => by simp only [scr]; omega))⟩
    · rw [if_neg (by rw [q_eq0 (by have := drw_lt L (L v) (p := 3) (by decide); omega)]; exact e), p2, fp_b2t, m_X12_chance_57]
    · rw [f3 120 (by decide), e1]
    · rw [if_neg e]
      exact s2
    · rw [f3 120 (by decide), g2 j hj]
theorem sum_both {M M2 : fp_Mem} {nt : Nat} {f : Nat → Int32} (hn : nt ≤ 9) (hS : SR M 13 f) (hR : RW M2 f) (hV : SV nt f) : isum (M (13 + 2)) 9 = isum (fun t => M2 123 (9 + t)) nt := by
  obtain ⟨se, si, w, hN, hb, hw, hw9⟩ := hV
  have hm : isum (M (13 + 2)) (nt + (9 - nt)) = isum (M (13 + 2)) nt := by
    apply isum_more
    intro i h1 h2
    rw [(hS.1 i (by omega)).2, (hN i (by omega)).2.1, ((hb i (by omega)).2 h1).2]
  rw [show nt + (9 - nt) = 9 by omega] at hm
  rw [hm]
  exact isum_ext (fun i hi => by rw [(hS.1 i (by omega)).2, hR (9 + i) (by omega)])
theorem st_drift {M : fp_Mem} (hI : fp_Inv M) (a1 : Int32) : ok_drift M a1 := by
  have hI0 := hI
  obtain ⟨nt, nw, fa, fb, hP⟩ := hI
  have hP0 := hP
  obtain ⟨h1, h2, h3, h4, h5, h6, h7, h8, h9⟩ := hP
  obtain ⟨hS, hV⟩ := id h4
  obtain ⟨L, hL⟩ := okL_is
  have hn := h3.1.1
  have r1 : M 8 3 = nI nt := h3.1.2.2.1
  have r2 : M 120 1 = nI nt := h3.2.1.2.2.1
  have r0 : M 8 0 = M 120 7 := h3.2.2.2.1
  have r3 : M 13 8 = M 123 24 := hS.2.2.2.2.2.2.2
  have hin : (∃ c, 1 ≤ c ∧ c ≤ 60 ∧ a1 = nI c) ∨ (a1 < nI 1 ∨ ¬ a1 < nI 1 ∧ nI 60 < a1) := by
    rcases q_rng a1 (b := 60) (by decide) with ⟨c, hc, rfl⟩ | hout
    · by_cases h0 : c = 0
      · exact Or.inr (Or.inl (by rw [h0]; decide))
      · exact Or.inl ⟨c, by omega, hc, rfl⟩
    · rcases hout with h | ⟨ha, hb⟩
      · exact Or.inr (Or.inl (Int32.lt_of_lt_of_le h (by decide)))
      · refine Or.inr (Or.inr ⟨?_, hb⟩)
        obtain ⟨j, hj, rfl⟩ := nI_of ha
        rw [q_lt (by decide) hj] at hb
        rw [q_lt hj (by decide)]
        omega
  rcases hin with ⟨c, hc1, hc, rfl⟩ | hout
  · have k1 : ¬ nI c < nI 1 := by rw [q_lt (by omega) (by decide)]; omega
    by_cases hz : M 8 0 = 0
    · refine ⟨(-1000000003 : Int32), M, M, ?_, ?_, hI0⟩
      · rw [m_X11_drift, if_neg k1, if_pos (nI_le hc (by decide)), if_pos hz]
      · rw [m_X12_drift, q_in_y hc1 hc (by decide), fp_b1t, if_neg (by decide), if_pos (by rw [← r0]; exact hz)]
    · by_cases hfull : M 123 24 ≤ nI 9000
      · obtain ⟨M1, p1, f1, K⟩ := both_push h8 h4
        obtain ⟨sd, hsd, d1, d2⟩ := id h5
        have h3a := realm1 h3 f1
        have S1 := SR_fr hS f1 (by omega) (by omega) (by omega)
        have c1 : M1 47 0 = nI sd := by rw [f1 47 (by omega)]; exact d1
        generalize hm : (if 0 < nt then c else 0) = m
        have hmc : m ≤ c := by
          rw [← hm]
          by_cases h : 0 < nt
          · rw [if_pos h]; exact Nat.le_refl _
          · rw [if_neg h]; omega
        have hD : ∀ i, (0 < nt ∨ i = 0) → SV nt (dRn L nt nw fa fb (M 8 1) (sd, M 123) i).2 ∧ (dRn L nt nw fa fb (M 8 1) (sd, M 123) i).1 < 2 ^ 31 := by
          intro i hi
          rcases hi with h | h
          · exact dRn_SV hL hn h hV hsd i
          · subst h; exact ⟨hV, hsd⟩
        have hDm := hD m (by
          by_cases h : 0 < nt
          · exact Or.inl h
          · rw [if_neg h] at hm; exact Or.inr hm.symm)
        have hcl : ∃ M1', m_X0_drifts M1 21 8 13 (nI c) = some M1' ∧ M1' 47 0 = nI (dRn L nt nw fa fb (M 8 1) (sd, M 123) m).1 ∧ SR M1' 13 (dRn L nt nw fa fb (M 8 1) (sd, M 123) m).2 ∧ fr (fun q => q = 47 ∨ (13 ≤ q ∧ q < 16) ∨ scr q) M1 M1' := by
          rw [m_X0_drifts, show M1 8 3 = nI nt from h3a.1.2.2.1]
          by_cases h0 : 0 < nt
          · rw [if_pos h0] at hm
            subst hm
            rw [if_pos (by rw [q_0lt (by omega)]; exact h0)]
            obtain ⟨n1, M1', ⟨i1, i2, i3⟩, he⟩ := loopI (fun n i s => m_X0_drifts_11 21 8 13 (nI c) n (nI i) s) c (fun i s => s 47 0 = nI (dRn L nt nw fa fb (M 8 1) (sd, M 123) i).1 ∧ SR s 13 (dRn L nt nw fa fb (M 8 1) (sd, M 123) i).2 ∧ fr (fun q => q = 47 ∨ (13 ≤ q ∧ q < 16) ∨ scr q) M1 s) (by
              rintro n i s hi ⟨i1, i2, i3⟩
              obtain ⟨g1, g2⟩ := hD i (Or.inl h0)
              have hfine : s 8 1 = M 8 1 := by rw [i3 8 (by simp only [scr]; omega), f1 8 (by omega)]
              have h3s := realmS h3a (fr_mono i3 (fun q h => by simp only [scr] at h ⊢; omega))
              obtain ⟨s', q1, q2, q3, q4⟩ := c_dstep hL (p4 := nI c) (v5 := nI i) h3s.1 h0 g2 i1 i2 g1 (nI_ge hi (by omega)) n
              rw [hfine] at q2 q3
              exact ⟨s', ⟨q2, q3, fr_tr i3 q4⟩, by
                show m_X0_drifts_11 21 8 13 (nI c) (n + 1) (nI i) s = _
                rw [q1, nI_add]⟩) c 0 fp_fu M1 (by omega) (fu_lt (by omega)) ⟨c1, S1, fr_rf⟩
            refine ⟨M1', ?_, i1, i2, i3⟩
            refine he.trans ?_
            show m_X0_drifts_11 21 8 13 (nI c) (n1 + 1) (nI c) M1' = _
            rw [m_X0_drifts_11, if_pos (nI_le (Nat.le_refl _) (by omega))]
          · rw [if_neg h0] at hm
            subst hm
            rw [if_neg (by rw [q_0lt (by omega)]; exact h0)]
            exact ⟨M1, rfl, c1, S1, fr_rf⟩
        obtain ⟨M1', p2, e47, s2, f2⟩ := hcl
        have f2' : fr (fun q => (13 ≤ q ∧ q < 16) ∨ q = 47 ∨ scr q) M1 M1' := fr_mono f2 (fun q h => by simp only [scr] at h ⊢; omega)
        have e12 : ∀ q, q = 120 ∨ q = 123 ∨ q = 131 → M1' q = M q := fun q hq => by rw [f2 q (by simp only [scr]; omega), f1 q (by omega)]
        obtain ⟨M2, p3, f3, g3, hH⟩ := K M1' (e12 120 (by omega)) (e12 123 (by omega)) (e12 131 (by omega))
        have h3b := realm2 (realmS h3a (fr_mono f2' (fun q h => by simp only [scr] at h ⊢; omega))) f3 g3
        have R2 : RW M2 (M 123) := fun j _ => by rw [f3 123 (by omega), e12 123 (by omega)]
        have d26 : M2 120 6 = nI sd := by rw [g3 6 (by decide), e12 120 (by omega)]; exact d2
        have hfin2 : M2 120 0 = M 8 1 := by rw [g3 0 (by decide), e12 120 (by omega), h3.2.2.1]
        have hmo : ∃ M2', m_X12_drift_47 (nI c) fp_fu (nI 0) M2 = m_X12_drift_69 (nI c) M2' ∧ M2' 120 6 = nI (dRn L nt nw fa fb (M 8 1) (sd, M 123) m).1 ∧ RW M2' (dRn L nt nw fa fb (M 8 1) (sd, M 123) m).2 ∧ (∀ j, j ≠ 6 → M2' 120 j = M2 120 j) ∧ fr (fun q => q = 123 ∨ q = 120 ∨ scr q) M2 M2' := by
          by_cases h0 : 0 < nt
          · rw [if_pos h0] at hm
            subst hm
            obtain ⟨n1, M2', ⟨i1, i2, i3, i4⟩, he⟩ := loopI (fun n i s => m_X12_drift_47 (nI c) n (nI i) s) c (fun i s => s 120 6 = nI (dRn L nt nw fa fb (M 8 1) (sd, M 123) i).1 ∧ RW s (dRn L nt nw fa fb (M 8 1) (sd, M 123) i).2 ∧ (∀ j, j ≠ 6 → s 120 j = M2 120 j) ∧ fr (fun q => q = 123 ∨ q = 120 ∨ scr q) M2 s) (by
              rintro n i s hi ⟨i1, i2, i3, i4⟩
              obtain ⟨g1, g2⟩ := hD i (Or.inl h0)
              have hfine : s 120 0 = M 8 1 := by rw [i3 0 (by decide)]; exact hfin2
              have h3s : I_realm s nt nw fa fb := I_realm_fr h3b (i4 8 (by simp only [scr]; omega)) (i4 11 (by simp only [scr]; omega)) (i4 12 (by simp only [scr]; omega)) (i4 121 (by simp only [scr]; omega)) (i4 122 (by simp only [scr]; omega)) (fun j hj => i3 j (by omega))
              obtain ⟨s', q1, q2, q3, q4, q5⟩ := m_dstep hL h3s.2.1 h0 g2 i1 i2 g1
              rw [hfine] at q2 q3
              exact ⟨s', ⟨q2, q3, fun j hj => by rw [q4 j hj, i3 j hj], fr_tr i4 q5⟩, by
                show m_X12_drift_47 (nI c) (n + 1) (nI i) s = _
                rw [m_X12_drift_47, if_neg (nI_ge hi (by omega)), show s 120 1 = nI nt from h3s.2.1.2.2.1, if_neg (by rw [q_le0 (by omega)]; omega), q1, fp_b1t, fp_ltt, nI_add]⟩) c 0 fp_fu M2 (by omega) (fu_lt (by omega)) ⟨d26, R2, fun _ _ => rfl, fr_rf⟩
            refine ⟨M2', ?_, i1, i2, i3, i4⟩
            refine he.trans ?_
            show m_X12_drift_47 (nI c) (n1 + 1) (nI c) M2' = _
            rw [m_X12_drift_47, if_pos (nI_le (Nat.le_refl _) (by omega))]
          · rw [if_neg h0] at hm
            subst hm
            refine ⟨M2, ?_, d26, R2, fun _ _ => rfl, fr_rf⟩
            rw [fu_eq, m_X12_drift_47, if_neg (by rw [q_le (by omega) (by omega)]; omega), show M2 120 1 = nI nt from h3b.2.1.2.2.1, if_pos (by rw [q_le0 (by omega)]; omega)]
        obtain ⟨M2', p4, e6, s4, g4, f4⟩ := hmo
        have h21 : M2' 120 1 = nI nt := by rw [g4 1 (by decide)]; exact h3b.2.1.2.2.1
        refine ⟨isum (M1' (13 + 2)) 9, M1', M2', ?_, ?_, act_inv hP0 f1 f2' f3 g3 hH f4 g4 s2 s4 hDm.1 ⟨_, hDm.2, ?_, e6⟩⟩
        · rw [m_X11_drift, if_neg k1, if_pos (nI_le hc (by decide)), if_neg hz, r3, if_pos hfull, p1, fp_b1t, p2, fp_b1t, c_sitting, fp_b1t]
        · rw [m_X12_drift, q_in_y hc1 hc (by decide), fp_b1t, if_neg (by decide), e12 120 (by omega), ← r0, if_neg hz, fp_inN (show 24 < 25 by decide) (by decide), fp_gdt, q_cl (by decide), e12 123 (by omega), if_pos hfull, p3, fp_b1t, p4, m_X12_drift_69, m_allSit hn h21, fp_b1t, sum_both hn s2 s4 hDm.1]
        · rw [f4 47 (by simp only [scr]; omega), f3 47 (by omega)]
          exact e47
      · refine ⟨(-1000000004 : Int32), M, M, ?_, ?_, hI0⟩
        · rw [m_X11_drift, if_neg k1, if_pos (nI_le hc (by decide)), if_neg hz, r3, if_neg hfull]
        · rw [m_X12_drift, q_in_y hc1 hc (by decide), fp_b1t, if_neg (by decide), if_neg (by rw [← r0]; exact hz), fp_inN (show 24 < 25 by decide) (by decide), fp_gdt, q_cl (by decide), if_neg hfull]
  · refine ⟨(-1000000002 : Int32), M, M, ?_, ?_, hI0⟩
    · rw [m_X11_drift]
      rcases hout with h | ⟨ha, hb⟩
      · rw [if_pos h, m_X11_drift_11]
      · rw [if_neg ha, if_neg (Int32.not_le.mpr hb), m_X11_drift_11]
    · rw [m_X12_drift, m_inN M a1 (by decide) (by decide), if_pos (by
        rcases hout with h | ⟨ha, hb⟩
        · exact Or.inl h
        · exact Or.inr hb), fp_b1t, if_pos (by decide)]

abbrev rm_X0_comesWithoutChain : Room := { frames := 1, cells := 0, slots := 0, locals := 21 }
theorem cv_X0_comesWithoutChain : fp_CV yX0_comesWithoutChain cX0_comesWithoutChain 4 (some .int) 3 := ⟨tw_568, tw_6, by decide, by decide +kernel⟩
set_option maxHeartbeats 2000000 in
theorem w_X0_comesWithoutChain_0 {p : Program} {l : Launch} {e : Env} {s : State} {m : MethodId} {args : Array Value} {below : List Frame} {meth : Method} {c : Code} {D : va_G} {G : Nat → ClassId} {B : Nat} {k : Nat} {k1 : Nat} {k2 : Nat} {p3 : Int32} {r : Int32} {M' : fp_Mem} (E : fp_EV p s m args meth c cX0_comesWithoutChain 4 RX0 (some .int) D G) (hk : fp_is0 k) (hk1 : fp_is7 k1) (hk2 : fp_is9 k2) {M : fp_Mem} {H : Heap} {locs : List Loc} {ls : Array Slot} (hG : fp_H D G B s M H locs) (hl : lv_has ls 4 [(0, .ref (B + k)), (1, .ref (B + k1)), (2, .ref (B + k2)), (3, .int p3)]) (h : m_X0_comesWithoutChain M k k1 k2 p3 = some (r, M')) : W p l e rm_X0_comesWithoutChain s m args below meth c H locs 0 0 (MQ below (fp_Qi D G B r M') args s 0 0 (fp_A B)) (F0 m 0 ls []) := by
  have hx := E.1
  have hb := E.2.1
  have hown := E.2.2.2.1
  unfold m_X0_comesWithoutChain at h
  refine lv_aload_n hx hb dX0_comesWithoutChain_0 rfl (lv_at hl 2 rfl) ?_
  refine lv_iload_n hx hb dX0_comesWithoutChain_1 rfl (lv_at hl 3 rfl) ?_
  obtain ⟨r_1, c_2, h⟩ := fp_b1_s h
  refine fp_callVi (As := [.int p3]) (rest := []) E hG (c_X9_free l D G B hk2 c_2) cv_X9_free tw_569 tw_473 tw_474 ⟨rfl, rfl⟩ ⟨Nat.le_of_ble_eq_true rfl, Nat.le_of_ble_eq_true rfl⟩ (fp_recv E hG hk2.1.1 (fp_o9 hk2.1 _) rfl) rfl rfl (Nat.le_of_ble_eq_true rfl) hl.1 dX0_comesWithoutChain_2 ⟨Nat.zero_le _, Nat.zero_le _⟩ (fun H locs hG => ?_)
  refine lv_iconst (v := (nI 1)) hx hb dX0_comesWithoutChain_5 (by decide) ?_
  refine lv_icmp_ge (tgt := 22) hx hb dX0_comesWithoutChain_6 (by decide) (fun q => ?_) (fun q => ?_)
  · replace h := fp_ifT q h
    refine lv_aload_n hx hb dX0_comesWithoutChain_22 rfl (lv_at hl 2 rfl) ?_
    refine fp_g9_1 E hG hk2.1 tw_125 dX0_comesWithoutChain_23 ?_
    refine lv_iload_n hx hb dX0_comesWithoutChain_26 rfl (lv_at hl 3 rfl) ?_
    refine lv_dup2_11 hx hb dX0_comesWithoutChain_27 rfl rfl ?_
    obtain ⟨g_3, h⟩ := fp_gd_s h
    refine fp_iald E hG (hk2.2.2).1 (fp_a20 (hk2.2.2)) (fp_in_s g_3) dX0_comesWithoutChain_28 ?_
    refine lv_iconst (v := (nI 1)) hx hb dX0_comesWithoutChain_29 (by decide) ?_
    refine lv_iadd hx hb dX0_comesWithoutChain_30 ?_
    obtain ⟨g_4, h⟩ := fp_gd_s h
    obtain ⟨M_5, eM_5, h⟩ := fp_lt_s h
    refine fp_iast E hG (hk2.2.2).1 (fp_a20 (hk2.2.2)) (fp_in_s g_4) dX0_comesWithoutChain_31 (fun H locs hG => ?_)
    replace hG := fp_memH eM_5 hG
    refine lv_aload_n hx hb dX0_comesWithoutChain_32 rfl (lv_at hl 2 rfl) ?_
    refine lv_dup hx hb dX0_comesWithoutChain_33 rfl ?_
    refine fp_g9_6 E hG hk2.1 tw_141 dX0_comesWithoutChain_34 ?_
    refine lv_iconst (v := (nI 1)) hx hb dX0_comesWithoutChain_37 (by decide) ?_
    refine lv_iadd hx hb dX0_comesWithoutChain_38 ?_
    obtain ⟨M_6, eM_6, h⟩ := fp_lt_s h
    refine fp_p9_6 E hG hk2.1 tw_141 dX0_comesWithoutChain_39 (fun H locs hG => ?_)
    replace hG := fp_memH eM_6 hG
    refine lv_aload_n hx hb dX0_comesWithoutChain_42 rfl (lv_at hl 2 rfl) ?_
    refine lv_ldc (v := (nI 999999)) hx hb hown (fp_tabs E tw_570) dX0_comesWithoutChain_43 ?_
    refine lv_aload_n hx hb dX0_comesWithoutChain_45 rfl (lv_at hl 2 rfl) ?_
    refine fp_g9_7 E hG hk2.1 tw_144 dX0_comesWithoutChain_46 ?_
    refine lv_aload_n hx hb dX0_comesWithoutChain_49 rfl (lv_at hl 1 rfl) ?_
    refine fp_g7_1 E hG hk1.1 tw_40 dX0_comesWithoutChain_50 ?_
    refine lv_iadd hx hb dX0_comesWithoutChain_53 ?_
    refine va_mmin hx hb (E.2.2.1.trans hl.1.symm) hown (fp_tabs E tw_571) (fp_tabs E tw_548) (fp_tabs E tw_15) (fp_tabs E tw_549) (Nat.le_of_ble_eq_true rfl) (Nat.le_of_ble_eq_true rfl) (Nat.zero_le _) (Nat.zero_le _) dX0_comesWithoutChain_54 ?_
    obtain ⟨M_7, eM_7, h⟩ := fp_lt_s h
    refine fp_p9_7 E hG hk2.1 tw_144 dX0_comesWithoutChain_57 (fun H locs hG => ?_)
    replace hG := fp_memH eM_7 hG
    refine lv_bipush (v := (-2 : Int32)) hx hb dX0_comesWithoutChain_60 (by decide) ?_
    exact fp_ireti E hG (fp_pr1 h) (fp_pr2 h) dX0_comesWithoutChain_62
  · replace h := fp_ifF q h
    refine lv_aload_n hx hb dX0_comesWithoutChain_9 rfl (lv_at hl 2 rfl) ?_
    refine lv_dup hx hb dX0_comesWithoutChain_10 rfl ?_
    refine fp_g9_4 E hG hk2.1 tw_135 dX0_comesWithoutChain_11 ?_
    refine lv_iconst (v := (nI 1)) hx hb dX0_comesWithoutChain_14 (by decide) ?_
    refine lv_iadd hx hb dX0_comesWithoutChain_15 ?_
    obtain ⟨M_8, eM_8, h⟩ := fp_lt_s h
    refine fp_p9_4 E hG hk2.1 tw_135 dX0_comesWithoutChain_16 (fun H locs hG => ?_)
    replace hG := fp_memH eM_8 hG
    refine lv_bipush (v := (-3 : Int32)) hx hb dX0_comesWithoutChain_19 (by decide) ?_
    exact fp_ireti E hG (fp_pr1 h) (fp_pr2 h) dX0_comesWithoutChain_21
theorem c_X0_comesWithoutChain (l : Launch) (D : va_G) (G : Nat → ClassId) (B : Nat) {M : fp_Mem} {k : Nat} {k1 : Nat} {k2 : Nat} {p3 : Int32} {r : Int32} {M' : fp_Mem} (hk : fp_is0 k) (hk1 : fp_is7 k1) (hk2 : fp_is9 k2) (h : m_X0_comesWithoutChain M k k1 k2 p3 = some (r, M')) : Met l yX0_comesWithoutChain (Cond.code yX0_comesWithoutChain cX0_comesWithoutChain 4 (some .int) :: fp_T) rm_X0_comesWithoutChain (va_Pc [.ref (B + k), .ref (B + k1), .ref (B + k2), .int p3] (fp_GS D G B M)) (fp_Qi D G B r M') 0 0 (fp_A B) :=
  fp_met (own := RX0) (by decide) rfl (Nat.le_of_ble_eq_true rfl) (fun E hG hl => w_X0_comesWithoutChain_0 E hk hk1 hk2 hG hl h)
abbrev rm_X0_guestComes : Room := { frames := 3, cells := 0, slots := 0, locals := 72 }
theorem cv_X0_guestComes : fp_CV yX0_guestComes cX0_guestComes 6 (some .int) 3 := ⟨tw_553, tw_6, by decide, by decide +kernel⟩
set_option maxHeartbeats 2000000 in
theorem w_X0_guestComes_0 {p : Program} {l : Launch} {e : Env} {s : State} {m : MethodId} {args : Array Value} {below : List Frame} {meth : Method} {c : Code} {D : va_G} {G : Nat → ClassId} {B : Nat} {k : Nat} {k1 : Nat} {k2 : Nat} {p3 : Int32} {r : Int32} {M' : fp_Mem} (E : fp_EV p s m args meth c cX0_guestComes 6 RX0 (some .int) D G) (hk : fp_is0 k) (hk1 : fp_is7 k1) (hk2 : fp_is9 k2) {M : fp_Mem} {H : Heap} {locs : List Loc} {ls : Array Slot} (hG : fp_H D G B s M H locs) (hl : lv_has ls 6 [(0, .ref (B + k)), (1, .ref (B + k1)), (2, .ref (B + k2)), (3, .int p3)]) (h : m_X0_guestComes M k k1 k2 p3 = some (r, M')) : W p l e rm_X0_guestComes s m args below meth c H locs 0 0 (MQ below (fp_Qi D G B r M') args s 0 0 (fp_A B)) (F0 m 0 ls []) := by
  have hx := E.1
  have hb := E.2.1
  have hown := E.2.2.2.1
  unfold m_X0_guestComes at h
  refine lv_aload_n hx hb dX0_guestComes_0 rfl (lv_at hl 0 rfl) ?_
  refine fp_g0_0 E hG hk.1 tw_199 dX0_guestComes_1 ?_
  refine lv_aload_n hx hb dX0_guestComes_4 rfl (lv_at hl 1 rfl) ?_
  refine lv_aload_n hx hb dX0_guestComes_5 rfl (lv_at hl 2 rfl) ?_
  obtain ⟨M_1, c_2, h⟩ := fp_b1_s h
  refine fp_callVv (As := [.ref (B + k1), .ref (B + k2)]) (rest := []) E hG (c_X2_measure l D G B (fp_is0_2 hk) hk1 hk2 c_2) cv_X2_measure tw_554 tw_481 tw_482 ⟨rfl, rfl⟩ ⟨Nat.le_of_ble_eq_true rfl, Nat.le_of_ble_eq_true rfl⟩ (fp_recv E hG (fp_is0_2 hk).1.1 (fp_o2 (fp_is0_2 hk).1 _) rfl) rfl rfl (Nat.le_of_ble_eq_true rfl) hl.1 dX0_guestComes_6 ⟨Nat.zero_le _, Nat.zero_le _⟩ (fun H locs hG => ?_)
  refine lv_aload_n hx hb dX0_guestComes_9 rfl (lv_at hl 2 rfl) ?_
  refine lv_dup hx hb dX0_guestComes_10 rfl ?_
  refine fp_g9_8 E hG hk2.1 tw_146 dX0_guestComes_11 ?_
  refine lv_iconst (v := (nI 1)) hx hb dX0_guestComes_14 (by decide) ?_
  refine lv_iadd hx hb dX0_guestComes_15 ?_
  obtain ⟨M_3, eM_3, h⟩ := fp_lt_s h
  refine fp_p9_8 E hG hk2.1 tw_146 dX0_guestComes_16 (fun H locs hG => ?_)
  replace hG := fp_memH eM_3 hG
  refine lv_aload_n hx hb dX0_guestComes_19 rfl (lv_at hl 0 rfl) ?_
  refine fp_g0_0 E hG hk.1 tw_199 dX0_guestComes_20 ?_
  refine lv_iload_n hx hb dX0_guestComes_23 rfl (lv_at hl 3 rfl) ?_
  obtain ⟨r_4, c_5, h⟩ := fp_b1_s h
  refine fp_callVi (As := [.int p3]) (rest := []) E hG (c_X2_movesFrom l D G B (fp_is0_2 hk) c_5) cv_X2_movesFrom tw_555 tw_556 tw_557 ⟨rfl, rfl⟩ ⟨Nat.le_of_ble_eq_true rfl, Nat.le_of_ble_eq_true rfl⟩ (fp_recv E hG (fp_is0_2 hk).1.1 (fp_o2 (fp_is0_2 hk).1 _) rfl) rfl rfl (Nat.le_of_ble_eq_true rfl) hl.1 dX0_guestComes_24 ⟨Nat.zero_le _, Nat.zero_le _⟩ (fun H locs hG => ?_)
  refine lv_istore (lv' := [(4, .int r_4), (0, .ref (B + k)), (1, .ref (B + k1)), (2, .ref (B + k2)), (3, .int p3)]) hx hb dX0_guestComes_27 hl (by decide) rfl (fun ls hl => ?_)
  refine lv_aload_n hx hb dX0_guestComes_29 rfl (lv_at hl 1 rfl) ?_
  refine fp_g0_0 E hG hk.1 tw_199 dX0_guestComes_30 ?_
  refine lv_iload_n hx hb dX0_guestComes_33 rfl (lv_at hl 4 rfl) ?_
  refine lv_iload hx hb dX0_guestComes_34 (lv_at hl 0 rfl) ?_
  obtain ⟨r_6, c_7, h⟩ := fp_b1_s h
  refine fp_callVi (As := [.int p3, .int r_4]) (rest := []) E hG (c_X2_tableOf l D G B (fp_is0_2 hk) c_7) cv_X2_tableOf tw_559 tw_560 tw_561 ⟨rfl, rfl⟩ ⟨Nat.le_of_ble_eq_true rfl, Nat.le_of_ble_eq_true rfl⟩ (fp_recv E hG (fp_is0_2 hk).1.1 (fp_o2 (fp_is0_2 hk).1 _) rfl) rfl rfl (Nat.le_of_ble_eq_true rfl) hl.1 dX0_guestComes_36 ⟨Nat.zero_le _, Nat.zero_le _⟩ (fun H locs hG => ?_)
  refine lv_istore (lv' := [(5, .int r_6), (4, .int r_4), (0, .ref (B + k)), (1, .ref (B + k1)), (2, .ref (B + k2)), (3, .int p3)]) hx hb dX0_guestComes_39 hl (by decide) rfl (fun ls hl => ?_)
  refine lv_aload_n hx hb dX0_guestComes_41 rfl (lv_at hl 3 rfl) ?_
  refine lv_iload hx hb dX0_guestComes_42 (lv_at hl 0 rfl) ?_
  obtain ⟨r_8, c_9, h⟩ := fp_b1_s h
  refine fp_callVi (As := [.int r_6]) (rest := []) E hG (c_X7_hasTable l D G B hk1 c_9) cv_X7_hasTable tw_564 tw_437 tw_438 ⟨rfl, rfl⟩ ⟨Nat.le_of_ble_eq_true rfl, Nat.le_of_ble_eq_true rfl⟩ (fp_recv E hG hk1.1.1 (fp_o7 hk1.1 _) rfl) rfl rfl (Nat.le_of_ble_eq_true rfl) hl.1 dX0_guestComes_44 ⟨Nat.zero_le _, Nat.zero_le _⟩ (fun H locs hG => ?_)
  refine lv_if_ne (tgt := 58) hx hb dX0_guestComes_47 (by decide) (fun q => ?_) (fun q => ?_)
  · replace h := fp_ifF q h
    refine lv_aload_n hx hb dX0_guestComes_58 rfl (lv_at hl 4 rfl) ?_
    refine fp_g9_1 E hG hk2.1 tw_125 dX0_guestComes_59 ?_
    refine lv_iload hx hb dX0_guestComes_62 (lv_at hl 0 rfl) ?_
    refine lv_dup2_11 hx hb dX0_guestComes_64 rfl rfl ?_
    obtain ⟨g_10, h⟩ := fp_gd_s h
    refine fp_iald E hG (hk2.2.2).1 (fp_a20 (hk2.2.2)) (fp_in_s g_10) dX0_guestComes_65 ?_
    refine lv_iconst (v := (nI 1)) hx hb dX0_guestComes_66 (by decide) ?_
    refine lv_iadd hx hb dX0_guestComes_67 ?_
    obtain ⟨g_11, h⟩ := fp_gd_s h
    obtain ⟨M_12, eM_12, h⟩ := fp_lt_s h
    refine fp_iast E hG (hk2.2.2).1 (fp_a20 (hk2.2.2)) (fp_in_s g_11) dX0_guestComes_68 (fun H locs hG => ?_)
    replace hG := fp_memH eM_12 hG
    refine lv_aload_n hx hb dX0_guestComes_69 rfl (lv_at hl 4 rfl) ?_
    refine lv_dup hx hb dX0_guestComes_70 rfl ?_
    refine fp_g9_5 E hG hk2.1 tw_137 dX0_guestComes_71 ?_
    refine lv_iload hx hb dX0_guestComes_74 (lv_at hl 1 rfl) ?_
    refine lv_iadd hx hb dX0_guestComes_76 ?_
    obtain ⟨M_13, eM_13, h⟩ := fp_lt_s h
    refine fp_p9_5 E hG hk2.1 tw_137 dX0_guestComes_77 (fun H locs hG => ?_)
    replace hG := fp_memH eM_13 hG
    refine lv_iload hx hb dX0_guestComes_80 (lv_at hl 1 rfl) ?_
    exact fp_ireti E hG (fp_pr1 h) (fp_pr2 h) dX0_guestComes_82
  · replace h := fp_ifT q h
    refine lv_aload_n hx hb dX0_guestComes_50 rfl (lv_at hl 2 rfl) ?_
    refine lv_aload_n hx hb dX0_guestComes_51 rfl (lv_at hl 3 rfl) ?_
    refine lv_aload_n hx hb dX0_guestComes_52 rfl (lv_at hl 4 rfl) ?_
    refine lv_iload_n hx hb dX0_guestComes_53 rfl (lv_at hl 5 rfl) ?_
    obtain ⟨r_14, M_15, c_16, h⟩ := fp_b2_s h
    refine fp_callVi (As := [.ref (B + k1), .ref (B + k2), .int p3]) (rest := []) E hG (c_X0_comesWithoutChain l D G B hk hk1 hk2 c_16) cv_X0_comesWithoutChain tw_565 tw_567 ts_14 ⟨rfl, rfl⟩ ⟨Nat.le_of_ble_eq_true rfl, Nat.le_of_ble_eq_true rfl⟩ (fp_recv E hG hk.1.1 (fp_o0 hk.1 _) rfl) rfl rfl (Nat.le_of_ble_eq_true rfl) hl.1 dX0_guestComes_54 ⟨Nat.zero_le _, Nat.zero_le _⟩ (fun H locs hG => ?_)
    exact fp_ireti E hG (fp_pr1 h) (fp_pr2 h) dX0_guestComes_57
theorem c_X0_guestComes (l : Launch) (D : va_G) (G : Nat → ClassId) (B : Nat) {M : fp_Mem} {k : Nat} {k1 : Nat} {k2 : Nat} {p3 : Int32} {r : Int32} {M' : fp_Mem} (hk : fp_is0 k) (hk1 : fp_is7 k1) (hk2 : fp_is9 k2) (h : m_X0_guestComes M k k1 k2 p3 = some (r, M')) : Met l yX0_guestComes (Cond.code yX0_guestComes cX0_guestComes 6 (some .int) :: fp_T) rm_X0_guestComes (va_Pc [.ref (B + k), .ref (B + k1), .ref (B + k2), .int p3] (fp_GS D G B M)) (fp_Qi D G B r M') 0 0 (fp_A B) :=
  fp_met (own := RX0) (by decide) rfl (Nat.le_of_ble_eq_true rfl) (fun E hG hl => w_X0_guestComes_0 E hk hk1 hk2 hG hl h)
abbrev rm_X0_drifts : Room := { frames := 4, cells := 0, slots := 0, locals := 97 }
theorem cv_X0_drifts : fp_CV yX0_drifts cX0_drifts 7 none 4 := ⟨tw_600, tw_6, by decide, by decide +kernel⟩
set_option maxHeartbeats 2000000 in
theorem w_X0_drifts_78 {p : Program} {l : Launch} {e : Env} {s : State} {m : MethodId} {args : Array Value} {below : List Frame} {meth : Method} {c : Code} {D : va_G} {G : Nat → ClassId} {B : Nat} {k : Nat} {k1 : Nat} {k2 : Nat} {p4 : Int32} {K11 : Int32 → fp_Mem → Option (fp_Mem)} {M' : fp_Mem} (E : fp_EV p s m args meth c cX0_drifts 7 RX0 none D G) (hk : fp_is0 k) (hk1 : fp_is7 k1) (hk2 : fp_is9 k2) (HK11 : ∀ (wv5 : Int32) (wM : fp_Mem) {H : Heap} {locs : List Loc} {ls : Array Slot}, fp_H D G B s wM H locs → lv_has ls 7 [(0, .ref (B + k)), (1, .ref (B + k1)), (2, .ref (B + k2)), (3, .ref (B + 47)), (4, .int p4), (5, .int wv5)] → K11 wv5 wM = some M' → W p l e rm_X0_drifts s m args below meth c H locs 0 0 (MQ below (fp_Qv D G B M') args s 0 0 (fp_A B)) (F0 m 11 ls [])) (v5 : Int32) (M : fp_Mem) {H : Heap} {locs : List Loc} {ls : Array Slot} (hG : fp_H D G B s M H locs) (hl : lv_has ls 7 [(0, .ref (B + k)), (1, .ref (B + k1)), (2, .ref (B + k2)), (3, .ref (B + 47)), (4, .int p4), (5, .int v5)]) (h : m_X0_drifts_78 k k1 k2 p4 K11 v5 M = some M') : W p l e rm_X0_drifts s m args below meth c H locs 0 0 (MQ below (fp_Qv D G B M') args s 0 0 (fp_A B)) (F0 m 78 ls []) := by
  have hx := E.1
  have hb := E.2.1
  have hown := E.2.2.2.1
  unfold m_X0_drifts_78 at h
  obtain ⟨x_1, ex_1, h⟩ := fp_lt_s h
  refine lv_iinc (v := x_1) (lv' := [(5, .int x_1), (0, .ref (B + k)), (1, .ref (B + k1)), (2, .ref (B + k2)), (3, .ref (B + 47)), (4, .int p4)]) hx hb dX0_drifts_78 hl (k := 5) rfl (by rw [ex_1]; rfl) (by decide) rfl (fun ls hl => ?_)
  refine lv_goto (tgt := 11) hx hb dX0_drifts_81 (by decide) ?_
  exact HK11 _ _ hG (lv_sub hl [1, 2, 3, 4, 5, 0] rfl) h
set_option maxHeartbeats 2000000 in
theorem w_X0_drifts_11 {p : Program} {l : Launch} {e : Env} {s : State} {m : MethodId} {args : Array Value} {below : List Frame} {meth : Method} {c : Code} {D : va_G} {G : Nat → ClassId} {B : Nat} {k : Nat} {k1 : Nat} {k2 : Nat} {p4 : Int32} {M' : fp_Mem} (E : fp_EV p s m args meth c cX0_drifts 7 RX0 none D G) (hk : fp_is0 k) (hk1 : fp_is7 k1) (hk2 : fp_is9 k2) : ∀ (n : Nat) (v5 : Int32) (M : fp_Mem) {H : Heap} {locs : List Loc} {ls : Array Slot}, fp_H D G B s M H locs → lv_has ls 7 [(0, .ref (B + k)), (1, .ref (B + k1)), (2, .ref (B + k2)), (3, .ref (B + 47)), (4, .int p4), (5, .int v5)] → m_X0_drifts_11 k k1 k2 p4 n v5 M = some M' → W p l e rm_X0_drifts s m args below meth c H locs 0 0 (MQ below (fp_Qv D G B M') args s 0 0 (fp_A B)) (F0 m 11 ls []) := by
  have hx := E.1
  have hb := E.2.1
  have hown := E.2.2.2.1
  intro n
  induction n with
  | zero =>
    intro v5 M H locs ls hG hl h
    exact nomatch h
  | succ n ih =>
    have ihK := @ih
    intro v5 M H locs ls hG hl h
    rw [m_X0_drifts_11] at h
    refine lv_iload hx hb dX0_drifts_11 (lv_at hl 5 rfl) ?_
    refine lv_iload hx hb dX0_drifts_13 (lv_at hl 4 rfl) ?_
    refine lv_icmp_ge (tgt := 84) hx hb dX0_drifts_15 (by decide) (fun q => ?_) (fun q => ?_)
    · replace h := fp_ifT q h
      exact fp_retv E hG (Option.some.inj h) dX0_drifts_84
    · replace h := fp_ifF q h
      refine lv_aload_n hx hb dX0_drifts_18 rfl (lv_at hl 3 rfl) ?_
      refine lv_aload_n hx hb dX0_drifts_19 rfl (lv_at hl 1 rfl) ?_
      refine fp_g7_3 E hG hk1.1 tw_49 dX0_drifts_20 ?_
      obtain ⟨r_2, M_3, c_4, h⟩ := fp_b2_s h
      refine fp_callVi (As := [.int (M k1 3)]) (rest := []) E hG (c_X3_draw l D G B c_4) cv_X3_draw tw_601 tw_602 tw_603 ⟨rfl, rfl⟩ ⟨Nat.le_of_ble_eq_true rfl, Nat.le_of_ble_eq_true rfl⟩ (fp_recv E hG (by decide) (fp_o3 _) rfl) rfl rfl (Nat.le_of_ble_eq_true rfl) hl.1 dX0_drifts_23 ⟨Nat.zero_le _, Nat.zero_le _⟩ (fun H locs hG => ?_)
      refine lv_istore (lv' := [(6, .int r_2), (0, .ref (B + k)), (1, .ref (B + k1)), (2, .ref (B + k2)), (3, .ref (B + 47)), (4, .int p4), (5, .int v5)]) hx hb dX0_drifts_26 hl (by decide) rfl (fun ls hl => ?_)
      refine lv_aload_n hx hb dX0_drifts_28 rfl (lv_at hl 4 rfl) ?_
      refine lv_iconst (v := (nI 3)) hx hb dX0_drifts_29 (by decide) ?_
      obtain ⟨r_5, M_6, c_7, h⟩ := fp_b2_s h
      refine fp_callVi (As := [.int (nI 3)]) (rest := []) E hG (c_X3_draw l D G B c_7) cv_X3_draw tw_601 tw_602 tw_603 ⟨rfl, rfl⟩ ⟨Nat.le_of_ble_eq_true rfl, Nat.le_of_ble_eq_true rfl⟩ (fp_recv E hG (by decide) (fp_o3 _) rfl) rfl rfl (Nat.le_of_ble_eq_true rfl) hl.1 dX0_drifts_30 ⟨Nat.zero_le _, Nat.zero_le _⟩ (fun H locs hG => ?_)
      refine lv_if_eq (tgt := 48) hx hb dX0_drifts_33 (by decide) (fun q => ?_) (fun q => ?_)
      · replace h := fp_ifT q h
        refine lv_aload_n hx hb dX0_drifts_48 rfl (lv_at hl 2 rfl) ?_
        refine lv_iload hx hb dX0_drifts_49 (lv_at hl 0 rfl) ?_
        obtain ⟨r_8, c_9, h⟩ := fp_b1_s h
        refine fp_callVi (As := [.int r_2]) (rest := []) E hG (c_X7_hasTable l D G B hk1 c_9) cv_X7_hasTable tw_564 tw_437 tw_438 ⟨rfl, rfl⟩ ⟨Nat.le_of_ble_eq_true rfl, Nat.le_of_ble_eq_true rfl⟩ (fp_recv E hG hk1.1.1 (fp_o7 hk1.1 _) rfl) rfl rfl (Nat.le_of_ble_eq_true rfl) hl.1 dX0_drifts_51 ⟨Nat.zero_le _, Nat.zero_le _⟩ (fun H locs hG => ?_)
        refine lv_if_eq (tgt := 78) hx hb dX0_drifts_54 (by decide) (fun q => ?_) (fun q => ?_)
        · replace h := fp_ifT q h
          exact w_X0_drifts_78 E hk hk1 hk2 ihK _ _ hG (lv_sub hl [1, 2, 3, 4, 5, 6] rfl) h
        · replace h := fp_ifF q h
          refine lv_aload_n hx hb dX0_drifts_57 rfl (lv_at hl 3 rfl) ?_
          refine fp_g9_1 E hG hk2.1 tw_125 dX0_drifts_58 ?_
          refine lv_iload hx hb dX0_drifts_61 (lv_at hl 0 rfl) ?_
          obtain ⟨g_10, h⟩ := fp_gd_s h
          refine fp_iald E hG (hk2.2.2).1 (fp_a20 (hk2.2.2)) (fp_in_s g_10) dX0_drifts_63 ?_
          refine lv_if_le (tgt := 78) hx hb dX0_drifts_64 (by decide) (fun q => ?_) (fun q => ?_)
          · replace h := fp_ifT q h
            exact w_X0_drifts_78 E hk hk1 hk2 ihK _ _ hG (lv_sub hl [1, 2, 3, 4, 5, 6] rfl) h
          · replace h := fp_ifF q h
            refine lv_aload_n hx hb dX0_drifts_67 rfl (lv_at hl 3 rfl) ?_
            refine fp_g9_1 E hG hk2.1 tw_125 dX0_drifts_68 ?_
            refine lv_iload hx hb dX0_drifts_71 (lv_at hl 0 rfl) ?_
            refine lv_dup2_11 hx hb dX0_drifts_73 rfl rfl ?_
            obtain ⟨g_11, h⟩ := fp_gd_s h
            refine fp_iald E hG (hk2.2.2).1 (fp_a20 (hk2.2.2)) (fp_in_s g_11) dX0_drifts_74 ?_
            refine lv_iconst (v := (nI 1)) hx hb dX0_drifts_75 (by decide) ?_
            refine lv_isub hx hb dX0_drifts_76 ?_
            obtain ⟨g_12, h⟩ := fp_gd_s h
            obtain ⟨M_13, eM_13, h⟩ := fp_lt_s h
            refine fp_iast E hG (hk2.2.2).1 (fp_a20 (hk2.2.2)) (fp_in_s g_12) dX0_drifts_77 (fun H locs hG => ?_)
            replace hG := fp_memH eM_13 hG
            exact w_X0_drifts_78 E hk hk1 hk2 ihK _ _ hG (lv_sub hl [1, 2, 3, 4, 5, 6] rfl) h
      · replace h := fp_ifF q h
        refine lv_aload_n hx hb dX0_drifts_36 rfl (lv_at hl 1 rfl) ?_
        refine lv_aload_n hx hb dX0_drifts_37 rfl (lv_at hl 2 rfl) ?_
        refine lv_aload_n hx hb dX0_drifts_38 rfl (lv_at hl 3 rfl) ?_
        refine lv_iload hx hb dX0_drifts_39 (lv_at hl 0 rfl) ?_
        obtain ⟨r_14, M_15, c_16, h⟩ := fp_b2_s h
        refine fp_callVi (As := [.ref (B + k1), .ref (B + k2), .int r_2]) (rest := []) E hG (c_X0_guestComes l D G B hk hk1 hk2 c_16) cv_X0_guestComes tw_609 tw_551 tw_552 ⟨rfl, rfl⟩ ⟨Nat.le_of_ble_eq_true rfl, Nat.le_of_ble_eq_true rfl⟩ (fp_recv E hG hk.1.1 (fp_o0 hk.1 _) rfl) rfl rfl (Nat.le_of_ble_eq_true rfl) hl.1 dX0_drifts_41 ⟨Nat.zero_le _, Nat.zero_le _⟩ (fun H locs hG => ?_)
        refine lv_pop hx hb dX0_drifts_44 rfl ?_
        refine lv_goto (tgt := 78) hx hb dX0_drifts_45 (by decide) ?_
        exact w_X0_drifts_78 E hk hk1 hk2 ihK _ _ hG (lv_sub hl [1, 2, 3, 4, 5, 6] rfl) h
set_option maxHeartbeats 2000000 in
theorem w_X0_drifts_0 {p : Program} {l : Launch} {e : Env} {s : State} {m : MethodId} {args : Array Value} {below : List Frame} {meth : Method} {c : Code} {D : va_G} {G : Nat → ClassId} {B : Nat} {k : Nat} {k1 : Nat} {k2 : Nat} {p4 : Int32} {M' : fp_Mem} (E : fp_EV p s m args meth c cX0_drifts 7 RX0 none D G) (hk : fp_is0 k) (hk1 : fp_is7 k1) (hk2 : fp_is9 k2) {M : fp_Mem} {H : Heap} {locs : List Loc} {ls : Array Slot} (hG : fp_H D G B s M H locs) (hl : lv_has ls 7 [(0, .ref (B + k)), (1, .ref (B + k1)), (2, .ref (B + k2)), (3, .ref (B + 47)), (4, .int p4)]) (h : m_X0_drifts M k k1 k2 p4 = some M') : W p l e rm_X0_drifts s m args below meth c H locs 0 0 (MQ below (fp_Qv D G B M') args s 0 0 (fp_A B)) (F0 m 0 ls []) := by
  have hx := E.1
  have hb := E.2.1
  have hown := E.2.2.2.1
  unfold m_X0_drifts at h
  refine lv_aload_n hx hb dX0_drifts_0 rfl (lv_at hl 1 rfl) ?_
  refine fp_g7_3 E hG hk1.1 tw_49 dX0_drifts_1 ?_
  refine lv_if_gt (tgt := 8) hx hb dX0_drifts_4 (by decide) (fun q => ?_) (fun q => ?_)
  · replace h := fp_ifT q h
    refine lv_iconst (v := (nI 0)) hx hb dX0_drifts_8 (by decide) ?_
    refine lv_istore (lv' := [(5, .int (nI 0)), (0, .ref (B + k)), (1, .ref (B + k1)), (2, .ref (B + k2)), (3, .ref (B + 47)), (4, .int p4)]) hx hb dX0_drifts_9 hl (by decide) rfl (fun ls hl => ?_)
    exact w_X0_drifts_11 E hk hk1 hk2  fp_fu _ _ hG (lv_sub hl [1, 2, 3, 4, 5, 0] rfl) h
  · replace h := fp_ifF q h
    exact fp_retv E hG (Option.some.inj h) dX0_drifts_7
theorem c_X0_drifts (l : Launch) (D : va_G) (G : Nat → ClassId) (B : Nat) {M : fp_Mem} {k : Nat} {k1 : Nat} {k2 : Nat} {p4 : Int32} {M' : fp_Mem} (hk : fp_is0 k) (hk1 : fp_is7 k1) (hk2 : fp_is9 k2) (h : m_X0_drifts M k k1 k2 p4 = some M') : Met l yX0_drifts (Cond.code yX0_drifts cX0_drifts 7 none :: fp_T) rm_X0_drifts (va_Pc [.ref (B + k), .ref (B + k1), .ref (B + k2), .ref (B + 47), .int p4] (fp_GS D G B M)) (fp_Qv D G B M') 0 0 (fp_A B) :=
  fp_met (own := RX0) (by decide) rfl (Nat.le_of_ble_eq_true rfl) (fun E hG hl => w_X0_drifts_0 E hk hk1 hk2 hG hl h)

abbrev rm_X10_moreGuests : Room := { frames := 3, cells := 0, slots := 0, locals := 68 }
theorem cv_X10_moreGuests : fp_CV yX10_moreGuests cX10_moreGuests 7 (some .int) 3 := ⟨tw_631, tw_7, by decide, by decide +kernel⟩
set_option maxHeartbeats 2000000 in
theorem w_X10_moreGuests_64 {p : Program} {l : Launch} {e : Env} {s : State} {m : MethodId} {args : Array Value} {below : List Frame} {meth : Method} {c : Code} {D : va_G} {G : Nat → ClassId} {B : Nat} {k1 : Nat} {k2 : Nat} {p3 : Int32} {K28 : Int32 → Int32 → Int32 → fp_Mem → Option (Int32 × fp_Mem)} {r : Int32} {M' : fp_Mem} (E : fp_EV p s m args meth c cX10_moreGuests 7 RX10 (some .int) D G) (hk1 : fp_is7 k1) (hk2 : fp_is9 k2) (HK28 : ∀ (wv4 : Int32) (wv5 : Int32) (wv6 : Int32) (wM : fp_Mem) {H : Heap} {locs : List Loc} {ls : Array Slot}, fp_H D G B s wM H locs → lv_has ls 7 [(1, .ref (B + k1)), (2, .ref (B + k2)), (4, .int wv4), (5, .int wv5), (6, .int wv6)] → K28 wv4 wv5 wv6 wM = some (r, M') → W p l e rm_X10_moreGuests s m args below meth c H locs 0 0 (MQ below (fp_Qi D G B r M') args s 0 0 (fp_A B)) (F0 m 28 ls [])) (v4 : Int32) (v5 : Int32) (v6 : Int32) (M : fp_Mem) {H : Heap} {locs : List Loc} {ls : Array Slot} (hG : fp_H D G B s M H locs) (hl : lv_has ls 7 [(1, .ref (B + k1)), (2, .ref (B + k2)), (4, .int v4), (5, .int v5), (6, .int v6)]) (h : m_X10_moreGuests_64 k1 k2 p3 K28 v4 v5 v6 M = some (r, M')) : W p l e rm_X10_moreGuests s m args below meth c H locs 0 0 (MQ below (fp_Qi D G B r M') args s 0 0 (fp_A B)) (F0 m 64 ls []) := by
  have hx := E.1
  have hb := E.2.1
  have hown := E.2.2.2.1
  unfold m_X10_moreGuests_64 at h
  obtain ⟨x_1, ex_1, h⟩ := fp_lt_s h
  refine lv_iinc (v := x_1) (lv' := [(6, .int x_1), (1, .ref (B + k1)), (2, .ref (B + k2)), (4, .int v4), (5, .int v5)]) hx hb dX10_moreGuests_64 hl (k := 4) rfl (by rw [ex_1]; rfl) (by decide) rfl (fun ls hl => ?_)
  refine lv_goto (tgt := 28) hx hb dX10_moreGuests_67 (by decide) ?_
  exact HK28 _ _ _ _ hG (lv_sub hl [1, 2, 3, 4, 0] rfl) h
set_option maxHeartbeats 2000000 in
theorem w_X10_moreGuests_28 {p : Program} {l : Launch} {e : Env} {s : State} {m : MethodId} {args : Array Value} {below : List Frame} {meth : Method} {c : Code} {D : va_G} {G : Nat → ClassId} {B : Nat} {k1 : Nat} {k2 : Nat} {p3 : Int32} {r : Int32} {M' : fp_Mem} (E : fp_EV p s m args meth c cX10_moreGuests 7 RX10 (some .int) D G) (hk1 : fp_is7 k1) (hk2 : fp_is9 k2) : ∀ (n : Nat) (v4 : Int32) (v5 : Int32) (v6 : Int32) (M : fp_Mem) {H : Heap} {locs : List Loc} {ls : Array Slot}, fp_H D G B s M H locs → lv_has ls 7 [(1, .ref (B + k1)), (2, .ref (B + k2)), (4, .int v4), (5, .int v5), (6, .int v6)] → m_X10_moreGuests_28 k1 k2 p3 n v4 v5 v6 M = some (r, M') → W p l e rm_X10_moreGuests s m args below meth c H locs 0 0 (MQ below (fp_Qi D G B r M') args s 0 0 (fp_A B)) (F0 m 28 ls []) := by
  have hx := E.1
  have hb := E.2.1
  have hown := E.2.2.2.1
  intro n
  induction n with
  | zero =>
    intro v4 v5 v6 M H locs ls hG hl h
    exact nomatch h
  | succ n ih =>
    have ihK := @ih
    intro v4 v5 v6 M H locs ls hG hl h
    rw [m_X10_moreGuests_28] at h
    refine lv_iload hx hb dX10_moreGuests_28 (lv_at hl 4 rfl) ?_
    refine lv_aload_n hx hb dX10_moreGuests_30 rfl (lv_at hl 0 rfl) ?_
    refine fp_g7_3 E hG hk1.1 tw_47 dX10_moreGuests_31 ?_
    refine lv_icmp_ge (tgt := 70) hx hb dX10_moreGuests_34 (by decide) (fun q => ?_) (fun q => ?_)
    · replace h := fp_ifT q h
      refine lv_iload hx hb dX10_moreGuests_70 (lv_at hl 3 rfl) ?_
      exact fp_ireti E hG (fp_pr1 h) (fp_pr2 h) dX10_moreGuests_72
    · replace h := fp_ifF q h
      refine lv_iload hx hb dX10_moreGuests_37 (lv_at hl 2 rfl) ?_
      refine lv_iload hx hb dX10_moreGuests_39 (lv_at hl 4 rfl) ?_
      refine lv_ishr hx hb dX10_moreGuests_41 ?_
      refine lv_iconst (v := (nI 1)) hx hb dX10_moreGuests_42 (by decide) ?_
      refine lv_iand hx hb dX10_moreGuests_43 ?_
      refine lv_if_eq (tgt := 64) hx hb dX10_moreGuests_44 (by decide) (fun q => ?_) (fun q => ?_)
      · replace h := fp_ifT q h
        exact w_X10_moreGuests_64 E hk1 hk2 ihK _ _ _ _ hG (lv_sub hl [0, 1, 2, 3, 4] rfl) h
      · replace h := fp_ifF q h
        refine lv_iload hx hb dX10_moreGuests_47 (lv_at hl 3 rfl) ?_
        refine lv_iconst (v := (nI 0)) hx hb dX10_moreGuests_49 (by decide) ?_
        refine lv_aload_n hx hb dX10_moreGuests_50 rfl (lv_at hl 1 rfl) ?_
        refine lv_iload hx hb dX10_moreGuests_51 (lv_at hl 4 rfl) ?_
        obtain ⟨r_2, c_3, h⟩ := fp_b1_s h
        refine fp_callVi (As := [.int v6]) (rest := [.int (nI 0), .int v5]) E hG (c_X9_free l D G B hk2 c_3) cv_X9_free tw_641 tw_473 tw_474 ⟨rfl, rfl⟩ ⟨Nat.le_of_ble_eq_true rfl, Nat.le_of_ble_eq_true rfl⟩ (fp_recv E hG hk2.1.1 (fp_o9 hk2.1 _) rfl) rfl rfl (Nat.le_of_ble_eq_true rfl) hl.1 dX10_moreGuests_53 ⟨Nat.zero_le _, Nat.zero_le _⟩ (fun H locs hG => ?_)
        refine lv_iconst (v := (nI 1)) hx hb dX10_moreGuests_56 (by decide) ?_
        refine lv_isub hx hb dX10_moreGuests_57 ?_
        refine va_mmax hx hb (E.2.2.1.trans hl.1.symm) hown (fp_tabs E tw_642) (fp_tabs E tw_643) (fp_tabs E tw_15) (fp_tabs E tw_644) (Nat.le_of_ble_eq_true rfl) (Nat.le_of_ble_eq_true rfl) (Nat.zero_le _) (Nat.zero_le _) dX10_moreGuests_58 ?_
        refine lv_iadd hx hb dX10_moreGuests_61 ?_
        obtain ⟨x_4, ex_4, h⟩ := fp_lt_s h
        refine fp_top ex_4 ?_
        refine lv_istore (lv' := [(5, .int x_4), (1, .ref (B + k1)), (2, .ref (B + k2)), (4, .int v4), (6, .int v6)]) hx hb dX10_moreGuests_62 hl (by decide) rfl (fun ls hl => ?_)
        exact w_X10_moreGuests_64 E hk1 hk2 ihK _ _ _ _ hG (lv_sub hl [1, 2, 3, 0, 4] rfl) h
set_option maxHeartbeats 2000000 in
theorem w_X10_moreGuests_0 {p : Program} {l : Launch} {e : Env} {s : State} {m : MethodId} {args : Array Value} {below : List Frame} {meth : Method} {c : Code} {D : va_G} {G : Nat → ClassId} {B : Nat} {k1 : Nat} {k2 : Nat} {p3 : Int32} {r : Int32} {M' : fp_Mem} (E : fp_EV p s m args meth c cX10_moreGuests 7 RX10 (some .int) D G) (hk1 : fp_is7 k1) (hk2 : fp_is9 k2) {M : fp_Mem} {H : Heap} {locs : List Loc} {ls : Array Slot} (hG : fp_H D G B s M H locs) (hl : lv_has ls 7 [(0, .ref (B + 27)), (1, .ref (B + k1)), (2, .ref (B + k2)), (3, .int p3)]) (h : m_X10_moreGuests M k1 k2 p3 = some (r, M')) : W p l e rm_X10_moreGuests s m args below meth c H locs 0 0 (MQ below (fp_Qi D G B r M') args s 0 0 (fp_A B)) (F0 m 0 ls []) := by
  have hx := E.1
  have hb := E.2.1
  have hown := E.2.2.2.1
  unfold m_X10_moreGuests at h
  refine lv_aload_n hx hb dX10_moreGuests_0 rfl (lv_at hl 0 rfl) ?_
  refine fp_g10_0 E hG tw_215 dX10_moreGuests_1 ?_
  refine lv_aload_n hx hb dX10_moreGuests_4 rfl (lv_at hl 1 rfl) ?_
  refine lv_aload_n hx hb dX10_moreGuests_5 rfl (lv_at hl 2 rfl) ?_
  refine fp_g9_3 E hG hk2.1 tw_131 dX10_moreGuests_6 ?_
  obtain ⟨M_5, c_6, h⟩ := fp_b1_s h
  refine fp_callVv (As := [.ref (B + k1), .int (M k2 3)]) (rest := []) E hG (c_X2_join l D G B fp_is2_28 hk1 c_6) cv_X2_join tw_632 tw_485 tw_486 ⟨rfl, rfl⟩ ⟨Nat.le_of_ble_eq_true rfl, Nat.le_of_ble_eq_true rfl⟩ (fp_recv E hG fp_is2_28.1.1 (fp_o2 fp_is2_28.1 _) rfl) rfl rfl (Nat.le_of_ble_eq_true rfl) hl.1 dX10_moreGuests_9 ⟨Nat.zero_le _, Nat.zero_le _⟩ (fun H locs hG => ?_)
  refine lv_aload_n hx hb dX10_moreGuests_12 rfl (lv_at hl 0 rfl) ?_
  refine fp_g10_0 E hG tw_215 dX10_moreGuests_13 ?_
  refine lv_iload_n hx hb dX10_moreGuests_16 rfl (lv_at hl 3 rfl) ?_
  obtain ⟨r_7, c_8, h⟩ := fp_b1_s h
  refine fp_callVi (As := [.int p3]) (rest := []) E hG (c_X2_hangingTogether l D G B fp_is2_28 c_8) cv_X2_hangingTogether tw_633 tw_634 tw_635 ⟨rfl, rfl⟩ ⟨Nat.le_of_ble_eq_true rfl, Nat.le_of_ble_eq_true rfl⟩ (fp_recv E hG fp_is2_28.1.1 (fp_o2 fp_is2_28.1 _) rfl) rfl rfl (Nat.le_of_ble_eq_true rfl) hl.1 dX10_moreGuests_17 ⟨Nat.zero_le _, Nat.zero_le _⟩ (fun H locs hG => ?_)
  refine lv_istore (lv' := [(4, .int r_7), (0, .ref (B + 27)), (1, .ref (B + k1)), (2, .ref (B + k2)), (3, .int p3)]) hx hb dX10_moreGuests_20 hl (by decide) rfl (fun ls hl => ?_)
  refine lv_iconst (v := (nI 0)) hx hb dX10_moreGuests_22 (by decide) ?_
  refine lv_istore (lv' := [(5, .int (nI 0)), (4, .int r_7), (0, .ref (B + 27)), (1, .ref (B + k1)), (2, .ref (B + k2)), (3, .int p3)]) hx hb dX10_moreGuests_23 hl (by decide) rfl (fun ls hl => ?_)
  refine lv_iconst (v := (nI 0)) hx hb dX10_moreGuests_25 (by decide) ?_
  refine lv_istore (lv' := [(6, .int (nI 0)), (5, .int (nI 0)), (4, .int r_7), (0, .ref (B + 27)), (1, .ref (B + k1)), (2, .ref (B + k2)), (3, .int p3)]) hx hb dX10_moreGuests_26 hl (by decide) rfl (fun ls hl => ?_)
  exact w_X10_moreGuests_28 E hk1 hk2  fp_fu _ _ _ _ hG (lv_sub hl [4, 5, 2, 1, 0] rfl) h
theorem c_X10_moreGuests (l : Launch) (D : va_G) (G : Nat → ClassId) (B : Nat) {M : fp_Mem} {k1 : Nat} {k2 : Nat} {p3 : Int32} {r : Int32} {M' : fp_Mem} (hk1 : fp_is7 k1) (hk2 : fp_is9 k2) (h : m_X10_moreGuests M k1 k2 p3 = some (r, M')) : Met l yX10_moreGuests (Cond.code yX10_moreGuests cX10_moreGuests 7 (some .int) :: fp_T) rm_X10_moreGuests (va_Pc [.ref (B + 27), .ref (B + k1), .ref (B + k2), .int p3] (fp_GS D G B M)) (fp_Qi D G B r M') 0 0 (fp_A B) :=
  fp_met (own := RX10) (by decide) rfl (Nat.le_of_ble_eq_true rfl) (fun E hG hl => w_X10_moreGuests_0 E hk1 hk2 hG hl h)
abbrev rm_X10_leastFree : Room := { frames := 3, cells := 0, slots := 0, locals := 68 }
theorem cv_X10_leastFree : fp_CV yX10_leastFree cX10_leastFree 9 (some .int) 3 := ⟨tw_710, tw_7, by decide, by decide +kernel⟩
set_option maxHeartbeats 2000000 in
theorem w_X10_leastFree_107 {p : Program} {l : Launch} {e : Env} {s : State} {m : MethodId} {args : Array Value} {below : List Frame} {meth : Method} {c : Code} {D : va_G} {G : Nat → ClassId} {B : Nat} {k1 : Nat} {k2 : Nat} {p3 : Int32} {r : Int32} {M' : fp_Mem} (E : fp_EV p s m args meth c cX10_leastFree 9 RX10 (some .int) D G) (hk1 : fp_is7 k1) (hk2 : fp_is9 k2) (s0 : Int32) (M : fp_Mem) {H : Heap} {locs : List Loc} {ls : Array Slot} (hG : fp_H D G B s M H locs) (hl : lv_has ls 9 []) (h : m_X10_leastFree_107 k1 k2 p3 s0 M = some (r, M')) : W p l e rm_X10_leastFree s m args below meth c H locs 0 0 (MQ below (fp_Qi D G B r M') args s 0 0 (fp_A B)) (F0 m 107 ls [.int s0]) := by
  have hx := E.1
  have hb := E.2.1
  have hown := E.2.2.2.1
  unfold m_X10_leastFree_107 at h
  exact fp_ireti E hG (fp_pr1 h) (fp_pr2 h) dX10_leastFree_107
set_option maxHeartbeats 2000000 in
theorem w_X10_leastFree_82 {p : Program} {l : Launch} {e : Env} {s : State} {m : MethodId} {args : Array Value} {below : List Frame} {meth : Method} {c : Code} {D : va_G} {G : Nat → ClassId} {B : Nat} {k1 : Nat} {k2 : Nat} {p3 : Int32} {K35 : Int32 → Int32 → Int32 → Int32 → Int32 → fp_Mem → Option (Int32 × fp_Mem)} {r : Int32} {M' : fp_Mem} (E : fp_EV p s m args meth c cX10_leastFree 9 RX10 (some .int) D G) (hk1 : fp_is7 k1) (hk2 : fp_is9 k2) (HK35 : ∀ (wv4 : Int32) (wv5 : Int32) (wv6 : Int32) (wv7 : Int32) (wv8 : Int32) (wM : fp_Mem) {H : Heap} {locs : List Loc} {ls : Array Slot}, fp_H D G B s wM H locs → lv_has ls 9 [(1, .ref (B + k1)), (2, .ref (B + k2)), (4, .int wv4), (5, .int wv5), (6, .int wv6), (7, .int wv7), (8, .int wv8)] → K35 wv4 wv5 wv6 wv7 wv8 wM = some (r, M') → W p l e rm_X10_leastFree s m args below meth c H locs 0 0 (MQ below (fp_Qi D G B r M') args s 0 0 (fp_A B)) (F0 m 35 ls [])) (v4 : Int32) (v5 : Int32) (v6 : Int32) (v7 : Int32) (v8 : Int32) (M : fp_Mem) {H : Heap} {locs : List Loc} {ls : Array Slot} (hG : fp_H D G B s M H locs) (hl : lv_has ls 9 [(1, .ref (B + k1)), (2, .ref (B + k2)), (4, .int v4), (5, .int v5), (6, .int v6), (7, .int v7), (8, .int v8)]) (h : m_X10_leastFree_82 k1 k2 p3 K35 v4 v5 v6 v7 v8 M = some (r, M')) : W p l e rm_X10_leastFree s m args below meth c H locs 0 0 (MQ below (fp_Qi D G B r M') args s 0 0 (fp_A B)) (F0 m 82 ls []) := by
  have hx := E.1
  have hb := E.2.1
  have hown := E.2.2.2.1
  unfold m_X10_leastFree_82 at h
  obtain ⟨x_1, ex_1, h⟩ := fp_lt_s h
  refine lv_iinc (v := x_1) (lv' := [(8, .int x_1), (1, .ref (B + k1)), (2, .ref (B + k2)), (4, .int v4), (5, .int v5), (6, .int v6), (7, .int v7)]) hx hb dX10_leastFree_82 hl (k := 6) rfl (by rw [ex_1]; rfl) (by decide) rfl (fun ls hl => ?_)
  refine lv_goto (tgt := 35) hx hb dX10_leastFree_85 (by decide) ?_
  exact HK35 _ _ _ _ _ _ hG (lv_sub hl [1, 2, 3, 4, 5, 6, 0] rfl) h
set_option maxHeartbeats 2000000 in
theorem w_X10_leastFree_35 {p : Program} {l : Launch} {e : Env} {s : State} {m : MethodId} {args : Array Value} {below : List Frame} {meth : Method} {c : Code} {D : va_G} {G : Nat → ClassId} {B : Nat} {k1 : Nat} {k2 : Nat} {p3 : Int32} {r : Int32} {M' : fp_Mem} (E : fp_EV p s m args meth c cX10_leastFree 9 RX10 (some .int) D G) (hk1 : fp_is7 k1) (hk2 : fp_is9 k2) : ∀ (n : Nat) (v4 : Int32) (v5 : Int32) (v6 : Int32) (v7 : Int32) (v8 : Int32) (M : fp_Mem) {H : Heap} {locs : List Loc} {ls : Array Slot}, fp_H D G B s M H locs → lv_has ls 9 [(1, .ref (B + k1)), (2, .ref (B + k2)), (4, .int v4), (5, .int v5), (6, .int v6), (7, .int v7), (8, .int v8)] → m_X10_leastFree_35 k1 k2 p3 n v4 v5 v6 v7 v8 M = some (r, M') → W p l e rm_X10_leastFree s m args below meth c H locs 0 0 (MQ below (fp_Qi D G B r M') args s 0 0 (fp_A B)) (F0 m 35 ls []) := by
  have hx := E.1
  have hb := E.2.1
  have hown := E.2.2.2.1
  intro n
  induction n with
  | zero =>
    intro v4 v5 v6 v7 v8 M H locs ls hG hl h
    exact nomatch h
  | succ n ih =>
    have ihK := @ih
    intro v4 v5 v6 v7 v8 M H locs ls hG hl h
    rw [m_X10_leastFree_35] at h
    refine lv_iload hx hb dX10_leastFree_35 (lv_at hl 6 rfl) ?_
    refine lv_aload_n hx hb dX10_leastFree_37 rfl (lv_at hl 0 rfl) ?_
    refine fp_g7_3 E hG hk1.1 tw_47 dX10_leastFree_38 ?_
    refine lv_icmp_ge (tgt := 88) hx hb dX10_leastFree_41 (by decide) (fun q => ?_) (fun q => ?_)
    · replace h := fp_ifT q h
      refine lv_iload hx hb dX10_leastFree_88 (lv_at hl 4 rfl) ?_
      refine lv_if_le (tgt := 106) hx hb dX10_leastFree_90 (by decide) (fun q => ?_) (fun q => ?_)
      · replace h := fp_ifT q h
        refine lv_iconst (v := (nI 0)) hx hb dX10_leastFree_106 (by decide) ?_
        exact w_X10_leastFree_107 E hk1 hk2  _ _ hG (lv_sub hl [] rfl) h
      · replace h := fp_ifF q h
        refine lv_iload hx hb dX10_leastFree_93 (lv_at hl 5 rfl) ?_
        refine lv_iload hx hb dX10_leastFree_95 (lv_at hl 3 rfl) ?_
        refine lv_iload hx hb dX10_leastFree_97 (lv_at hl 4 rfl) ?_
        obtain ⟨g_2, h⟩ := fp_gd_s h
        refine lv_idiv hx hb dX10_leastFree_99 (of_decide_eq_true g_2) ?_
        refine va_mmin hx hb (E.2.2.1.trans hl.1.symm) hown (fp_tabs E tw_711) (fp_tabs E tw_548) (fp_tabs E tw_15) (fp_tabs E tw_549) (Nat.le_of_ble_eq_true rfl) (Nat.le_of_ble_eq_true rfl) (Nat.zero_le _) (Nat.zero_le _) dX10_leastFree_100 ?_
        refine lv_goto (tgt := 107) hx hb dX10_leastFree_103 (by decide) ?_
        exact w_X10_leastFree_107 E hk1 hk2  _ _ hG (lv_sub hl [] rfl) h
    · replace h := fp_ifF q h
      refine lv_iload hx hb dX10_leastFree_44 (lv_at hl 2 rfl) ?_
      refine lv_iload hx hb dX10_leastFree_46 (lv_at hl 6 rfl) ?_
      refine lv_ishr hx hb dX10_leastFree_48 ?_
      refine lv_iconst (v := (nI 1)) hx hb dX10_leastFree_49 (by decide) ?_
      refine lv_iand hx hb dX10_leastFree_50 ?_
      refine lv_if_eq (tgt := 82) hx hb dX10_leastFree_51 (by decide) (fun q => ?_) (fun q => ?_)
      · replace h := fp_ifT q h
        exact w_X10_leastFree_82 E hk1 hk2 ihK _ _ _ _ _ _ hG (lv_sub hl [0, 1, 2, 3, 4, 5, 6] rfl) h
      · replace h := fp_ifF q h
        refine lv_iload hx hb dX10_leastFree_54 (lv_at hl 3 rfl) ?_
        refine lv_aload_n hx hb dX10_leastFree_56 rfl (lv_at hl 1 rfl) ?_
        refine lv_iload hx hb dX10_leastFree_57 (lv_at hl 6 rfl) ?_
        obtain ⟨r_3, c_4, h⟩ := fp_b1_s h
        refine fp_callVi (As := [.int v8]) (rest := [.int v5]) E hG (c_X9_free l D G B hk2 c_4) cv_X9_free tw_641 tw_473 tw_474 ⟨rfl, rfl⟩ ⟨Nat.le_of_ble_eq_true rfl, Nat.le_of_ble_eq_true rfl⟩ (fp_recv E hG hk2.1.1 (fp_o9 hk2.1 _) rfl) rfl rfl (Nat.le_of_ble_eq_true rfl) hl.1 dX10_leastFree_59 ⟨Nat.zero_le _, Nat.zero_le _⟩ (fun H locs hG => ?_)
        refine lv_iadd hx hb dX10_leastFree_62 ?_
        obtain ⟨x_5, ex_5, h⟩ := fp_lt_s h
        refine fp_top ex_5 ?_
        refine lv_istore (lv' := [(5, .int x_5), (1, .ref (B + k1)), (2, .ref (B + k2)), (4, .int v4), (6, .int v6), (7, .int v7), (8, .int v8)]) hx hb dX10_leastFree_63 hl (by decide) rfl (fun ls hl => ?_)
        obtain ⟨x_6, ex_6, h⟩ := fp_lt_s h
        refine lv_iinc (v := x_6) (lv' := [(6, .int x_6), (5, .int x_5), (1, .ref (B + k1)), (2, .ref (B + k2)), (4, .int v4), (7, .int v7), (8, .int v8)]) hx hb dX10_leastFree_65 hl (k := 4) rfl (by rw [ex_6]; rfl) (by decide) rfl (fun ls hl => ?_)
        refine lv_iload hx hb dX10_leastFree_68 (lv_at hl 5 rfl) ?_
        refine lv_aload_n hx hb dX10_leastFree_70 rfl (lv_at hl 3 rfl) ?_
        refine fp_g9_0 E hG hk2.1 tw_122 dX10_leastFree_71 ?_
        refine lv_iload hx hb dX10_leastFree_74 (lv_at hl 6 rfl) ?_
        obtain ⟨g_7, h⟩ := fp_gd_s h
        refine fp_iald E hG (hk2.2.1).1 (fp_a20 (hk2.2.1)) (fp_in_s g_7) dX10_leastFree_76 ?_
        refine va_mmin hx hb (E.2.2.1.trans hl.1.symm) hown (fp_tabs E tw_711) (fp_tabs E tw_548) (fp_tabs E tw_15) (fp_tabs E tw_549) (Nat.le_of_ble_eq_true rfl) (Nat.le_of_ble_eq_true rfl) (Nat.zero_le _) (Nat.zero_le _) dX10_leastFree_77 ?_
        obtain ⟨x_8, ex_8, h⟩ := fp_lt_s h
        refine fp_top ex_8 ?_
        refine lv_istore (lv' := [(7, .int x_8), (6, .int x_6), (5, .int x_5), (1, .ref (B + k1)), (2, .ref (B + k2)), (4, .int v4), (8, .int v8)]) hx hb dX10_leastFree_80 hl (by decide) rfl (fun ls hl => ?_)
        exact w_X10_leastFree_82 E hk1 hk2 ihK _ _ _ _ _ _ hG (lv_sub hl [3, 4, 5, 2, 1, 0, 6] rfl) h
set_option maxHeartbeats 2000000 in
theorem w_X10_leastFree_0 {p : Program} {l : Launch} {e : Env} {s : State} {m : MethodId} {args : Array Value} {below : List Frame} {meth : Method} {c : Code} {D : va_G} {G : Nat → ClassId} {B : Nat} {k1 : Nat} {k2 : Nat} {p3 : Int32} {r : Int32} {M' : fp_Mem} (E : fp_EV p s m args meth c cX10_leastFree 9 RX10 (some .int) D G) (hk1 : fp_is7 k1) (hk2 : fp_is9 k2) {M : fp_Mem} {H : Heap} {locs : List Loc} {ls : Array Slot} (hG : fp_H D G B s M H locs) (hl : lv_has ls 9 [(0, .ref (B + 27)), (1, .ref (B + k1)), (2, .ref (B + k2)), (3, .int p3)]) (h : m_X10_leastFree M k1 k2 p3 = some (r, M')) : W p l e rm_X10_leastFree s m args below meth c H locs 0 0 (MQ below (fp_Qi D G B r M') args s 0 0 (fp_A B)) (F0 m 0 ls []) := by
  have hx := E.1
  have hb := E.2.1
  have hown := E.2.2.2.1
  unfold m_X10_leastFree at h
  refine lv_aload_n hx hb dX10_leastFree_0 rfl (lv_at hl 0 rfl) ?_
  refine fp_g10_0 E hG tw_215 dX10_leastFree_1 ?_
  refine lv_aload_n hx hb dX10_leastFree_4 rfl (lv_at hl 1 rfl) ?_
  refine lv_aload_n hx hb dX10_leastFree_5 rfl (lv_at hl 2 rfl) ?_
  refine fp_g9_3 E hG hk2.1 tw_131 dX10_leastFree_6 ?_
  obtain ⟨M_9, c_10, h⟩ := fp_b1_s h
  refine fp_callVv (As := [.ref (B + k1), .int (M k2 3)]) (rest := []) E hG (c_X2_join l D G B fp_is2_28 hk1 c_10) cv_X2_join tw_632 tw_485 tw_486 ⟨rfl, rfl⟩ ⟨Nat.le_of_ble_eq_true rfl, Nat.le_of_ble_eq_true rfl⟩ (fp_recv E hG fp_is2_28.1.1 (fp_o2 fp_is2_28.1 _) rfl) rfl rfl (Nat.le_of_ble_eq_true rfl) hl.1 dX10_leastFree_9 ⟨Nat.zero_le _, Nat.zero_le _⟩ (fun H locs hG => ?_)
  refine lv_aload_n hx hb dX10_leastFree_12 rfl (lv_at hl 0 rfl) ?_
  refine fp_g10_0 E hG tw_215 dX10_leastFree_13 ?_
  refine lv_iload_n hx hb dX10_leastFree_16 rfl (lv_at hl 3 rfl) ?_
  obtain ⟨r_11, c_12, h⟩ := fp_b1_s h
  refine fp_callVi (As := [.int p3]) (rest := []) E hG (c_X2_hangingTogether l D G B fp_is2_28 c_12) cv_X2_hangingTogether tw_633 tw_634 tw_635 ⟨rfl, rfl⟩ ⟨Nat.le_of_ble_eq_true rfl, Nat.le_of_ble_eq_true rfl⟩ (fp_recv E hG fp_is2_28.1.1 (fp_o2 fp_is2_28.1 _) rfl) rfl rfl (Nat.le_of_ble_eq_true rfl) hl.1 dX10_leastFree_17 ⟨Nat.zero_le _, Nat.zero_le _⟩ (fun H locs hG => ?_)
  refine lv_istore (lv' := [(4, .int r_11), (0, .ref (B + 27)), (1, .ref (B + k1)), (2, .ref (B + k2)), (3, .int p3)]) hx hb dX10_leastFree_20 hl (by decide) rfl (fun ls hl => ?_)
  refine lv_iconst (v := (nI 0)) hx hb dX10_leastFree_22 (by decide) ?_
  refine lv_istore (lv' := [(5, .int (nI 0)), (4, .int r_11), (0, .ref (B + 27)), (1, .ref (B + k1)), (2, .ref (B + k2)), (3, .int p3)]) hx hb dX10_leastFree_23 hl (by decide) rfl (fun ls hl => ?_)
  refine lv_iconst (v := (nI 0)) hx hb dX10_leastFree_25 (by decide) ?_
  refine lv_istore (lv' := [(6, .int (nI 0)), (5, .int (nI 0)), (4, .int r_11), (0, .ref (B + 27)), (1, .ref (B + k1)), (2, .ref (B + k2)), (3, .int p3)]) hx hb dX10_leastFree_26 hl (by decide) rfl (fun ls hl => ?_)
  refine lv_bipush (v := (nI 20)) hx hb dX10_leastFree_28 (by decide) ?_
  refine lv_istore (lv' := [(7, .int (nI 20)), (6, .int (nI 0)), (5, .int (nI 0)), (4, .int r_11), (0, .ref (B + 27)), (1, .ref (B + k1)), (2, .ref (B + k2)), (3, .int p3)]) hx hb dX10_leastFree_30 hl (by decide) rfl (fun ls hl => ?_)
  refine lv_iconst (v := (nI 0)) hx hb dX10_leastFree_32 (by decide) ?_
  refine lv_istore (lv' := [(8, .int (nI 0)), (7, .int (nI 20)), (6, .int (nI 0)), (5, .int (nI 0)), (4, .int r_11), (0, .ref (B + 27)), (1, .ref (B + k1)), (2, .ref (B + k2)), (3, .int p3)]) hx hb dX10_leastFree_33 hl (by decide) rfl (fun ls hl => ?_)
  exact w_X10_leastFree_35 E hk1 hk2  fp_fu _ _ _ _ _ _ hG (lv_sub hl [6, 7, 4, 3, 2, 1, 0] rfl) h
theorem c_X10_leastFree (l : Launch) (D : va_G) (G : Nat → ClassId) (B : Nat) {M : fp_Mem} {k1 : Nat} {k2 : Nat} {p3 : Int32} {r : Int32} {M' : fp_Mem} (hk1 : fp_is7 k1) (hk2 : fp_is9 k2) (h : m_X10_leastFree M k1 k2 p3 = some (r, M')) : Met l yX10_leastFree (Cond.code yX10_leastFree cX10_leastFree 9 (some .int) :: fp_T) rm_X10_leastFree (va_Pc [.ref (B + 27), .ref (B + k1), .ref (B + k2), .int p3] (fp_GS D G B M)) (fp_Qi D G B r M') 0 0 (fp_A B) :=
  fp_met (own := RX10) (by decide) rfl (Nat.le_of_ble_eq_true rfl) (fun E hG hl => w_X10_leastFree_0 E hk1 hk2 hG hl h)
abbrev rm_X10_movesCounted : Room := { frames := 4, cells := 0, slots := 0, locals := 97 }
theorem cv_X10_movesCounted : fp_CV yX10_movesCounted cX10_movesCounted 4 (some .int) 2 := ⟨tw_665, tw_7, by decide, by decide +kernel⟩
set_option maxHeartbeats 2000000 in
theorem w_X10_movesCounted_25 {p : Program} {l : Launch} {e : Env} {s : State} {m : MethodId} {args : Array Value} {below : List Frame} {meth : Method} {c : Code} {D : va_G} {G : Nat → ClassId} {B : Nat} {k1 : Nat} {p2 : Int32} {r : Int32} {M' : fp_Mem} (E : fp_EV p s m args meth c cX10_movesCounted 4 RX10 (some .int) D G) (hk1 : fp_is7 k1) (s0 : Int32) (M : fp_Mem) {H : Heap} {locs : List Loc} {ls : Array Slot} (hG : fp_H D G B s M H locs) (hl : lv_has ls 4 []) (h : m_X10_movesCounted_25 k1 p2 s0 M = some (r, M')) : W p l e rm_X10_movesCounted s m args below meth c H locs 0 0 (MQ below (fp_Qi D G B r M') args s 0 0 (fp_A B)) (F0 m 25 ls [.int s0]) := by
  have hx := E.1
  have hb := E.2.1
  have hown := E.2.2.2.1
  unfold m_X10_movesCounted_25 at h
  exact fp_ireti E hG (fp_pr1 h) (fp_pr2 h) dX10_movesCounted_25
set_option maxHeartbeats 2000000 in
theorem w_X10_movesCounted_0 {p : Program} {l : Launch} {e : Env} {s : State} {m : MethodId} {args : Array Value} {below : List Frame} {meth : Method} {c : Code} {D : va_G} {G : Nat → ClassId} {B : Nat} {k1 : Nat} {p2 : Int32} {r : Int32} {M' : fp_Mem} (E : fp_EV p s m args meth c cX10_movesCounted 4 RX10 (some .int) D G) (hk1 : fp_is7 k1) {M : fp_Mem} {H : Heap} {locs : List Loc} {ls : Array Slot} (hG : fp_H D G B s M H locs) (hl : lv_has ls 4 [(0, .ref (B + 27)), (1, .ref (B + k1)), (2, .int p2)]) (h : m_X10_movesCounted M k1 p2 = some (r, M')) : W p l e rm_X10_movesCounted s m args below meth c H locs 0 0 (MQ below (fp_Qi D G B r M') args s 0 0 (fp_A B)) (F0 m 0 ls []) := by
  have hx := E.1
  have hb := E.2.1
  have hown := E.2.2.2.1
  unfold m_X10_movesCounted at h
  refine lv_aload_n hx hb dX10_movesCounted_0 rfl (lv_at hl 0 rfl) ?_
  refine fp_g10_1 E hG tw_216 dX10_movesCounted_1 ?_
  refine lv_aload_n hx hb dX10_movesCounted_4 rfl (lv_at hl 1 rfl) ?_
  refine lv_aload_n hx hb dX10_movesCounted_5 rfl (lv_at hl 0 rfl) ?_
  refine fp_g10_2 E hG tw_217 dX10_movesCounted_6 ?_
  refine lv_iload_n hx hb dX10_movesCounted_9 rfl (lv_at hl 2 rfl) ?_
  obtain ⟨r_1, M_2, c_3, h⟩ := fp_b2_s h
  refine fp_callVi (As := [.ref (B + k1), .ref (B + 39), .int p2]) (rest := []) E hG (c_X0_guestComes l D G B fp_is0_33 hk1 fp_is9_39 c_3) cv_X0_guestComes tw_666 tw_551 tw_552 ⟨rfl, rfl⟩ ⟨Nat.le_of_ble_eq_true rfl, Nat.le_of_ble_eq_true rfl⟩ (fp_recv E hG fp_is0_33.1.1 (fp_o0 fp_is0_33.1 _) rfl) rfl rfl (Nat.le_of_ble_eq_true rfl) hl.1 dX10_movesCounted_10 ⟨Nat.zero_le _, Nat.zero_le _⟩ (fun H locs hG => ?_)
  refine lv_istore_n (lv' := [(3, .int r_1), (0, .ref (B + 27)), (1, .ref (B + k1)), (2, .int p2)]) hx hb dX10_movesCounted_13 rfl hl (by decide) rfl (fun ls hl => ?_)
  refine lv_iload_n hx hb dX10_movesCounted_14 rfl (lv_at hl 0 rfl) ?_
  refine lv_if_ge (tgt := 24) hx hb dX10_movesCounted_15 (by decide) (fun q => ?_) (fun q => ?_)
  · replace h := fp_ifT q h
    refine lv_iload_n hx hb dX10_movesCounted_24 rfl (lv_at hl 0 rfl) ?_
    exact w_X10_movesCounted_25 E hk1  _ _ hG (lv_sub hl [] rfl) h
  · replace h := fp_ifF q h
    refine lv_sipush (v := (nI 1000)) hx hb dX10_movesCounted_18 (by decide) ?_
    refine lv_goto (tgt := 25) hx hb dX10_movesCounted_21 (by decide) ?_
    exact w_X10_movesCounted_25 E hk1  _ _ hG (lv_sub hl [] rfl) h
theorem c_X10_movesCounted (l : Launch) (D : va_G) (G : Nat → ClassId) (B : Nat) {M : fp_Mem} {k1 : Nat} {p2 : Int32} {r : Int32} {M' : fp_Mem} (hk1 : fp_is7 k1) (h : m_X10_movesCounted M k1 p2 = some (r, M')) : Met l yX10_movesCounted (Cond.code yX10_movesCounted cX10_movesCounted 4 (some .int) :: fp_T) rm_X10_movesCounted (va_Pc [.ref (B + 27), .ref (B + k1), .int p2] (fp_GS D G B M)) (fp_Qi D G B r M') 0 0 (fp_A B) :=
  fp_met (own := RX10) (by decide) rfl (Nat.le_of_ble_eq_true rfl) (fun E hG hl => w_X10_movesCounted_0 E hk1 hG hl h)
abbrev rm_X10_movesOfTwo : Room := { frames := 5, cells := 0, slots := 0, locals := 120 }
theorem cv_X10_movesOfTwo : fp_CV yX10_movesOfTwo cX10_movesOfTwo 5 (some .int) 4 := ⟨tw_660, tw_7, by decide, by decide +kernel⟩
set_option maxHeartbeats 2000000 in
theorem w_X10_movesOfTwo_0 {p : Program} {l : Launch} {e : Env} {s : State} {m : MethodId} {args : Array Value} {below : List Frame} {meth : Method} {c : Code} {D : va_G} {G : Nat → ClassId} {B : Nat} {k1 : Nat} {k2 : Nat} {p3 : Int32} {p4 : Int32} {r : Int32} {M' : fp_Mem} (E : fp_EV p s m args meth c cX10_movesOfTwo 5 RX10 (some .int) D G) (hk1 : fp_is7 k1) (hk2 : fp_is9 k2) {M : fp_Mem} {H : Heap} {locs : List Loc} {ls : Array Slot} (hG : fp_H D G B s M H locs) (hl : lv_has ls 5 [(0, .ref (B + 27)), (1, .ref (B + k1)), (2, .ref (B + k2)), (3, .int p3), (4, .int p4)]) (h : m_X10_movesOfTwo M k1 k2 p3 p4 = some (r, M')) : W p l e rm_X10_movesOfTwo s m args below meth c H locs 0 0 (MQ below (fp_Qi D G B r M') args s 0 0 (fp_A B)) (F0 m 0 ls []) := by
  have hx := E.1
  have hb := E.2.1
  have hown := E.2.2.2.1
  unfold m_X10_movesOfTwo at h
  refine lv_aload_n hx hb dX10_movesOfTwo_0 rfl (lv_at hl 0 rfl) ?_
  refine fp_g10_2 E hG tw_217 dX10_movesOfTwo_1 ?_
  refine lv_aload_n hx hb dX10_movesOfTwo_4 rfl (lv_at hl 2 rfl) ?_
  obtain ⟨M_1, c_2, h⟩ := fp_b1_s h
  refine fp_callVv (As := [.ref (B + k2)]) (rest := []) E hG (c_X9_becomes l D G B fp_is9_39 hk2 c_2) cv_X9_becomes tw_661 tw_544 tw_545 ⟨rfl, rfl⟩ ⟨Nat.le_of_ble_eq_true rfl, Nat.le_of_ble_eq_true rfl⟩ (fp_recv E hG fp_is9_39.1.1 (fp_o9 fp_is9_39.1 _) rfl) rfl rfl (Nat.le_of_ble_eq_true rfl) hl.1 dX10_movesOfTwo_5 ⟨Nat.zero_le _, Nat.zero_le _⟩ (fun H locs hG => ?_)
  refine lv_aload_n hx hb dX10_movesOfTwo_8 rfl (lv_at hl 0 rfl) ?_
  refine lv_aload_n hx hb dX10_movesOfTwo_9 rfl (lv_at hl 1 rfl) ?_
  refine lv_iload_n hx hb dX10_movesOfTwo_10 rfl (lv_at hl 3 rfl) ?_
  obtain ⟨r_3, M_4, c_5, h⟩ := fp_b2_s h
  refine fp_callVi (As := [.ref (B + k1), .int p3]) (rest := []) E hG (c_X10_movesCounted l D G B hk1 c_5) cv_X10_movesCounted tw_662 tw_664 ts_15 ⟨rfl, rfl⟩ ⟨Nat.le_of_ble_eq_true rfl, Nat.le_of_ble_eq_true rfl⟩ (fp_recv E hG (by decide) (fp_o10 _) rfl) rfl rfl (Nat.le_of_ble_eq_true rfl) hl.1 dX10_movesOfTwo_11 ⟨Nat.zero_le _, Nat.zero_le _⟩ (fun H locs hG => ?_)
  refine lv_aload_n hx hb dX10_movesOfTwo_14 rfl (lv_at hl 0 rfl) ?_
  refine lv_aload_n hx hb dX10_movesOfTwo_15 rfl (lv_at hl 1 rfl) ?_
  refine lv_iload hx hb dX10_movesOfTwo_16 (lv_at hl 4 rfl) ?_
  obtain ⟨r_6, M_7, c_8, h⟩ := fp_b2_s h
  refine fp_callVi (As := [.ref (B + k1), .int p4]) (rest := [.int r_3]) E hG (c_X10_movesCounted l D G B hk1 c_8) cv_X10_movesCounted tw_662 tw_664 ts_15 ⟨rfl, rfl⟩ ⟨Nat.le_of_ble_eq_true rfl, Nat.le_of_ble_eq_true rfl⟩ (fp_recv E hG (by decide) (fp_o10 _) rfl) rfl rfl (Nat.le_of_ble_eq_true rfl) hl.1 dX10_movesOfTwo_18 ⟨Nat.zero_le _, Nat.zero_le _⟩ (fun H locs hG => ?_)
  refine lv_iadd hx hb dX10_movesOfTwo_21 ?_
  exact fp_ireti E hG (fp_pr1 h) (fp_pr2 h) dX10_movesOfTwo_22
theorem c_X10_movesOfTwo (l : Launch) (D : va_G) (G : Nat → ClassId) (B : Nat) {M : fp_Mem} {k1 : Nat} {k2 : Nat} {p3 : Int32} {p4 : Int32} {r : Int32} {M' : fp_Mem} (hk1 : fp_is7 k1) (hk2 : fp_is9 k2) (h : m_X10_movesOfTwo M k1 k2 p3 p4 = some (r, M')) : Met l yX10_movesOfTwo (Cond.code yX10_movesOfTwo cX10_movesOfTwo 5 (some .int) :: fp_T) rm_X10_movesOfTwo (va_Pc [.ref (B + 27), .ref (B + k1), .ref (B + k2), .int p3, .int p4] (fp_GS D G B M)) (fp_Qi D G B r M') 0 0 (fp_A B) :=
  fp_met (own := RX10) (by decide) rfl (Nat.le_of_ble_eq_true rfl) (fun E hG hl => w_X10_movesOfTwo_0 E hk1 hk2 hG hl h)
abbrev rm_X10_reachesAll : Room := { frames := 0, cells := 0, slots := 0, locals := 0 }
theorem cv_X10_reachesAll : fp_CV yX10_reachesAll cX10_reachesAll 5 (some .boolean) 3 := ⟨tw_693, tw_7, by decide, by decide +kernel⟩
set_option maxHeartbeats 2000000 in
theorem w_X10_reachesAll_35 {p : Program} {l : Launch} {e : Env} {s : State} {m : MethodId} {args : Array Value} {below : List Frame} {meth : Method} {c : Code} {D : va_G} {G : Nat → ClassId} {B : Nat} {M : fp_Mem} {k1 : Nat} {p2 : Int32} {p3 : Int32} {K3 : Int32 → Option (Int32)} {r : Int32} (E : fp_EV p s m args meth c cX10_reachesAll 5 RX10 (some .boolean) D G) (hk1 : fp_is7 k1) (HK3 : ∀ (wv4 : Int32) {H : Heap} {locs : List Loc} {ls : Array Slot}, fp_H D G B s M H locs → lv_has ls 5 [(0, .ref (B + 27)), (1, .ref (B + k1)), (2, .int p2), (3, .int p3), (4, .int wv4)] → K3 wv4 = some r → W p l e rm_X10_reachesAll s m args below meth c H locs 0 0 (MQ below (fp_Qi D G B r M) args s 0 0 (fp_A B)) (F0 m 3 ls [])) (v4 : Int32) {H : Heap} {locs : List Loc} {ls : Array Slot} (hG : fp_H D G B s M H locs) (hl : lv_has ls 5 [(0, .ref (B + 27)), (1, .ref (B + k1)), (2, .int p2), (3, .int p3), (4, .int v4)]) (h : m_X10_reachesAll_35 M k1 p2 p3 K3 v4 = some r) : W p l e rm_X10_reachesAll s m args below meth c H locs 0 0 (MQ below (fp_Qi D G B r M) args s 0 0 (fp_A B)) (F0 m 35 ls []) := by
  have hx := E.1
  have hb := E.2.1
  have hown := E.2.2.2.1
  unfold m_X10_reachesAll_35 at h
  obtain ⟨x_1, ex_1, h⟩ := fp_lt_s h
  refine lv_iinc (v := x_1) (lv' := [(4, .int x_1), (0, .ref (B + 27)), (1, .ref (B + k1)), (2, .int p2), (3, .int p3)]) hx hb dX10_reachesAll_35 hl (k := 4) rfl (by rw [ex_1]; rfl) (by decide) rfl (fun ls hl => ?_)
  refine lv_goto (tgt := 3) hx hb dX10_reachesAll_38 (by decide) ?_
  exact HK3 _ hG (lv_sub hl [1, 2, 3, 4, 0] rfl) h
set_option maxHeartbeats 2000000 in
theorem w_X10_reachesAll_3 {p : Program} {l : Launch} {e : Env} {s : State} {m : MethodId} {args : Array Value} {below : List Frame} {meth : Method} {c : Code} {D : va_G} {G : Nat → ClassId} {B : Nat} {M : fp_Mem} {k1 : Nat} {p2 : Int32} {p3 : Int32} {r : Int32} (E : fp_EV p s m args meth c cX10_reachesAll 5 RX10 (some .boolean) D G) (hk1 : fp_is7 k1) : ∀ (n : Nat) (v4 : Int32) {H : Heap} {locs : List Loc} {ls : Array Slot}, fp_H D G B s M H locs → lv_has ls 5 [(0, .ref (B + 27)), (1, .ref (B + k1)), (2, .int p2), (3, .int p3), (4, .int v4)] → m_X10_reachesAll_3 M k1 p2 p3 n v4 = some r → W p l e rm_X10_reachesAll s m args below meth c H locs 0 0 (MQ below (fp_Qi D G B r M) args s 0 0 (fp_A B)) (F0 m 3 ls []) := by
  have hx := E.1
  have hb := E.2.1
  have hown := E.2.2.2.1
  intro n
  induction n with
  | zero =>
    intro v4 H locs ls hG hl h
    exact nomatch h
  | succ n ih =>
    have ihK := @ih
    intro v4 H locs ls hG hl h
    rw [m_X10_reachesAll_3] at h
    refine lv_iload hx hb dX10_reachesAll_3 (lv_at hl 4 rfl) ?_
    refine lv_aload_n hx hb dX10_reachesAll_5 rfl (lv_at hl 1 rfl) ?_
    refine fp_g7_3 E hG hk1.1 tw_47 dX10_reachesAll_6 ?_
    refine lv_icmp_ge (tgt := 41) hx hb dX10_reachesAll_9 (by decide) (fun q => ?_) (fun q => ?_)
    · replace h := fp_ifT q h
      refine lv_iconst (v := (nI 1)) hx hb dX10_reachesAll_41 (by decide) ?_
      exact fp_iretz E hG rfl (Option.some.inj h) rfl dX10_reachesAll_42
    · replace h := fp_ifF q h
      refine lv_iload_n hx hb dX10_reachesAll_12 rfl (lv_at hl 2 rfl) ?_
      refine lv_iload hx hb dX10_reachesAll_13 (lv_at hl 4 rfl) ?_
      refine lv_ishr hx hb dX10_reachesAll_15 ?_
      refine lv_iconst (v := (nI 1)) hx hb dX10_reachesAll_16 (by decide) ?_
      refine lv_iand hx hb dX10_reachesAll_17 ?_
      refine lv_if_eq (tgt := 35) hx hb dX10_reachesAll_18 (by decide) (fun q => ?_) (fun q => ?_)
      · replace h := fp_ifT q h
        exact w_X10_reachesAll_35 E hk1 ihK _ hG (lv_sub hl [0, 1, 2, 3, 4] rfl) h
      · replace h := fp_ifF q h
        refine lv_aload_n hx hb dX10_reachesAll_21 rfl (lv_at hl 0 rfl) ?_
        refine fp_g10_3 E hG tw_218 dX10_reachesAll_22 ?_
        refine lv_iload hx hb dX10_reachesAll_25 (lv_at hl 4 rfl) ?_
        obtain ⟨g_2, h⟩ := fp_gd_s h
        refine fp_iald E hG fp_cc42.1 (fp_a20 fp_cc42) (fp_in_s g_2) dX10_reachesAll_27 ?_
        refine lv_iload_n hx hb dX10_reachesAll_28 rfl (lv_at hl 3 rfl) ?_
        refine lv_iand hx hb dX10_reachesAll_29 ?_
        refine lv_if_ne (tgt := 35) hx hb dX10_reachesAll_30 (by decide) (fun q => ?_) (fun q => ?_)
        · replace h := fp_ifF q h
          exact w_X10_reachesAll_35 E hk1 ihK _ hG (lv_sub hl [0, 1, 2, 3, 4] rfl) h
        · replace h := fp_ifT q h
          refine lv_iconst (v := (nI 0)) hx hb dX10_reachesAll_33 (by decide) ?_
          exact fp_iretz E hG rfl (Option.some.inj h) rfl dX10_reachesAll_34
set_option maxHeartbeats 2000000 in
theorem w_X10_reachesAll_0 {p : Program} {l : Launch} {e : Env} {s : State} {m : MethodId} {args : Array Value} {below : List Frame} {meth : Method} {c : Code} {D : va_G} {G : Nat → ClassId} {B : Nat} {M : fp_Mem} {k1 : Nat} {p2 : Int32} {p3 : Int32} {r : Int32} (E : fp_EV p s m args meth c cX10_reachesAll 5 RX10 (some .boolean) D G) (hk1 : fp_is7 k1) {H : Heap} {locs : List Loc} {ls : Array Slot} (hG : fp_H D G B s M H locs) (hl : lv_has ls 5 [(0, .ref (B + 27)), (1, .ref (B + k1)), (2, .int p2), (3, .int p3)]) (h : m_X10_reachesAll M k1 p2 p3 = some r) : W p l e rm_X10_reachesAll s m args below meth c H locs 0 0 (MQ below (fp_Qi D G B r M) args s 0 0 (fp_A B)) (F0 m 0 ls []) := by
  have hx := E.1
  have hb := E.2.1
  have hown := E.2.2.2.1
  unfold m_X10_reachesAll at h
  refine lv_iconst (v := (nI 0)) hx hb dX10_reachesAll_0 (by decide) ?_
  refine lv_istore (lv' := [(4, .int (nI 0)), (0, .ref (B + 27)), (1, .ref (B + k1)), (2, .int p2), (3, .int p3)]) hx hb dX10_reachesAll_1 hl (by decide) rfl (fun ls hl => ?_)
  exact w_X10_reachesAll_3 E hk1  fp_fu _ hG (lv_sub hl [1, 2, 3, 4, 0] rfl) h
theorem c_X10_reachesAll (l : Launch) (D : va_G) (G : Nat → ClassId) (B : Nat) {M : fp_Mem} {k1 : Nat} {p2 : Int32} {p3 : Int32} {r : Int32} (hk1 : fp_is7 k1) (h : m_X10_reachesAll M k1 p2 p3 = some r) : Met l yX10_reachesAll (Cond.code yX10_reachesAll cX10_reachesAll 5 (some .boolean) :: fp_T) rm_X10_reachesAll (va_Pc [.ref (B + 27), .ref (B + k1), .int p2, .int p3] (fp_GS D G B M)) (fp_Qi D G B r M) 0 0 (fp_A B) :=
  fp_met (own := RX10) (by decide) rfl (Nat.le_of_ble_eq_true rfl) (fun E hG hl => w_X10_reachesAll_0 E hk1 hG hl h)
abbrev rm_X10_isAhead : Room := { frames := 0, cells := 0, slots := 0, locals := 0 }
theorem cv_X10_isAhead : fp_CV yX10_isAhead cX10_isAhead 4 (some .boolean) 2 := ⟨tw_701, tw_7, by decide, by decide +kernel⟩
set_option maxHeartbeats 2000000 in
theorem w_X10_isAhead_25 {p : Program} {l : Launch} {e : Env} {s : State} {m : MethodId} {args : Array Value} {below : List Frame} {meth : Method} {c : Code} {D : va_G} {G : Nat → ClassId} {B : Nat} {M : fp_Mem} {p0 : Int32} {p1 : Int32} {r : Int32} (E : fp_EV p s m args meth c cX10_isAhead 4 RX10 (some .boolean) D G) (s0 : Int32) {H : Heap} {locs : List Loc} {ls : Array Slot} (hG : fp_H D G B s M H locs) (hl : lv_has ls 4 []) (h : m_X10_isAhead_25 M p0 p1 s0 = some r) : W p l e rm_X10_isAhead s m args below meth c H locs 0 0 (MQ below (fp_Qi D G B r M) args s 0 0 (fp_A B)) (F0 m 25 ls [.int s0]) := by
  have hx := E.1
  have hb := E.2.1
  have hown := E.2.2.2.1
  unfold m_X10_isAhead_25 at h
  obtain ⟨g_1, h⟩ := fp_gd_s h
  exact fp_iretz E hG g_1 (Option.some.inj h) rfl dX10_isAhead_25
set_option maxHeartbeats 2000000 in
theorem w_X10_isAhead_24 {p : Program} {l : Launch} {e : Env} {s : State} {m : MethodId} {args : Array Value} {below : List Frame} {meth : Method} {c : Code} {D : va_G} {G : Nat → ClassId} {B : Nat} {M : fp_Mem} {p0 : Int32} {p1 : Int32} {r : Int32} (E : fp_EV p s m args meth c cX10_isAhead 4 RX10 (some .boolean) D G) {H : Heap} {locs : List Loc} {ls : Array Slot} (hG : fp_H D G B s M H locs) (hl : lv_has ls 4 []) (h : m_X10_isAhead_24 M p0 p1 = some r) : W p l e rm_X10_isAhead s m args below meth c H locs 0 0 (MQ below (fp_Qi D G B r M) args s 0 0 (fp_A B)) (F0 m 24 ls []) := by
  have hx := E.1
  have hb := E.2.1
  have hown := E.2.2.2.1
  unfold m_X10_isAhead_24 at h
  refine lv_iconst (v := (nI 0)) hx hb dX10_isAhead_24 (by decide) ?_
  exact w_X10_isAhead_25 E   _ hG (lv_sub hl [] rfl) h
set_option maxHeartbeats 2000000 in
theorem w_X10_isAhead_0 {p : Program} {l : Launch} {e : Env} {s : State} {m : MethodId} {args : Array Value} {below : List Frame} {meth : Method} {c : Code} {D : va_G} {G : Nat → ClassId} {B : Nat} {M : fp_Mem} {p0 : Int32} {p1 : Int32} {r : Int32} (E : fp_EV p s m args meth c cX10_isAhead 4 RX10 (some .boolean) D G) {H : Heap} {locs : List Loc} {ls : Array Slot} (hG : fp_H D G B s M H locs) (hl : lv_has ls 4 [(0, .int p0), (1, .int p1)]) (h : m_X10_isAhead M p0 p1 = some r) : W p l e rm_X10_isAhead s m args below meth c H locs 0 0 (MQ below (fp_Qi D G B r M) args s 0 0 (fp_A B)) (F0 m 0 ls []) := by
  have hx := E.1
  have hb := E.2.1
  have hown := E.2.2.2.1
  unfold m_X10_isAhead at h
  refine lv_iload_n hx hb dX10_isAhead_0 rfl (lv_at hl 0 rfl) ?_
  refine lv_iload_n hx hb dX10_isAhead_1 rfl (lv_at hl 1 rfl) ?_
  refine lv_ixor hx hb dX10_isAhead_2 ?_
  obtain ⟨x_2, ex_2, h⟩ := fp_lt_s h
  refine fp_top ex_2 ?_
  refine lv_istore_n (lv' := [(2, .int x_2), (0, .int p0), (1, .int p1)]) hx hb dX10_isAhead_3 rfl hl (by decide) rfl (fun ls hl => ?_)
  refine lv_iload_n hx hb dX10_isAhead_4 rfl (lv_at hl 0 rfl) ?_
  refine lv_iload_n hx hb dX10_isAhead_5 rfl (lv_at hl 0 rfl) ?_
  refine lv_ineg hx hb dX10_isAhead_6 ?_
  refine lv_iand hx hb dX10_isAhead_7 ?_
  obtain ⟨x_3, ex_3, h⟩ := fp_lt_s h
  refine fp_top ex_3 ?_
  refine lv_istore_n (lv' := [(3, .int x_3), (2, .int x_2), (0, .int p0), (1, .int p1)]) hx hb dX10_isAhead_8 rfl hl (by decide) rfl (fun ls hl => ?_)
  refine lv_iload_n hx hb dX10_isAhead_9 rfl (lv_at hl 3 rfl) ?_
  refine lv_iconst (v := (-1 : Int32)) hx hb dX10_isAhead_10 (by decide) ?_
  refine lv_icmp_eq (tgt := 24) hx hb dX10_isAhead_11 (by decide) (fun q => ?_) (fun q => ?_)
  · replace h := fp_ifT q h
    exact w_X10_isAhead_24 E    hG (lv_sub hl [] rfl) h
  · replace h := fp_ifF q h
    refine lv_iload_n hx hb dX10_isAhead_14 rfl (lv_at hl 2 rfl) ?_
    refine lv_iload_n hx hb dX10_isAhead_15 rfl (lv_at hl 0 rfl) ?_
    refine lv_iand hx hb dX10_isAhead_16 ?_
    refine lv_if_eq (tgt := 24) hx hb dX10_isAhead_17 (by decide) (fun q => ?_) (fun q => ?_)
    · replace h := fp_ifT q h
      exact w_X10_isAhead_24 E    hG (lv_sub hl [] rfl) h
    · replace h := fp_ifF q h
      refine lv_iconst (v := (nI 1)) hx hb dX10_isAhead_20 (by decide) ?_
      refine lv_goto (tgt := 25) hx hb dX10_isAhead_21 (by decide) ?_
      exact w_X10_isAhead_25 E   _ hG (lv_sub hl [] rfl) h
theorem c_X10_isAhead (l : Launch) (D : va_G) (G : Nat → ClassId) (B : Nat) {M : fp_Mem}  {p0 : Int32} {p1 : Int32} {r : Int32}  (h : m_X10_isAhead M p0 p1 = some r) : Met l yX10_isAhead (Cond.code yX10_isAhead cX10_isAhead 4 (some .boolean) :: fp_T) rm_X10_isAhead (va_Pc [.int p0, .int p1] (fp_GS D G B M)) (fp_Qi D G B r M) 0 0 (fp_A B) :=
  fp_met (own := RX10) (by decide) rfl (Nat.le_of_ble_eq_true rfl) (fun E hG hl => w_X10_isAhead_0 E  hG hl h)
abbrev rm_X10_opened : Room := { frames := 2, cells := 0, slots := 0, locals := 47 }
theorem cv_X10_opened : fp_CV yX10_opened cX10_opened 11 (some .int) 4 := ⟨tw_680, tw_7, by decide, by decide +kernel⟩
set_option maxHeartbeats 2000000 in
theorem w_X10_opened_176 {p : Program} {l : Launch} {e : Env} {s : State} {m : MethodId} {args : Array Value} {below : List Frame} {meth : Method} {c : Code} {D : va_G} {G : Nat → ClassId} {B : Nat} {k1 : Nat} {k2 : Nat} {p3 : Int32} {p4 : Int32} {r : Int32} {M' : fp_Mem} (E : fp_EV p s m args meth c cX10_opened 11 RX10 (some .int) D G) (hk1 : fp_is7 k1) (hk2 : fp_is9 k2) (v7 : Int32) (M : fp_Mem) {H : Heap} {locs : List Loc} {ls : Array Slot} (hG : fp_H D G B s M H locs) (hl : lv_has ls 11 [(7, .int v7)]) (h : m_X10_opened_176 k1 k2 p3 p4 v7 M = some (r, M')) : W p l e rm_X10_opened s m args below meth c H locs 0 0 (MQ below (fp_Qi D G B r M') args s 0 0 (fp_A B)) (F0 m 176 ls []) := by
  have hx := E.1
  have hb := E.2.1
  have hown := E.2.2.2.1
  unfold m_X10_opened_176 at h
  refine lv_iload hx hb dX10_opened_176 (lv_at hl 0 rfl) ?_
  exact fp_ireti E hG (fp_pr1 h) (fp_pr2 h) dX10_opened_178
set_option maxHeartbeats 2000000 in
theorem w_X10_opened_170 {p : Program} {l : Launch} {e : Env} {s : State} {m : MethodId} {args : Array Value} {below : List Frame} {meth : Method} {c : Code} {D : va_G} {G : Nat → ClassId} {B : Nat} {k1 : Nat} {k2 : Nat} {p3 : Int32} {p4 : Int32} {K79 : Int32 → Int32 → Int32 → Int32 → Int32 → fp_Mem → Option (Int32 × fp_Mem)} {r : Int32} {M' : fp_Mem} (E : fp_EV p s m args meth c cX10_opened 11 RX10 (some .int) D G) (hk1 : fp_is7 k1) (hk2 : fp_is9 k2) (HK79 : ∀ (wv5 : Int32) (wv6 : Int32) (wv7 : Int32) (wv8 : Int32) (wv9 : Int32) (wM : fp_Mem) {H : Heap} {locs : List Loc} {ls : Array Slot}, fp_H D G B s wM H locs → lv_has ls 11 [(0, .ref (B + 27)), (1, .ref (B + k1)), (2, .ref (B + k2)), (3, .int p3), (5, .int wv5), (6, .int wv6), (7, .int wv7), (8, .int wv8), (9, .int wv9)] → K79 wv5 wv6 wv7 wv8 wv9 wM = some (r, M') → W p l e rm_X10_opened s m args below meth c H locs 0 0 (MQ below (fp_Qi D G B r M') args s 0 0 (fp_A B)) (F0 m 79 ls [])) (v5 : Int32) (v6 : Int32) (v7 : Int32) (v8 : Int32) (v9 : Int32) (M : fp_Mem) {H : Heap} {locs : List Loc} {ls : Array Slot} (hG : fp_H D G B s M H locs) (hl : lv_has ls 11 [(0, .ref (B + 27)), (1, .ref (B + k1)), (2, .ref (B + k2)), (3, .int p3), (5, .int v5), (6, .int v6), (7, .int v7), (8, .int v8), (9, .int v9)]) (h : m_X10_opened_170 k1 k2 p3 p4 K79 v5 v6 v7 v8 v9 M = some (r, M')) : W p l e rm_X10_opened s m args below meth c H locs 0 0 (MQ below (fp_Qi D G B r M') args s 0 0 (fp_A B)) (F0 m 170 ls []) := by
  have hx := E.1
  have hb := E.2.1
  have hown := E.2.2.2.1
  unfold m_X10_opened_170 at h
  obtain ⟨x_1, ex_1, h⟩ := fp_lt_s h
  refine lv_iinc (v := x_1) (lv' := [(9, .int x_1), (0, .ref (B + 27)), (1, .ref (B + k1)), (2, .ref (B + k2)), (3, .int p3), (5, .int v5), (6, .int v6), (7, .int v7), (8, .int v8)]) hx hb dX10_opened_170 hl (k := 8) rfl (by rw [ex_1]; rfl) (by decide) rfl (fun ls hl => ?_)
  refine lv_goto (tgt := 79) hx hb dX10_opened_173 (by decide) ?_
  exact HK79 _ _ _ _ _ _ hG (lv_sub hl [1, 2, 3, 4, 5, 6, 7, 8, 0] rfl) h
set_option maxHeartbeats 2000000 in
theorem w_X10_opened_162 {p : Program} {l : Launch} {e : Env} {s : State} {m : MethodId} {args : Array Value} {below : List Frame} {meth : Method} {c : Code} {D : va_G} {G : Nat → ClassId} {B : Nat} {k1 : Nat} {k2 : Nat} {p3 : Int32} {p4 : Int32} {K79 : Int32 → Int32 → Int32 → Int32 → Int32 → fp_Mem → Option (Int32 × fp_Mem)} {r : Int32} {M' : fp_Mem} (E : fp_EV p s m args meth c cX10_opened 11 RX10 (some .int) D G) (hk1 : fp_is7 k1) (hk2 : fp_is9 k2) (HK79 : ∀ (wv5 : Int32) (wv6 : Int32) (wv7 : Int32) (wv8 : Int32) (wv9 : Int32) (wM : fp_Mem) {H : Heap} {locs : List Loc} {ls : Array Slot}, fp_H D G B s wM H locs → lv_has ls 11 [(0, .ref (B + 27)), (1, .ref (B + k1)), (2, .ref (B + k2)), (3, .int p3), (5, .int wv5), (6, .int wv6), (7, .int wv7), (8, .int wv8), (9, .int wv9)] → K79 wv5 wv6 wv7 wv8 wv9 wM = some (r, M') → W p l e rm_X10_opened s m args below meth c H locs 0 0 (MQ below (fp_Qi D G B r M') args s 0 0 (fp_A B)) (F0 m 79 ls [])) (v5 : Int32) (v6 : Int32) (v9 : Int32) (v10 : Int32) (M : fp_Mem) {H : Heap} {locs : List Loc} {ls : Array Slot} (hG : fp_H D G B s M H locs) (hl : lv_has ls 11 [(0, .ref (B + 27)), (1, .ref (B + k1)), (2, .ref (B + k2)), (3, .int p3), (5, .int v5), (6, .int v6), (9, .int v9), (10, .int v10)]) (h : m_X10_opened_162 k1 k2 p3 p4 K79 v5 v6 v9 v10 M = some (r, M')) : W p l e rm_X10_opened s m args below meth c H locs 0 0 (MQ below (fp_Qi D G B r M') args s 0 0 (fp_A B)) (F0 m 162 ls []) := by
  have hx := E.1
  have hb := E.2.1
  have hown := E.2.2.2.1
  unfold m_X10_opened_162 at h
  refine lv_iload hx hb dX10_opened_162 (lv_at hl 7 rfl) ?_
  refine lv_istore (lv' := [(8, .int v10), (0, .ref (B + 27)), (1, .ref (B + k1)), (2, .ref (B + k2)), (3, .int p3), (5, .int v5), (6, .int v6), (9, .int v9), (10, .int v10)]) hx hb dX10_opened_164 hl (by decide) rfl (fun ls hl => ?_)
  refine lv_iload hx hb dX10_opened_166 (lv_at hl 7 rfl) ?_
  refine lv_istore (lv' := [(7, .int v9), (8, .int v10), (0, .ref (B + 27)), (1, .ref (B + k1)), (2, .ref (B + k2)), (3, .int p3), (5, .int v5), (6, .int v6), (9, .int v9), (10, .int v10)]) hx hb dX10_opened_168 hl (by decide) rfl (fun ls hl => ?_)
  exact w_X10_opened_170 E hk1 hk2 HK79 _ _ _ _ _ _ hG (lv_sub hl [2, 3, 4, 5, 6, 7, 0, 1, 8] rfl) h
set_option maxHeartbeats 2000000 in
theorem w_X10_opened_79 {p : Program} {l : Launch} {e : Env} {s : State} {m : MethodId} {args : Array Value} {below : List Frame} {meth : Method} {c : Code} {D : va_G} {G : Nat → ClassId} {B : Nat} {k1 : Nat} {k2 : Nat} {p3 : Int32} {p4 : Int32} {r : Int32} {M' : fp_Mem} (E : fp_EV p s m args meth c cX10_opened 11 RX10 (some .int) D G) (hk1 : fp_is7 k1) (hk2 : fp_is9 k2) : ∀ (n : Nat) (v5 : Int32) (v6 : Int32) (v7 : Int32) (v8 : Int32) (v9 : Int32) (M : fp_Mem) {H : Heap} {locs : List Loc} {ls : Array Slot}, fp_H D G B s M H locs → lv_has ls 11 [(0, .ref (B + 27)), (1, .ref (B + k1)), (2, .ref (B + k2)), (3, .int p3), (5, .int v5), (6, .int v6), (7, .int v7), (8, .int v8), (9, .int v9)] → m_X10_opened_79 k1 k2 p3 p4 n v5 v6 v7 v8 v9 M = some (r, M') → W p l e rm_X10_opened s m args below meth c H locs 0 0 (MQ below (fp_Qi D G B r M') args s 0 0 (fp_A B)) (F0 m 79 ls []) := by
  have hx := E.1
  have hb := E.2.1
  have hown := E.2.2.2.1
  intro n
  induction n with
  | zero =>
    intro v5 v6 v7 v8 v9 M H locs ls hG hl h
    exact nomatch h
  | succ n ih =>
    have ihK := @ih
    intro v5 v6 v7 v8 v9 M H locs ls hG hl h
    rw [m_X10_opened_79] at h
    refine lv_iload hx hb dX10_opened_79 (lv_at hl 8 rfl) ?_
    refine lv_iload hx hb dX10_opened_81 (lv_at hl 4 rfl) ?_
    refine lv_icmp_gt (tgt := 176) hx hb dX10_opened_83 (by decide) (fun q => ?_) (fun q => ?_)
    · replace h := fp_ifT q h
      exact w_X10_opened_176 E hk1 hk2  _ _ hG (lv_sub hl [6] rfl) h
    · replace h := fp_ifF q h
      refine lv_iload hx hb dX10_opened_86 (lv_at hl 7 rfl) ?_
      refine lv_if_le (tgt := 176) hx hb dX10_opened_88 (by decide) (fun q => ?_) (fun q => ?_)
      · replace h := fp_ifT q h
        exact w_X10_opened_176 E hk1 hk2  _ _ hG (lv_sub hl [6] rfl) h
      · replace h := fp_ifF q h
        refine lv_iload hx hb dX10_opened_91 (lv_at hl 8 rfl) ?_
        refine lv_iload hx hb dX10_opened_93 (lv_at hl 4 rfl) ?_
        refine lv_iconst (v := (-1 : Int32)) hx hb dX10_opened_95 (by decide) ?_
        refine lv_ixor hx hb dX10_opened_96 ?_
        refine lv_iand hx hb dX10_opened_97 ?_
        refine lv_if_ne (tgt := 170) hx hb dX10_opened_98 (by decide) (fun q => ?_) (fun q => ?_)
        · replace h := fp_ifF q h
          exact w_X10_opened_170 E hk1 hk2 ihK _ _ _ _ _ _ hG (lv_sub hl [0, 1, 2, 3, 4, 5, 6, 7, 8] rfl) h
        · replace h := fp_ifT q h
          refine lv_iload hx hb dX10_opened_101 (lv_at hl 8 rfl) ?_
          obtain ⟨r_2, c_3, h⟩ := fp_b1_s h
          refine fp_callSi (As := [.int v9]) (rest := []) E hG (c_J6_bitCount_0f7a4 l D G B c_3) cv_J6_bitCount_0f7a4 tw_684 tw_685 ⟨rfl, rfl⟩ ⟨Nat.le_of_ble_eq_true rfl, Nat.le_of_ble_eq_true rfl⟩ rfl rfl (Nat.le_of_ble_eq_true rfl) hl.1 dX10_opened_103 ⟨Nat.zero_le _, Nat.zero_le _⟩ (fun H locs hG => ?_)
          refine lv_iconst (v := (nI 4)) hx hb dX10_opened_106 (by decide) ?_
          refine lv_icmp_le (tgt := 113) hx hb dX10_opened_107 (by decide) (fun q => ?_) (fun q => ?_)
          · replace h := fp_ifT q h
            refine lv_aload_n hx hb dX10_opened_113 rfl (lv_at hl 0 rfl) ?_
            refine lv_aload_n hx hb dX10_opened_114 rfl (lv_at hl 1 rfl) ?_
            refine lv_iload_n hx hb dX10_opened_115 rfl (lv_at hl 3 rfl) ?_
            refine lv_iload hx hb dX10_opened_116 (lv_at hl 5 rfl) ?_
            refine lv_iload hx hb dX10_opened_118 (lv_at hl 8 rfl) ?_
            refine lv_ior hx hb dX10_opened_120 ?_
            obtain ⟨r_4, c_5, h⟩ := fp_b1_s h
            refine fp_callVi (As := [.ref (B + k1), .int p3, .int (v6 ||| v9)]) (rest := []) E hG (c_X10_reachesAll l D G B hk1 c_5) cv_X10_reachesAll tw_690 tw_692 ts_16 ⟨rfl, rfl⟩ ⟨Nat.le_of_ble_eq_true rfl, Nat.le_of_ble_eq_true rfl⟩ (fp_recv E hG (by decide) (fp_o10 _) rfl) rfl rfl (Nat.le_of_ble_eq_true rfl) hl.1 dX10_opened_121 ⟨Nat.zero_le _, Nat.zero_le _⟩ (fun H locs hG => ?_)
            refine lv_if_ne (tgt := 130) hx hb dX10_opened_124 (by decide) (fun q => ?_) (fun q => ?_)
            · replace h := fp_ifF q h
              refine lv_aload_n hx hb dX10_opened_130 rfl (lv_at hl 2 rfl) ?_
              refine lv_iload hx hb dX10_opened_131 (lv_at hl 8 rfl) ?_
              obtain ⟨r_6, c_7, h⟩ := fp_b1_s h
              refine fp_callVi (As := [.int v9]) (rest := []) E hG (c_X9_chairsFor l D G B hk2 c_7) cv_X9_chairsFor tw_694 tw_695 tw_696 ⟨rfl, rfl⟩ ⟨Nat.le_of_ble_eq_true rfl, Nat.le_of_ble_eq_true rfl⟩ (fp_recv E hG hk2.1.1 (fp_o9 hk2.1 _) rfl) rfl rfl (Nat.le_of_ble_eq_true rfl) hl.1 dX10_opened_133 ⟨Nat.zero_le _, Nat.zero_le _⟩ (fun H locs hG => ?_)
              refine lv_istore (lv' := [(10, .int r_6), (0, .ref (B + 27)), (1, .ref (B + k1)), (2, .ref (B + k2)), (3, .int p3), (5, .int v5), (6, .int v6), (7, .int v7), (8, .int v8), (9, .int v9)]) hx hb dX10_opened_136 hl (by decide) rfl (fun ls hl => ?_)
              refine lv_iload hx hb dX10_opened_138 (lv_at hl 0 rfl) ?_
              refine lv_iload hx hb dX10_opened_140 (lv_at hl 8 rfl) ?_
              refine lv_icmp_lt (tgt := 162) hx hb dX10_opened_142 (by decide) (fun q => ?_) (fun q => ?_)
              · replace h := fp_ifT q h
                exact w_X10_opened_162 E hk1 hk2 ihK _ _ _ _ _ hG (lv_sub hl [1, 2, 3, 4, 5, 6, 9, 0] rfl) h
              · replace h := fp_ifF q h
                refine lv_iload hx hb dX10_opened_145 (lv_at hl 0 rfl) ?_
                refine lv_iload hx hb dX10_opened_147 (lv_at hl 8 rfl) ?_
                refine lv_icmp_ne (tgt := 170) hx hb dX10_opened_149 (by decide) (fun q => ?_) (fun q => ?_)
                · replace h := fp_ifF q h
                  exact w_X10_opened_170 E hk1 hk2 ihK _ _ _ _ _ _ hG (lv_sub hl [1, 2, 3, 4, 5, 6, 7, 8, 9] rfl) h
                · replace h := fp_ifT q h
                  refine lv_iload hx hb dX10_opened_152 (lv_at hl 9 rfl) ?_
                  refine lv_iload hx hb dX10_opened_154 (lv_at hl 7 rfl) ?_
                  obtain ⟨r_8, c_9, h⟩ := fp_b1_s h
                  refine fp_callSi (As := [.int v9, .int v7]) (rest := []) E hG (c_X10_isAhead l D G B c_9) cv_X10_isAhead tw_699 tw_700 ⟨rfl, rfl⟩ ⟨Nat.le_of_ble_eq_true rfl, Nat.le_of_ble_eq_true rfl⟩ rfl rfl (Nat.le_of_ble_eq_true rfl) hl.1 dX10_opened_156 ⟨Nat.zero_le _, Nat.zero_le _⟩ (fun H locs hG => ?_)
                  refine lv_if_eq (tgt := 170) hx hb dX10_opened_159 (by decide) (fun q => ?_) (fun q => ?_)
                  · replace h := fp_ifT q h
                    exact w_X10_opened_170 E hk1 hk2 ihK _ _ _ _ _ _ hG (lv_sub hl [1, 2, 3, 4, 5, 6, 7, 8, 9] rfl) h
                  · replace h := fp_ifF q h
                    exact w_X10_opened_162 E hk1 hk2 ihK _ _ _ _ _ hG (lv_sub hl [1, 2, 3, 4, 5, 6, 9, 0] rfl) h
            · replace h := fp_ifT q h
              refine lv_goto (tgt := 170) hx hb dX10_opened_127 (by decide) ?_
              exact w_X10_opened_170 E hk1 hk2 ihK _ _ _ _ _ _ hG (lv_sub hl [0, 1, 2, 3, 4, 5, 6, 7, 8] rfl) h
          · replace h := fp_ifF q h
            refine lv_goto (tgt := 170) hx hb dX10_opened_110 (by decide) ?_
            exact w_X10_opened_170 E hk1 hk2 ihK _ _ _ _ _ _ hG (lv_sub hl [0, 1, 2, 3, 4, 5, 6, 7, 8] rfl) h
set_option maxHeartbeats 2000000 in
theorem w_X10_opened_15 {p : Program} {l : Launch} {e : Env} {s : State} {m : MethodId} {args : Array Value} {below : List Frame} {meth : Method} {c : Code} {D : va_G} {G : Nat → ClassId} {B : Nat} {k1 : Nat} {k2 : Nat} {p3 : Int32} {p4 : Int32} {r : Int32} {M' : fp_Mem} (E : fp_EV p s m args meth c cX10_opened 11 RX10 (some .int) D G) (hk1 : fp_is7 k1) (hk2 : fp_is9 k2) : ∀ (n : Nat) (v5 : Int32) (M : fp_Mem) {H : Heap} {locs : List Loc} {ls : Array Slot}, fp_H D G B s M H locs → lv_has ls 11 [(0, .ref (B + 27)), (1, .ref (B + k1)), (2, .ref (B + k2)), (3, .int p3), (4, .int p4), (5, .int v5)] → m_X10_opened_15 k1 k2 p3 p4 n v5 M = some (r, M') → W p l e rm_X10_opened s m args below meth c H locs 0 0 (MQ below (fp_Qi D G B r M') args s 0 0 (fp_A B)) (F0 m 15 ls []) := by
  have hx := E.1
  have hb := E.2.1
  have hown := E.2.2.2.1
  intro n
  induction n with
  | zero =>
    intro v5 M H locs ls hG hl h
    exact nomatch h
  | succ n ih =>
    have ihK := @ih
    intro v5 M H locs ls hG hl h
    rw [m_X10_opened_15] at h
    refine lv_iload hx hb dX10_opened_15 (lv_at hl 5 rfl) ?_
    refine lv_aload_n hx hb dX10_opened_17 rfl (lv_at hl 1 rfl) ?_
    refine fp_g7_3 E hG hk1.1 tw_47 dX10_opened_18 ?_
    refine lv_icmp_ge (tgt := 48) hx hb dX10_opened_21 (by decide) (fun q => ?_) (fun q => ?_)
    · replace h := fp_ifT q h
      refine lv_aload_n hx hb dX10_opened_48 rfl (lv_at hl 2 rfl) ?_
      refine lv_iconst (v := (nI 2)) hx hb dX10_opened_49 (by decide) ?_
      refine lv_aload_n hx hb dX10_opened_50 rfl (lv_at hl 1 rfl) ?_
      refine fp_g7_3 E hG hk1.1 tw_47 dX10_opened_51 ?_
      obtain ⟨r_10, c_11, h⟩ := fp_b1_s h
      refine fp_callVi (As := [.int (nI 2), .int (M k1 3)]) (rest := []) E hG (c_X9_withFreeBelow l D G B hk2 c_11) cv_X9_withFreeBelow tw_682 tw_469 tw_470 ⟨rfl, rfl⟩ ⟨Nat.le_of_ble_eq_true rfl, Nat.le_of_ble_eq_true rfl⟩ (fp_recv E hG hk2.1.1 (fp_o9 hk2.1 _) rfl) rfl rfl (Nat.le_of_ble_eq_true rfl) hl.1 dX10_opened_54 ⟨Nat.zero_le _, Nat.zero_le _⟩ (fun H locs hG => ?_)
      refine lv_istore (lv' := [(5, .int r_10), (0, .ref (B + 27)), (1, .ref (B + k1)), (2, .ref (B + k2)), (3, .int p3), (4, .int p4)]) hx hb dX10_opened_57 hl (by decide) rfl (fun ls hl => ?_)
      refine lv_aload_n hx hb dX10_opened_59 rfl (lv_at hl 2 rfl) ?_
      obtain ⟨r_12, c_13, h⟩ := fp_b1_s h
      refine fp_callVi (As := []) (rest := []) E hG (c_X7_allTables l D G B hk1 c_13) cv_X7_allTables tw_683 tw_490 tw_491 ⟨rfl, rfl⟩ ⟨Nat.le_of_ble_eq_true rfl, Nat.le_of_ble_eq_true rfl⟩ (fp_recv E hG hk1.1.1 (fp_o7 hk1.1 _) rfl) rfl rfl (Nat.le_of_ble_eq_true rfl) hl.1 dX10_opened_60 ⟨Nat.zero_le _, Nat.zero_le _⟩ (fun H locs hG => ?_)
      refine lv_iload hx hb dX10_opened_63 (lv_at hl 0 rfl) ?_
      refine lv_iconst (v := (-1 : Int32)) hx hb dX10_opened_65 (by decide) ?_
      refine lv_ixor hx hb dX10_opened_66 ?_
      refine lv_iand hx hb dX10_opened_67 ?_
      obtain ⟨x_14, ex_14, h⟩ := fp_lt_s h
      refine fp_top ex_14 ?_
      refine lv_istore (lv' := [(6, .int x_14), (5, .int r_10), (0, .ref (B + 27)), (1, .ref (B + k1)), (2, .ref (B + k2)), (3, .int p3), (4, .int p4)]) hx hb dX10_opened_68 hl (by decide) rfl (fun ls hl => ?_)
      refine lv_iconst (v := (-1 : Int32)) hx hb dX10_opened_70 (by decide) ?_
      refine lv_istore (lv' := [(7, .int (-1 : Int32)), (6, .int x_14), (5, .int r_10), (0, .ref (B + 27)), (1, .ref (B + k1)), (2, .ref (B + k2)), (3, .int p3), (4, .int p4)]) hx hb dX10_opened_71 hl (by decide) rfl (fun ls hl => ?_)
      refine lv_iconst (v := (nI 5)) hx hb dX10_opened_73 (by decide) ?_
      refine lv_istore (lv' := [(8, .int (nI 5)), (7, .int (-1 : Int32)), (6, .int x_14), (5, .int r_10), (0, .ref (B + 27)), (1, .ref (B + k1)), (2, .ref (B + k2)), (3, .int p3), (4, .int p4)]) hx hb dX10_opened_74 hl (by decide) rfl (fun ls hl => ?_)
      refine lv_iconst (v := (nI 0)) hx hb dX10_opened_76 (by decide) ?_
      refine lv_istore (lv' := [(9, .int (nI 0)), (8, .int (nI 5)), (7, .int (-1 : Int32)), (6, .int x_14), (5, .int r_10), (0, .ref (B + 27)), (1, .ref (B + k1)), (2, .ref (B + k2)), (3, .int p3), (4, .int p4)]) hx hb dX10_opened_77 hl (by decide) rfl (fun ls hl => ?_)
      exact w_X10_opened_79 E hk1 hk2  fp_fu _ _ _ _ _ _ hG (lv_sub hl [5, 6, 7, 8, 4, 3, 2, 1, 0] rfl) h
    · replace h := fp_ifF q h
      refine lv_aload_n hx hb dX10_opened_24 rfl (lv_at hl 0 rfl) ?_
      refine fp_g10_3 E hG tw_218 dX10_opened_25 ?_
      refine lv_iload hx hb dX10_opened_28 (lv_at hl 5 rfl) ?_
      refine lv_aload_n hx hb dX10_opened_30 rfl (lv_at hl 0 rfl) ?_
      refine fp_g10_0 E hG tw_215 dX10_opened_31 ?_
      refine lv_iload hx hb dX10_opened_34 (lv_at hl 5 rfl) ?_
      refine lv_iload hx hb dX10_opened_36 (lv_at hl 4 rfl) ?_
      obtain ⟨r_15, c_16, h⟩ := fp_b1_s h
      refine fp_callVi (As := [.int v5, .int p4]) (rest := [.int v5, .ref (B + 42)]) E hG (c_X2_within l D G B fp_is2_28 c_16) cv_X2_within tw_681 tw_638 tw_639 ⟨rfl, rfl⟩ ⟨Nat.le_of_ble_eq_true rfl, Nat.le_of_ble_eq_true rfl⟩ (fp_recv E hG fp_is2_28.1.1 (fp_o2 fp_is2_28.1 _) rfl) rfl rfl (Nat.le_of_ble_eq_true rfl) hl.1 dX10_opened_38 ⟨Nat.zero_le _, Nat.zero_le _⟩ (fun H locs hG => ?_)
      obtain ⟨g_17, h⟩ := fp_gd_s h
      obtain ⟨M_18, eM_18, h⟩ := fp_lt_s h
      refine fp_iast E hG fp_cc42.1 (fp_a20 fp_cc42) (fp_in_s g_17) dX10_opened_41 (fun H locs hG => ?_)
      replace hG := fp_memH eM_18 hG
      obtain ⟨x_19, ex_19, h⟩ := fp_lt_s h
      refine lv_iinc (v := x_19) (lv' := [(5, .int x_19), (0, .ref (B + 27)), (1, .ref (B + k1)), (2, .ref (B + k2)), (3, .int p3), (4, .int p4)]) hx hb dX10_opened_42 hl (k := 5) rfl (by rw [ex_19]; rfl) (by decide) rfl (fun ls hl => ?_)
      refine lv_goto (tgt := 15) hx hb dX10_opened_45 (by decide) ?_
      exact ih _ _ hG (lv_sub hl [1, 2, 3, 4, 5, 0] rfl) h
set_option maxHeartbeats 2000000 in
theorem w_X10_opened_0 {p : Program} {l : Launch} {e : Env} {s : State} {m : MethodId} {args : Array Value} {below : List Frame} {meth : Method} {c : Code} {D : va_G} {G : Nat → ClassId} {B : Nat} {k1 : Nat} {k2 : Nat} {p3 : Int32} {p4 : Int32} {r : Int32} {M' : fp_Mem} (E : fp_EV p s m args meth c cX10_opened 11 RX10 (some .int) D G) (hk1 : fp_is7 k1) (hk2 : fp_is9 k2) {M : fp_Mem} {H : Heap} {locs : List Loc} {ls : Array Slot} (hG : fp_H D G B s M H locs) (hl : lv_has ls 11 [(0, .ref (B + 27)), (1, .ref (B + k1)), (2, .ref (B + k2)), (3, .int p3), (4, .int p4)]) (h : m_X10_opened M k1 k2 p3 p4 = some (r, M')) : W p l e rm_X10_opened s m args below meth c H locs 0 0 (MQ below (fp_Qi D G B r M') args s 0 0 (fp_A B)) (F0 m 0 ls []) := by
  have hx := E.1
  have hb := E.2.1
  have hown := E.2.2.2.1
  unfold m_X10_opened at h
  refine lv_aload_n hx hb dX10_opened_0 rfl (lv_at hl 0 rfl) ?_
  refine fp_g10_0 E hG tw_215 dX10_opened_1 ?_
  refine lv_aload_n hx hb dX10_opened_4 rfl (lv_at hl 1 rfl) ?_
  refine lv_aload_n hx hb dX10_opened_5 rfl (lv_at hl 2 rfl) ?_
  refine fp_g9_3 E hG hk2.1 tw_131 dX10_opened_6 ?_
  obtain ⟨M_20, c_21, h⟩ := fp_b1_s h
  refine fp_callVv (As := [.ref (B + k1), .int (M k2 3)]) (rest := []) E hG (c_X2_join l D G B fp_is2_28 hk1 c_21) cv_X2_join tw_632 tw_485 tw_486 ⟨rfl, rfl⟩ ⟨Nat.le_of_ble_eq_true rfl, Nat.le_of_ble_eq_true rfl⟩ (fp_recv E hG fp_is2_28.1.1 (fp_o2 fp_is2_28.1 _) rfl) rfl rfl (Nat.le_of_ble_eq_true rfl) hl.1 dX10_opened_9 ⟨Nat.zero_le _, Nat.zero_le _⟩ (fun H locs hG => ?_)
  refine lv_iconst (v := (nI 0)) hx hb dX10_opened_12 (by decide) ?_
  refine lv_istore (lv' := [(5, .int (nI 0)), (0, .ref (B + 27)), (1, .ref (B + k1)), (2, .ref (B + k2)), (3, .int p3), (4, .int p4)]) hx hb dX10_opened_13 hl (by decide) rfl (fun ls hl => ?_)
  exact w_X10_opened_15 E hk1 hk2  fp_fu _ _ hG (lv_sub hl [1, 2, 3, 4, 5, 0] rfl) h
theorem c_X10_opened (l : Launch) (D : va_G) (G : Nat → ClassId) (B : Nat) {M : fp_Mem} {k1 : Nat} {k2 : Nat} {p3 : Int32} {p4 : Int32} {r : Int32} {M' : fp_Mem} (hk1 : fp_is7 k1) (hk2 : fp_is9 k2) (h : m_X10_opened M k1 k2 p3 p4 = some (r, M')) : Met l yX10_opened (Cond.code yX10_opened cX10_opened 11 (some .int) :: fp_T) rm_X10_opened (va_Pc [.ref (B + 27), .ref (B + k1), .ref (B + k2), .int p3, .int p4] (fp_GS D G B M)) (fp_Qi D G B r M') 0 0 (fp_A B) :=
  fp_met (own := RX10) (by decide) rfl (Nat.le_of_ble_eq_true rfl) (fun E hG hl => w_X10_opened_0 E hk1 hk2 hG hl h)

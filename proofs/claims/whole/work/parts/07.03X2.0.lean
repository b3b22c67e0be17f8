abbrev rm_X2_join : Room := { frames := 1, cells := 0, slots := 0, locals := 21 }
theorem cv_X2_join : fp_CV yX2_join cX2_join 6 none 2 := ⟨tw_487, tw_5, by decide, by decide +kernel⟩
set_option maxHeartbeats 2000000 in
theorem w_X2_join_109 {p : Program} {l : Launch} {e : Env} {s : State} {m : MethodId} {args : Array Value} {below : List Frame} {meth : Method} {c : Code} {D : va_G} {G : Nat → ClassId} {B : Nat} {k : Nat} {k1 : Nat} {p2 : Int32} {K31 : Int32 → fp_Mem → Option (fp_Mem)} {M' : fp_Mem} (E : fp_EV p s m args meth c cX2_join 6 RX2 none D G) (hk : fp_is2 k) (hk1 : fp_is7 k1) (HK31 : ∀ (wv3 : Int32) (wM : fp_Mem) {H : Heap} {locs : List Loc} {ls : Array Slot}, fp_H D G B s wM H locs → lv_has ls 6 [(0, .ref (B + k)), (1, .ref (B + k1)), (2, .int p2), (3, .int wv3)] → K31 wv3 wM = some M' → W p l e rm_X2_join s m args below meth c H locs 0 0 (MQ below (fp_Qv D G B M') args s 0 0 (fp_A B)) (F0 m 31 ls [])) (v3 : Int32) (M : fp_Mem) {H : Heap} {locs : List Loc} {ls : Array Slot} (hG : fp_H D G B s M H locs) (hl : lv_has ls 6 [(0, .ref (B + k)), (1, .ref (B + k1)), (2, .int p2), (3, .int v3)]) (h : m_X2_join_109 k k1 p2 K31 v3 M = some M') : W p l e rm_X2_join s m args below meth c H locs 0 0 (MQ below (fp_Qv D G B M') args s 0 0 (fp_A B)) (F0 m 109 ls []) := by
  have hx := E.1
  have hb := E.2.1
  have hown := E.2.2.2.1
  unfold m_X2_join_109 at h
  obtain ⟨x_1, ex_1, h⟩ := fp_lt_s h
  refine lv_iinc (v := x_1) (lv' := [(3, .int x_1), (0, .ref (B + k)), (1, .ref (B + k1)), (2, .int p2)]) hx hb dX2_join_109 hl (k := 3) rfl (by rw [ex_1]; rfl) (by decide) rfl (fun ls hl => ?_)
  refine lv_goto (tgt := 31) hx hb dX2_join_112 (by decide) ?_
  exact HK31 _ _ hG (lv_sub hl [1, 2, 3, 0] rfl) h
set_option maxHeartbeats 2000000 in
theorem w_X2_join_31 {p : Program} {l : Launch} {e : Env} {s : State} {m : MethodId} {args : Array Value} {below : List Frame} {meth : Method} {c : Code} {D : va_G} {G : Nat → ClassId} {B : Nat} {k : Nat} {k1 : Nat} {p2 : Int32} {M' : fp_Mem} (E : fp_EV p s m args meth c cX2_join 6 RX2 none D G) (hk : fp_is2 k) (hk1 : fp_is7 k1) : ∀ (n : Nat) (v3 : Int32) (M : fp_Mem) {H : Heap} {locs : List Loc} {ls : Array Slot}, fp_H D G B s M H locs → lv_has ls 6 [(0, .ref (B + k)), (1, .ref (B + k1)), (2, .int p2), (3, .int v3)] → m_X2_join_31 k k1 p2 n v3 M = some M' → W p l e rm_X2_join s m args below meth c H locs 0 0 (MQ below (fp_Qv D G B M') args s 0 0 (fp_A B)) (F0 m 31 ls []) := by
  have hx := E.1
  have hb := E.2.1
  have hown := E.2.2.2.1
  intro n
  induction n with
  | zero =>
    intro v3 M H locs ls hG hl h
    exact nomatch h
  | succ n ih =>
    have ihK := @ih
    intro v3 M H locs ls hG hl h
    rw [m_X2_join_31] at h
    refine lv_iload_n hx hb dX2_join_31 rfl (lv_at hl 3 rfl) ?_
    refine lv_aload_n hx hb dX2_join_32 rfl (lv_at hl 1 rfl) ?_
    refine fp_g7_4 E hG hk1.1 tw_53 dX2_join_33 ?_
    refine lv_icmp_ge (tgt := 115) hx hb dX2_join_36 (by decide) (fun q => ?_) (fun q => ?_)
    · replace h := fp_ifT q h
      exact fp_retv E hG (Option.some.inj h) dX2_join_115
    · replace h := fp_ifF q h
      refine lv_aload_n hx hb dX2_join_39 rfl (lv_at hl 1 rfl) ?_
      refine fp_g7_7 E hG hk1.1 tw_61 dX2_join_40 ?_
      refine lv_iload_n hx hb dX2_join_43 rfl (lv_at hl 3 rfl) ?_
      obtain ⟨g_2, h⟩ := fp_gd_s h
      refine fp_iald E hG (hk1.2.2.2.1).1 (fp_a21 (hk1.2.2.2.1)) (fp_in_s g_2) dX2_join_44 ?_
      obtain ⟨x_3, ex_3, h⟩ := fp_lt_s h
      refine fp_top ex_3 ?_
      refine lv_istore (lv' := [(4, .int x_3), (0, .ref (B + k)), (1, .ref (B + k1)), (2, .int p2), (3, .int v3)]) hx hb dX2_join_45 hl (by decide) rfl (fun ls hl => ?_)
      refine lv_aload_n hx hb dX2_join_47 rfl (lv_at hl 2 rfl) ?_
      refine fp_g7_8 E hG hk1.1 tw_64 dX2_join_48 ?_
      refine lv_iload_n hx hb dX2_join_51 rfl (lv_at hl 4 rfl) ?_
      obtain ⟨g_4, h⟩ := fp_gd_s h
      refine fp_iald E hG (hk1.2.2.2.2).1 (fp_a21 (hk1.2.2.2.2)) (fp_in_s g_4) dX2_join_52 ?_
      obtain ⟨x_5, ex_5, h⟩ := fp_lt_s h
      refine fp_top ex_5 ?_
      refine lv_istore (lv' := [(5, .int x_5), (4, .int x_3), (0, .ref (B + k)), (1, .ref (B + k1)), (2, .int p2), (3, .int v3)]) hx hb dX2_join_53 hl (by decide) rfl (fun ls hl => ?_)
      refine lv_iload_n hx hb dX2_join_55 rfl (lv_at hl 4 rfl) ?_
      refine lv_iload_n hx hb dX2_join_56 rfl (lv_at hl 5 rfl) ?_
      refine lv_ishr hx hb dX2_join_57 ?_
      refine lv_iconst (v := (nI 1)) hx hb dX2_join_58 (by decide) ?_
      refine lv_iand hx hb dX2_join_59 ?_
      refine lv_if_ne (tgt := 109) hx hb dX2_join_60 (by decide) (fun q => ?_) (fun q => ?_)
      · replace h := fp_ifF q h
        exact w_X2_join_109 E hk hk1 ihK _ _ hG (lv_sub hl [2, 3, 4, 5] rfl) h
      · replace h := fp_ifT q h
        refine lv_aload_n hx hb dX2_join_63 rfl (lv_at hl 3 rfl) ?_
        refine lv_iload hx hb dX2_join_64 (lv_at hl 1 rfl) ?_
        obtain ⟨r_6, c_7, h⟩ := fp_b1_s h
        refine fp_callVi (As := [.int x_3]) (rest := []) E hG (c_X7_hasTable l D G B hk1 c_7) cv_X7_hasTable tw_488 tw_437 tw_438 ⟨rfl, rfl⟩ ⟨Nat.le_of_ble_eq_true rfl, Nat.le_of_ble_eq_true rfl⟩ (fp_recv E hG hk1.1.1 (fp_o7 hk1.1 _) rfl) rfl rfl (Nat.le_of_ble_eq_true rfl) hl.1 dX2_join_66 ⟨Nat.zero_le _, Nat.zero_le _⟩ (fun H locs hG => ?_)
        refine lv_if_eq (tgt := 109) hx hb dX2_join_69 (by decide) (fun q => ?_) (fun q => ?_)
        · replace h := fp_ifT q h
          exact w_X2_join_109 E hk hk1 ihK _ _ hG (lv_sub hl [2, 3, 4, 5] rfl) h
        · replace h := fp_ifF q h
          refine lv_aload_n hx hb dX2_join_72 rfl (lv_at hl 3 rfl) ?_
          refine lv_iload hx hb dX2_join_73 (lv_at hl 0 rfl) ?_
          obtain ⟨r_8, c_9, h⟩ := fp_b1_s h
          refine fp_callVi (As := [.int x_5]) (rest := []) E hG (c_X7_hasTable l D G B hk1 c_9) cv_X7_hasTable tw_488 tw_437 tw_438 ⟨rfl, rfl⟩ ⟨Nat.le_of_ble_eq_true rfl, Nat.le_of_ble_eq_true rfl⟩ (fp_recv E hG hk1.1.1 (fp_o7 hk1.1 _) rfl) rfl rfl (Nat.le_of_ble_eq_true rfl) hl.1 dX2_join_75 ⟨Nat.zero_le _, Nat.zero_le _⟩ (fun H locs hG => ?_)
          refine lv_if_eq (tgt := 109) hx hb dX2_join_78 (by decide) (fun q => ?_) (fun q => ?_)
          · replace h := fp_ifT q h
            exact w_X2_join_109 E hk hk1 ihK _ _ hG (lv_sub hl [2, 3, 4, 5] rfl) h
          · replace h := fp_ifF q h
            refine lv_aload_n hx hb dX2_join_81 rfl (lv_at hl 2 rfl) ?_
            refine fp_g2_1 E hG hk.1 tw_176 dX2_join_82 ?_
            refine lv_iload hx hb dX2_join_85 (lv_at hl 1 rfl) ?_
            refine lv_dup2_11 hx hb dX2_join_87 rfl rfl ?_
            obtain ⟨g_10, h⟩ := fp_gd_s h
            refine fp_iald E hG (hk.2.1).1 (fp_a20 (hk.2.1)) (fp_in_s g_10) dX2_join_88 ?_
            refine lv_iconst (v := (nI 1)) hx hb dX2_join_89 (by decide) ?_
            refine lv_iload hx hb dX2_join_90 (lv_at hl 0 rfl) ?_
            refine lv_ishl hx hb dX2_join_92 ?_
            refine lv_ior hx hb dX2_join_93 ?_
            obtain ⟨g_11, h⟩ := fp_gd_s h
            obtain ⟨M_12, eM_12, h⟩ := fp_lt_s h
            refine fp_iast E hG (hk.2.1).1 (fp_a20 (hk.2.1)) (fp_in_s g_11) dX2_join_94 (fun H locs hG => ?_)
            replace hG := fp_memH eM_12 hG
            refine lv_aload_n hx hb dX2_join_95 rfl (lv_at hl 2 rfl) ?_
            refine fp_g2_1 E hG hk.1 tw_176 dX2_join_96 ?_
            refine lv_iload hx hb dX2_join_99 (lv_at hl 0 rfl) ?_
            refine lv_dup2_11 hx hb dX2_join_101 rfl rfl ?_
            obtain ⟨g_13, h⟩ := fp_gd_s h
            refine fp_iald E hG (hk.2.1).1 (fp_a20 (hk.2.1)) (fp_in_s g_13) dX2_join_102 ?_
            refine lv_iconst (v := (nI 1)) hx hb dX2_join_103 (by decide) ?_
            refine lv_iload hx hb dX2_join_104 (lv_at hl 1 rfl) ?_
            refine lv_ishl hx hb dX2_join_106 ?_
            refine lv_ior hx hb dX2_join_107 ?_
            obtain ⟨g_14, h⟩ := fp_gd_s h
            obtain ⟨M_15, eM_15, h⟩ := fp_lt_s h
            refine fp_iast E hG (hk.2.1).1 (fp_a20 (hk.2.1)) (fp_in_s g_14) dX2_join_108 (fun H locs hG => ?_)
            replace hG := fp_memH eM_15 hG
            exact w_X2_join_109 E hk hk1 ihK _ _ hG (lv_sub hl [2, 3, 4, 5] rfl) h
set_option maxHeartbeats 2000000 in
theorem w_X2_join_10 {p : Program} {l : Launch} {e : Env} {s : State} {m : MethodId} {args : Array Value} {below : List Frame} {meth : Method} {c : Code} {D : va_G} {G : Nat → ClassId} {B : Nat} {k : Nat} {k1 : Nat} {p2 : Int32} {M' : fp_Mem} (E : fp_EV p s m args meth c cX2_join 6 RX2 none D G) (hk : fp_is2 k) (hk1 : fp_is7 k1) : ∀ (n : Nat) (v3 : Int32) (M : fp_Mem) {H : Heap} {locs : List Loc} {ls : Array Slot}, fp_H D G B s M H locs → lv_has ls 6 [(0, .ref (B + k)), (1, .ref (B + k1)), (2, .int p2), (3, .int v3)] → m_X2_join_10 k k1 p2 n v3 M = some M' → W p l e rm_X2_join s m args below meth c H locs 0 0 (MQ below (fp_Qv D G B M') args s 0 0 (fp_A B)) (F0 m 10 ls []) := by
  have hx := E.1
  have hb := E.2.1
  have hown := E.2.2.2.1
  intro n
  induction n with
  | zero =>
    intro v3 M H locs ls hG hl h
    exact nomatch h
  | succ n ih =>
    have ihK := @ih
    intro v3 M H locs ls hG hl h
    rw [m_X2_join_10] at h
    refine lv_iload_n hx hb dX2_join_10 rfl (lv_at hl 3 rfl) ?_
    refine lv_bipush (v := (nI 9)) hx hb dX2_join_11 (by decide) ?_
    refine lv_icmp_ge (tgt := 29) hx hb dX2_join_13 (by decide) (fun q => ?_) (fun q => ?_)
    · replace h := fp_ifT q h
      refine lv_iconst (v := (nI 0)) hx hb dX2_join_29 (by decide) ?_
      refine lv_istore_n (lv' := [(3, .int (nI 0)), (0, .ref (B + k)), (1, .ref (B + k1)), (2, .int p2)]) hx hb dX2_join_30 rfl hl (by decide) rfl (fun ls hl => ?_)
      exact w_X2_join_31 E hk hk1  fp_fu _ _ hG (lv_sub hl [1, 2, 3, 0] rfl) h
    · replace h := fp_ifF q h
      refine lv_aload_n hx hb dX2_join_16 rfl (lv_at hl 0 rfl) ?_
      refine fp_g2_1 E hG hk.1 tw_176 dX2_join_17 ?_
      refine lv_iload_n hx hb dX2_join_20 rfl (lv_at hl 3 rfl) ?_
      refine lv_iconst (v := (nI 0)) hx hb dX2_join_21 (by decide) ?_
      obtain ⟨g_16, h⟩ := fp_gd_s h
      obtain ⟨M_17, eM_17, h⟩ := fp_lt_s h
      refine fp_iast E hG (hk.2.1).1 (fp_a20 (hk.2.1)) (fp_in_s g_16) dX2_join_22 (fun H locs hG => ?_)
      replace hG := fp_memH eM_17 hG
      obtain ⟨x_18, ex_18, h⟩ := fp_lt_s h
      refine lv_iinc (v := x_18) (lv' := [(3, .int x_18), (0, .ref (B + k)), (1, .ref (B + k1)), (2, .int p2)]) hx hb dX2_join_23 hl (k := 3) rfl (by rw [ex_18]; rfl) (by decide) rfl (fun ls hl => ?_)
      refine lv_goto (tgt := 10) hx hb dX2_join_26 (by decide) ?_
      exact ih _ _ hG (lv_sub hl [1, 2, 3, 0] rfl) h
set_option maxHeartbeats 2000000 in
theorem w_X2_join_0 {p : Program} {l : Launch} {e : Env} {s : State} {m : MethodId} {args : Array Value} {below : List Frame} {meth : Method} {c : Code} {D : va_G} {G : Nat → ClassId} {B : Nat} {k : Nat} {k1 : Nat} {p2 : Int32} {M' : fp_Mem} (E : fp_EV p s m args meth c cX2_join 6 RX2 none D G) (hk : fp_is2 k) (hk1 : fp_is7 k1) {M : fp_Mem} {H : Heap} {locs : List Loc} {ls : Array Slot} (hG : fp_H D G B s M H locs) (hl : lv_has ls 6 [(0, .ref (B + k)), (1, .ref (B + k1)), (2, .int p2)]) (h : m_X2_join M k k1 p2 = some M') : W p l e rm_X2_join s m args below meth c H locs 0 0 (MQ below (fp_Qv D G B M') args s 0 0 (fp_A B)) (F0 m 0 ls []) := by
  have hx := E.1
  have hb := E.2.1
  have hown := E.2.2.2.1
  unfold m_X2_join at h
  refine lv_aload_n hx hb dX2_join_0 rfl (lv_at hl 0 rfl) ?_
  refine lv_aload_n hx hb dX2_join_1 rfl (lv_at hl 1 rfl) ?_
  refine fp_g7_3 E hG hk1.1 tw_50 dX2_join_2 ?_
  obtain ⟨M_19, eM_19, h⟩ := fp_lt_s h
  refine fp_p2_0 E hG hk.1 tw_174 dX2_join_5 (fun H locs hG => ?_)
  replace hG := fp_memH eM_19 hG
  refine lv_iconst (v := (nI 0)) hx hb dX2_join_8 (by decide) ?_
  refine lv_istore_n (lv' := [(3, .int (nI 0)), (0, .ref (B + k)), (1, .ref (B + k1)), (2, .int p2)]) hx hb dX2_join_9 rfl hl (by decide) rfl (fun ls hl => ?_)
  exact w_X2_join_10 E hk hk1  fp_fu _ _ hG (lv_sub hl [1, 2, 3, 0] rfl) h
theorem c_X2_join (l : Launch) (D : va_G) (G : Nat → ClassId) (B : Nat) {M : fp_Mem} {k : Nat} {k1 : Nat} {p2 : Int32} {M' : fp_Mem} (hk : fp_is2 k) (hk1 : fp_is7 k1) (h : m_X2_join M k k1 p2 = some M') : Met l yX2_join (Cond.code yX2_join cX2_join 6 none :: fp_T) rm_X2_join (va_Pc [.ref (B + k), .ref (B + k1), .int p2] (fp_GS D G B M)) (fp_Qv D G B M') 0 0 (fp_A B) :=
  fp_met (own := RX2) (by decide) rfl (Nat.le_of_ble_eq_true rfl) (fun E hG hl => w_X2_join_0 E hk hk1 hG hl h)
abbrev rm_X2_link : Room := { frames := 1, cells := 0, slots := 0, locals := 21 }
theorem cv_X2_link : fp_CV yX2_link cX2_link 6 none 3 := ⟨tw_497, tw_5, by decide, by decide +kernel⟩
set_option maxHeartbeats 2000000 in
theorem w_X2_link_83 {p : Program} {l : Launch} {e : Env} {s : State} {m : MethodId} {args : Array Value} {below : List Frame} {meth : Method} {c : Code} {D : va_G} {G : Nat → ClassId} {B : Nat} {k : Nat} {p1 : Int32} {p2 : Int32} {p3 : Int32} {K3 : Int32 → fp_Mem → Option (fp_Mem)} {M' : fp_Mem} (E : fp_EV p s m args meth c cX2_link 6 RX2 none D G) (hk : fp_is2 k) (HK3 : ∀ (wv4 : Int32) (wM : fp_Mem) {H : Heap} {locs : List Loc} {ls : Array Slot}, fp_H D G B s wM H locs → lv_has ls 6 [(0, .ref (B + k)), (1, .int p1), (2, .int p2), (3, .int p3), (4, .int wv4)] → K3 wv4 wM = some M' → W p l e rm_X2_link s m args below meth c H locs 0 0 (MQ below (fp_Qv D G B M') args s 0 0 (fp_A B)) (F0 m 3 ls [])) (v4 : Int32) (M : fp_Mem) {H : Heap} {locs : List Loc} {ls : Array Slot} (hG : fp_H D G B s M H locs) (hl : lv_has ls 6 [(0, .ref (B + k)), (1, .int p1), (2, .int p2), (3, .int p3), (4, .int v4)]) (h : m_X2_link_83 k p1 p2 p3 K3 v4 M = some M') : W p l e rm_X2_link s m args below meth c H locs 0 0 (MQ below (fp_Qv D G B M') args s 0 0 (fp_A B)) (F0 m 83 ls []) := by
  have hx := E.1
  have hb := E.2.1
  have hown := E.2.2.2.1
  unfold m_X2_link_83 at h
  obtain ⟨x_1, ex_1, h⟩ := fp_lt_s h
  refine lv_iinc (v := x_1) (lv' := [(4, .int x_1), (0, .ref (B + k)), (1, .int p1), (2, .int p2), (3, .int p3)]) hx hb dX2_link_83 hl (k := 4) rfl (by rw [ex_1]; rfl) (by decide) rfl (fun ls hl => ?_)
  refine lv_goto (tgt := 3) hx hb dX2_link_86 (by decide) ?_
  exact HK3 _ _ hG (lv_sub hl [1, 2, 3, 4, 0] rfl) h
set_option maxHeartbeats 2000000 in
theorem w_X2_link_3 {p : Program} {l : Launch} {e : Env} {s : State} {m : MethodId} {args : Array Value} {below : List Frame} {meth : Method} {c : Code} {D : va_G} {G : Nat → ClassId} {B : Nat} {k : Nat} {p1 : Int32} {p2 : Int32} {p3 : Int32} {M' : fp_Mem} (E : fp_EV p s m args meth c cX2_link 6 RX2 none D G) (hk : fp_is2 k) : ∀ (n : Nat) (v4 : Int32) (M : fp_Mem) {H : Heap} {locs : List Loc} {ls : Array Slot}, fp_H D G B s M H locs → lv_has ls 6 [(0, .ref (B + k)), (1, .int p1), (2, .int p2), (3, .int p3), (4, .int v4)] → m_X2_link_3 k p1 p2 p3 n v4 M = some M' → W p l e rm_X2_link s m args below meth c H locs 0 0 (MQ below (fp_Qv D G B M') args s 0 0 (fp_A B)) (F0 m 3 ls []) := by
  have hx := E.1
  have hb := E.2.1
  have hown := E.2.2.2.1
  intro n
  induction n with
  | zero =>
    intro v4 M H locs ls hG hl h
    exact nomatch h
  | succ n ih =>
    have ihK := @ih
    intro v4 M H locs ls hG hl h
    rw [m_X2_link_3] at h
    refine lv_iload hx hb dX2_link_3 (lv_at hl 4 rfl) ?_
    refine lv_aload_n hx hb dX2_link_5 rfl (lv_at hl 0 rfl) ?_
    refine fp_g2_0 E hG hk.1 tw_174 dX2_link_6 ?_
    refine lv_icmp_ge (tgt := 89) hx hb dX2_link_9 (by decide) (fun q => ?_) (fun q => ?_)
    · replace h := fp_ifT q h
      exact fp_retv E hG (Option.some.inj h) dX2_link_89
    · replace h := fp_ifF q h
      refine lv_iload_n hx hb dX2_link_12 rfl (lv_at hl 1 rfl) ?_
      refine lv_iload hx hb dX2_link_13 (lv_at hl 4 rfl) ?_
      refine lv_ishr hx hb dX2_link_15 ?_
      refine lv_iconst (v := (nI 1)) hx hb dX2_link_16 (by decide) ?_
      refine lv_iand hx hb dX2_link_17 ?_
      refine lv_if_ne (tgt := 24) hx hb dX2_link_18 (by decide) (fun q => ?_) (fun q => ?_)
      · replace h := fp_ifF q h
        refine lv_aload_n hx hb dX2_link_24 rfl (lv_at hl 0 rfl) ?_
        refine fp_g2_2 E hG hk.1 tw_177 dX2_link_25 ?_
        refine lv_iload hx hb dX2_link_28 (lv_at hl 4 rfl) ?_
        refine lv_iload_n hx hb dX2_link_30 rfl (lv_at hl 2 rfl) ?_
        obtain ⟨g_2, h⟩ := fp_gd_s h
        obtain ⟨M_3, eM_3, h⟩ := fp_lt_s h
        refine fp_iast E hG (hk.2.2.1).1 (fp_a20 (hk.2.2.1)) (fp_in_s g_2) dX2_link_31 (fun H locs hG => ?_)
        replace hG := fp_memH eM_3 hG
        refine lv_aload_n hx hb dX2_link_32 rfl (lv_at hl 0 rfl) ?_
        refine fp_g2_1 E hG hk.1 tw_176 dX2_link_33 ?_
        refine lv_iload hx hb dX2_link_36 (lv_at hl 4 rfl) ?_
        obtain ⟨g_4, h⟩ := fp_gd_s h
        refine fp_iald E hG (hk.2.1).1 (fp_a20 (hk.2.1)) (fp_in_s g_4) dX2_link_38 ?_
        refine lv_iload_n hx hb dX2_link_39 rfl (lv_at hl 3 rfl) ?_
        refine lv_iand hx hb dX2_link_40 ?_
        obtain ⟨r_5, c_6, h⟩ := fp_b1_s h
        refine fp_callSi (As := [.int ((M_3 (k + 1) (Int32.toNatClampNeg v4)) &&& p3)]) (rest := []) E hG (c_J6_numberOfTrailingZeros_0f7a4 l D G B c_6) cv_J6_numberOfTrailingZeros_0f7a4 tw_498 tw_499 ⟨rfl, rfl⟩ ⟨Nat.le_of_ble_eq_true rfl, Nat.le_of_ble_eq_true rfl⟩ rfl rfl (Nat.le_of_ble_eq_true rfl) hl.1 dX2_link_41 ⟨Nat.zero_le _, Nat.zero_le _⟩ (fun H locs hG => ?_)
        refine lv_istore (lv' := [(5, .int r_5), (0, .ref (B + k)), (1, .int p1), (2, .int p2), (3, .int p3), (4, .int v4)]) hx hb dX2_link_44 hl (by decide) rfl (fun ls hl => ?_)
        refine lv_iload hx hb dX2_link_46 (lv_at hl 0 rfl) ?_
        refine lv_aload_n hx hb dX2_link_48 rfl (lv_at hl 1 rfl) ?_
        refine fp_g2_0 E hG hk.1 tw_174 dX2_link_49 ?_
        refine lv_icmp_ge (tgt := 83) hx hb dX2_link_52 (by decide) (fun q => ?_) (fun q => ?_)
        · replace h := fp_ifT q h
          exact w_X2_link_83 E hk ihK _ _ hG (lv_sub hl [1, 2, 3, 4, 5] rfl) h
        · replace h := fp_ifF q h
          refine lv_aload_n hx hb dX2_link_55 rfl (lv_at hl 1 rfl) ?_
          refine fp_g2_3 E hG hk.1 tw_178 dX2_link_56 ?_
          refine lv_iload hx hb dX2_link_59 (lv_at hl 5 rfl) ?_
          refine lv_iload hx hb dX2_link_61 (lv_at hl 0 rfl) ?_
          obtain ⟨g_7, h⟩ := fp_gd_s h
          obtain ⟨M_8, eM_8, h⟩ := fp_lt_s h
          refine fp_iast E hG (hk.2.2.2.1).1 (fp_a20 (hk.2.2.2.1)) (fp_in_s g_7) dX2_link_63 (fun H locs hG => ?_)
          replace hG := fp_memH eM_8 hG
          refine lv_aload_n hx hb dX2_link_64 rfl (lv_at hl 1 rfl) ?_
          refine fp_g2_4 E hG hk.1 tw_179 dX2_link_65 ?_
          refine lv_iload hx hb dX2_link_68 (lv_at hl 5 rfl) ?_
          refine lv_aload_n hx hb dX2_link_70 rfl (lv_at hl 1 rfl) ?_
          refine fp_g2_4 E hG hk.1 tw_179 dX2_link_71 ?_
          refine lv_iload hx hb dX2_link_74 (lv_at hl 0 rfl) ?_
          obtain ⟨g_9, h⟩ := fp_gd_s h
          refine fp_iald E hG (hk.2.2.2.2).1 (fp_a20 (hk.2.2.2.2)) (fp_in_s g_9) dX2_link_76 ?_
          refine lv_iconst (v := (nI 1)) hx hb dX2_link_77 (by decide) ?_
          refine lv_iload hx hb dX2_link_78 (lv_at hl 5 rfl) ?_
          refine lv_ishl hx hb dX2_link_80 ?_
          refine lv_ior hx hb dX2_link_81 ?_
          obtain ⟨g_10, h⟩ := fp_gd_s h
          obtain ⟨M_11, eM_11, h⟩ := fp_lt_s h
          refine fp_iast E hG (hk.2.2.2.2).1 (fp_a20 (hk.2.2.2.2)) (fp_in_s g_10) dX2_link_82 (fun H locs hG => ?_)
          replace hG := fp_memH eM_11 hG
          exact w_X2_link_83 E hk ihK _ _ hG (lv_sub hl [1, 2, 3, 4, 5] rfl) h
      · replace h := fp_ifT q h
        refine lv_goto (tgt := 83) hx hb dX2_link_21 (by decide) ?_
        exact w_X2_link_83 E hk ihK _ _ hG (lv_sub hl [0, 1, 2, 3, 4] rfl) h
set_option maxHeartbeats 2000000 in
theorem w_X2_link_0 {p : Program} {l : Launch} {e : Env} {s : State} {m : MethodId} {args : Array Value} {below : List Frame} {meth : Method} {c : Code} {D : va_G} {G : Nat → ClassId} {B : Nat} {k : Nat} {p1 : Int32} {p2 : Int32} {p3 : Int32} {M' : fp_Mem} (E : fp_EV p s m args meth c cX2_link 6 RX2 none D G) (hk : fp_is2 k) {M : fp_Mem} {H : Heap} {locs : List Loc} {ls : Array Slot} (hG : fp_H D G B s M H locs) (hl : lv_has ls 6 [(0, .ref (B + k)), (1, .int p1), (2, .int p2), (3, .int p3)]) (h : m_X2_link M k p1 p2 p3 = some M') : W p l e rm_X2_link s m args below meth c H locs 0 0 (MQ below (fp_Qv D G B M') args s 0 0 (fp_A B)) (F0 m 0 ls []) := by
  have hx := E.1
  have hb := E.2.1
  have hown := E.2.2.2.1
  unfold m_X2_link at h
  refine lv_iconst (v := (nI 0)) hx hb dX2_link_0 (by decide) ?_
  refine lv_istore (lv' := [(4, .int (nI 0)), (0, .ref (B + k)), (1, .int p1), (2, .int p2), (3, .int p3)]) hx hb dX2_link_1 hl (by decide) rfl (fun ls hl => ?_)
  exact w_X2_link_3 E hk  fp_fu _ _ hG (lv_sub hl [1, 2, 3, 4, 0] rfl) h
theorem c_X2_link (l : Launch) (D : va_G) (G : Nat → ClassId) (B : Nat) {M : fp_Mem} {k : Nat} {p1 : Int32} {p2 : Int32} {p3 : Int32} {M' : fp_Mem} (hk : fp_is2 k) (h : m_X2_link M k p1 p2 p3 = some M') : Met l yX2_link (Cond.code yX2_link cX2_link 6 none :: fp_T) rm_X2_link (va_Pc [.ref (B + k), .int p1, .int p2, .int p3] (fp_GS D G B M)) (fp_Qv D G B M') 0 0 (fp_A B) :=
  fp_met (own := RX2) (by decide) rfl (Nat.le_of_ble_eq_true rfl) (fun E hG hl => w_X2_link_0 E hk hG hl h)
abbrev rm_X2_around : Room := { frames := 0, cells := 0, slots := 0, locals := 0 }
theorem cv_X2_around : fp_CV yX2_around cX2_around 4 (some .int) 1 := ⟨tw_505, tw_5, by decide, by decide +kernel⟩
set_option maxHeartbeats 2000000 in
theorem w_X2_around_29 {p : Program} {l : Launch} {e : Env} {s : State} {m : MethodId} {args : Array Value} {below : List Frame} {meth : Method} {c : Code} {D : va_G} {G : Nat → ClassId} {B : Nat} {M : fp_Mem} {k : Nat} {p1 : Int32} {K4 : Int32 → Int32 → Option (Int32)} {r : Int32} (E : fp_EV p s m args meth c cX2_around 4 RX2 (some .int) D G) (hk : fp_is2 k) (HK4 : ∀ (wv2 : Int32) (wv3 : Int32) {H : Heap} {locs : List Loc} {ls : Array Slot}, fp_H D G B s M H locs → lv_has ls 4 [(0, .ref (B + k)), (1, .int p1), (2, .int wv2), (3, .int wv3)] → K4 wv2 wv3 = some r → W p l e rm_X2_around s m args below meth c H locs 0 0 (MQ below (fp_Qi D G B r M) args s 0 0 (fp_A B)) (F0 m 4 ls [])) (v2 : Int32) (v3 : Int32) {H : Heap} {locs : List Loc} {ls : Array Slot} (hG : fp_H D G B s M H locs) (hl : lv_has ls 4 [(0, .ref (B + k)), (1, .int p1), (2, .int v2), (3, .int v3)]) (h : m_X2_around_29 M k p1 K4 v2 v3 = some r) : W p l e rm_X2_around s m args below meth c H locs 0 0 (MQ below (fp_Qi D G B r M) args s 0 0 (fp_A B)) (F0 m 29 ls []) := by
  have hx := E.1
  have hb := E.2.1
  have hown := E.2.2.2.1
  unfold m_X2_around_29 at h
  obtain ⟨x_1, ex_1, h⟩ := fp_lt_s h
  refine lv_iinc (v := x_1) (lv' := [(3, .int x_1), (0, .ref (B + k)), (1, .int p1), (2, .int v2)]) hx hb dX2_around_29 hl (k := 3) rfl (by rw [ex_1]; rfl) (by decide) rfl (fun ls hl => ?_)
  refine lv_goto (tgt := 4) hx hb dX2_around_32 (by decide) ?_
  exact HK4 _ _ hG (lv_sub hl [1, 2, 3, 0] rfl) h
set_option maxHeartbeats 2000000 in
theorem w_X2_around_4 {p : Program} {l : Launch} {e : Env} {s : State} {m : MethodId} {args : Array Value} {below : List Frame} {meth : Method} {c : Code} {D : va_G} {G : Nat → ClassId} {B : Nat} {M : fp_Mem} {k : Nat} {p1 : Int32} {r : Int32} (E : fp_EV p s m args meth c cX2_around 4 RX2 (some .int) D G) (hk : fp_is2 k) : ∀ (n : Nat) (v2 : Int32) (v3 : Int32) {H : Heap} {locs : List Loc} {ls : Array Slot}, fp_H D G B s M H locs → lv_has ls 4 [(0, .ref (B + k)), (1, .int p1), (2, .int v2), (3, .int v3)] → m_X2_around_4 M k p1 n v2 v3 = some r → W p l e rm_X2_around s m args below meth c H locs 0 0 (MQ below (fp_Qi D G B r M) args s 0 0 (fp_A B)) (F0 m 4 ls []) := by
  have hx := E.1
  have hb := E.2.1
  have hown := E.2.2.2.1
  intro n
  induction n with
  | zero =>
    intro v2 v3 H locs ls hG hl h
    exact nomatch h
  | succ n ih =>
    have ihK := @ih
    intro v2 v3 H locs ls hG hl h
    rw [m_X2_around_4] at h
    refine lv_iload_n hx hb dX2_around_4 rfl (lv_at hl 3 rfl) ?_
    refine lv_aload_n hx hb dX2_around_5 rfl (lv_at hl 0 rfl) ?_
    refine fp_g2_0 E hG hk.1 tw_174 dX2_around_6 ?_
    refine lv_icmp_ge (tgt := 35) hx hb dX2_around_9 (by decide) (fun q => ?_) (fun q => ?_)
    · replace h := fp_ifT q h
      refine lv_iload_n hx hb dX2_around_35 rfl (lv_at hl 2 rfl) ?_
      exact fp_ireti E hG (Option.some.inj h) rfl dX2_around_36
    · replace h := fp_ifF q h
      refine lv_iload_n hx hb dX2_around_12 rfl (lv_at hl 1 rfl) ?_
      refine lv_iload_n hx hb dX2_around_13 rfl (lv_at hl 3 rfl) ?_
      refine lv_ishr hx hb dX2_around_14 ?_
      refine lv_iconst (v := (nI 1)) hx hb dX2_around_15 (by decide) ?_
      refine lv_iand hx hb dX2_around_16 ?_
      refine lv_if_eq (tgt := 29) hx hb dX2_around_17 (by decide) (fun q => ?_) (fun q => ?_)
      · replace h := fp_ifT q h
        exact w_X2_around_29 E hk ihK _ _ hG (lv_sub hl [0, 1, 2, 3] rfl) h
      · replace h := fp_ifF q h
        refine lv_iload_n hx hb dX2_around_20 rfl (lv_at hl 2 rfl) ?_
        refine lv_aload_n hx hb dX2_around_21 rfl (lv_at hl 0 rfl) ?_
        refine fp_g2_1 E hG hk.1 tw_176 dX2_around_22 ?_
        refine lv_iload_n hx hb dX2_around_25 rfl (lv_at hl 3 rfl) ?_
        obtain ⟨g_2, h⟩ := fp_gd_s h
        refine fp_iald E hG (hk.2.1).1 (fp_a20 (hk.2.1)) (fp_in_s g_2) dX2_around_26 ?_
        refine lv_ior hx hb dX2_around_27 ?_
        obtain ⟨x_3, ex_3, h⟩ := fp_lt_s h
        refine fp_top ex_3 ?_
        refine lv_istore_n (lv' := [(2, .int x_3), (0, .ref (B + k)), (1, .int p1), (3, .int v3)]) hx hb dX2_around_28 rfl hl (by decide) rfl (fun ls hl => ?_)
        exact w_X2_around_29 E hk ihK _ _ hG (lv_sub hl [1, 2, 0, 3] rfl) h
set_option maxHeartbeats 2000000 in
theorem w_X2_around_0 {p : Program} {l : Launch} {e : Env} {s : State} {m : MethodId} {args : Array Value} {below : List Frame} {meth : Method} {c : Code} {D : va_G} {G : Nat → ClassId} {B : Nat} {M : fp_Mem} {k : Nat} {p1 : Int32} {r : Int32} (E : fp_EV p s m args meth c cX2_around 4 RX2 (some .int) D G) (hk : fp_is2 k) {H : Heap} {locs : List Loc} {ls : Array Slot} (hG : fp_H D G B s M H locs) (hl : lv_has ls 4 [(0, .ref (B + k)), (1, .int p1)]) (h : m_X2_around M k p1 = some r) : W p l e rm_X2_around s m args below meth c H locs 0 0 (MQ below (fp_Qi D G B r M) args s 0 0 (fp_A B)) (F0 m 0 ls []) := by
  have hx := E.1
  have hb := E.2.1
  have hown := E.2.2.2.1
  unfold m_X2_around at h
  refine lv_iconst (v := (nI 0)) hx hb dX2_around_0 (by decide) ?_
  refine lv_istore_n (lv' := [(2, .int (nI 0)), (0, .ref (B + k)), (1, .int p1)]) hx hb dX2_around_1 rfl hl (by decide) rfl (fun ls hl => ?_)
  refine lv_iconst (v := (nI 0)) hx hb dX2_around_2 (by decide) ?_
  refine lv_istore_n (lv' := [(3, .int (nI 0)), (2, .int (nI 0)), (0, .ref (B + k)), (1, .int p1)]) hx hb dX2_around_3 rfl hl (by decide) rfl (fun ls hl => ?_)
  exact w_X2_around_4 E hk  fp_fu _ _ hG (lv_sub hl [2, 3, 1, 0] rfl) h
theorem c_X2_around (l : Launch) (D : va_G) (G : Nat → ClassId) (B : Nat) {M : fp_Mem} {k : Nat} {p1 : Int32} {r : Int32} (hk : fp_is2 k) (h : m_X2_around M k p1 = some r) : Met l yX2_around (Cond.code yX2_around cX2_around 4 (some .int) :: fp_T) rm_X2_around (va_Pc [.ref (B + k), .int p1] (fp_GS D G B M)) (fp_Qi D G B r M) 0 0 (fp_A B) :=
  fp_met (own := RX2) (by decide) rfl (Nat.le_of_ble_eq_true rfl) (fun E hG hl => w_X2_around_0 E hk hG hl h)
abbrev rm_X2_measure : Room := { frames := 2, cells := 0, slots := 0, locals := 46 }
theorem cv_X2_measure : fp_CV yX2_measure cX2_measure 7 none 2 := ⟨tw_483, tw_5, by decide, by decide +kernel⟩
set_option maxHeartbeats 2000000 in
theorem w_X2_measure_120 {p : Program} {l : Launch} {e : Env} {s : State} {m : MethodId} {args : Array Value} {below : List Frame} {meth : Method} {c : Code} {D : va_G} {G : Nat → ClassId} {B : Nat} {k : Nat} {k1 : Nat} {k2 : Nat} {M' : fp_Mem} (E : fp_EV p s m args meth c cX2_measure 7 RX2 none D G) (hk : fp_is2 k) (hk1 : fp_is7 k1) (hk2 : fp_is9 k2) (M : fp_Mem) {H : Heap} {locs : List Loc} {ls : Array Slot} (hG : fp_H D G B s M H locs) (hl : lv_has ls 7 []) (h : m_X2_measure_120 k k1 k2 M = some M') : W p l e rm_X2_measure s m args below meth c H locs 0 0 (MQ below (fp_Qv D G B M') args s 0 0 (fp_A B)) (F0 m 120 ls []) := by
  have hx := E.1
  have hb := E.2.1
  have hown := E.2.2.2.1
  unfold m_X2_measure_120 at h
  exact fp_retv E hG (Option.some.inj h) dX2_measure_120
set_option maxHeartbeats 2000000 in
theorem w_X2_measure_70 {p : Program} {l : Launch} {e : Env} {s : State} {m : MethodId} {args : Array Value} {below : List Frame} {meth : Method} {c : Code} {D : va_G} {G : Nat → ClassId} {B : Nat} {k : Nat} {k1 : Nat} {k2 : Nat} {M' : fp_Mem} (E : fp_EV p s m args meth c cX2_measure 7 RX2 none D G) (hk : fp_is2 k) (hk1 : fp_is7 k1) (hk2 : fp_is9 k2) : ∀ (n : Nat) (v3 : Int32) (v4 : Int32) (v5 : Int32) (v6 : Int32) (M : fp_Mem) {H : Heap} {locs : List Loc} {ls : Array Slot}, fp_H D G B s M H locs → lv_has ls 7 [(0, .ref (B + k)), (3, .int v3), (4, .int v4), (5, .int v5), (6, .int v6)] → m_X2_measure_70 k k1 k2 n v3 v4 v5 v6 M = some M' → W p l e rm_X2_measure s m args below meth c H locs 0 0 (MQ below (fp_Qv D G B M') args s 0 0 (fp_A B)) (F0 m 70 ls []) := by
  have hx := E.1
  have hb := E.2.1
  have hown := E.2.2.2.1
  intro n
  induction n with
  | zero =>
    intro v3 v4 v5 v6 M H locs ls hG hl h
    exact nomatch h
  | succ n ih =>
    have ihK := @ih
    intro v3 v4 v5 v6 M H locs ls hG hl h
    rw [m_X2_measure_70] at h
    refine lv_iload hx hb dX2_measure_70 (lv_at hl 4 rfl) ?_
    refine lv_bipush (v := (nI 9)) hx hb dX2_measure_72 (by decide) ?_
    refine lv_icmp_ge (tgt := 120) hx hb dX2_measure_74 (by decide) (fun q => ?_) (fun q => ?_)
    · replace h := fp_ifT q h
      exact w_X2_measure_120 E hk hk1 hk2  _ hG (lv_sub hl [] rfl) h
    · replace h := fp_ifF q h
      refine lv_iload hx hb dX2_measure_77 (lv_at hl 3 rfl) ?_
      refine lv_if_eq (tgt := 120) hx hb dX2_measure_79 (by decide) (fun q => ?_) (fun q => ?_)
      · replace h := fp_ifT q h
        exact w_X2_measure_120 E hk hk1 hk2  _ hG (lv_sub hl [] rfl) h
      · replace h := fp_ifF q h
        refine lv_aload_n hx hb dX2_measure_82 rfl (lv_at hl 0 rfl) ?_
        refine lv_iload hx hb dX2_measure_83 (lv_at hl 3 rfl) ?_
        refine lv_iload hx hb dX2_measure_85 (lv_at hl 4 rfl) ?_
        refine lv_iload_n hx hb dX2_measure_87 rfl (lv_at hl 1 rfl) ?_
        obtain ⟨M_1, c_2, h⟩ := fp_b1_s h
        refine fp_callVv (As := [.int v5, .int v6, .int v3]) (rest := []) E hG (c_X2_link l D G B hk c_2) cv_X2_link tw_494 tw_496 ts_12 ⟨rfl, rfl⟩ ⟨Nat.le_of_ble_eq_true rfl, Nat.le_of_ble_eq_true rfl⟩ (fp_recv E hG hk.1.1 (fp_o2 hk.1 _) rfl) rfl rfl (Nat.le_of_ble_eq_true rfl) hl.1 dX2_measure_88 ⟨Nat.zero_le _, Nat.zero_le _⟩ (fun H locs hG => ?_)
        refine lv_iload hx hb dX2_measure_91 (lv_at hl 2 rfl) ?_
        refine lv_iload hx hb dX2_measure_93 (lv_at hl 3 rfl) ?_
        refine lv_ior hx hb dX2_measure_95 ?_
        obtain ⟨x_3, ex_3, h⟩ := fp_lt_s h
        refine fp_top ex_3 ?_
        refine lv_istore (lv' := [(4, .int x_3), (0, .ref (B + k)), (3, .int v3), (5, .int v5), (6, .int v6)]) hx hb dX2_measure_96 hl (by decide) rfl (fun ls hl => ?_)
        refine lv_iload hx hb dX2_measure_98 (lv_at hl 3 rfl) ?_
        refine lv_istore_n (lv' := [(3, .int v5), (4, .int x_3), (0, .ref (B + k)), (5, .int v5), (6, .int v6)]) hx hb dX2_measure_100 rfl hl (by decide) rfl (fun ls hl => ?_)
        refine lv_aload_n hx hb dX2_measure_101 rfl (lv_at hl 2 rfl) ?_
        refine lv_iload hx hb dX2_measure_102 (lv_at hl 3 rfl) ?_
        obtain ⟨r_4, c_5, h⟩ := fp_b1_s h
        refine fp_callVi (As := [.int v5]) (rest := []) E hG (c_X2_around l D G B hk c_5) cv_X2_around tw_502 tw_503 tw_504 ⟨rfl, rfl⟩ ⟨Nat.le_of_ble_eq_true rfl, Nat.le_of_ble_eq_true rfl⟩ (fp_recv E hG hk.1.1 (fp_o2 hk.1 _) rfl) rfl rfl (Nat.le_of_ble_eq_true rfl) hl.1 dX2_measure_104 ⟨Nat.zero_le _, Nat.zero_le _⟩ (fun H locs hG => ?_)
        refine lv_iload hx hb dX2_measure_107 (lv_at hl 1 rfl) ?_
        refine lv_iconst (v := (-1 : Int32)) hx hb dX2_measure_109 (by decide) ?_
        refine lv_ixor hx hb dX2_measure_110 ?_
        refine lv_iand hx hb dX2_measure_111 ?_
        obtain ⟨x_6, ex_6, h⟩ := fp_lt_s h
        refine fp_top ex_6 ?_
        refine lv_istore (lv' := [(5, .int x_6), (3, .int v5), (4, .int x_3), (0, .ref (B + k)), (6, .int v6)]) hx hb dX2_measure_112 hl (by decide) rfl (fun ls hl => ?_)
        obtain ⟨x_7, ex_7, h⟩ := fp_lt_s h
        refine lv_iinc (v := x_7) (lv' := [(6, .int x_7), (5, .int x_6), (3, .int v5), (4, .int x_3), (0, .ref (B + k))]) hx hb dX2_measure_114 hl (k := 4) rfl (by rw [ex_7]; rfl) (by decide) rfl (fun ls hl => ?_)
        refine lv_goto (tgt := 70) hx hb dX2_measure_117 (by decide) ?_
        exact ih _ _ _ _ _ hG (lv_sub hl [4, 2, 3, 1, 0] rfl) h
set_option maxHeartbeats 2000000 in
theorem w_X2_measure_11 {p : Program} {l : Launch} {e : Env} {s : State} {m : MethodId} {args : Array Value} {below : List Frame} {meth : Method} {c : Code} {D : va_G} {G : Nat → ClassId} {B : Nat} {k : Nat} {k1 : Nat} {k2 : Nat} {M' : fp_Mem} (E : fp_EV p s m args meth c cX2_measure 7 RX2 none D G) (hk : fp_is2 k) (hk1 : fp_is7 k1) (hk2 : fp_is9 k2) : ∀ (n : Nat) (v3 : Int32) (M : fp_Mem) {H : Heap} {locs : List Loc} {ls : Array Slot}, fp_H D G B s M H locs → lv_has ls 7 [(0, .ref (B + k)), (1, .ref (B + k1)), (2, .ref (B + k2)), (3, .int v3)] → m_X2_measure_11 k k1 k2 n v3 M = some M' → W p l e rm_X2_measure s m args below meth c H locs 0 0 (MQ below (fp_Qv D G B M') args s 0 0 (fp_A B)) (F0 m 11 ls []) := by
  have hx := E.1
  have hb := E.2.1
  have hown := E.2.2.2.1
  intro n
  induction n with
  | zero =>
    intro v3 M H locs ls hG hl h
    exact nomatch h
  | succ n ih =>
    have ihK := @ih
    intro v3 M H locs ls hG hl h
    rw [m_X2_measure_11] at h
    refine lv_iload_n hx hb dX2_measure_11 rfl (lv_at hl 3 rfl) ?_
    refine lv_bipush (v := (nI 9)) hx hb dX2_measure_12 (by decide) ?_
    refine lv_icmp_ge (tgt := 44) hx hb dX2_measure_14 (by decide) (fun q => ?_) (fun q => ?_)
    · replace h := fp_ifT q h
      refine lv_iconst (v := (nI 0)) hx hb dX2_measure_44 (by decide) ?_
      refine lv_istore_n (lv' := [(3, .int (nI 0)), (0, .ref (B + k)), (1, .ref (B + k1)), (2, .ref (B + k2))]) hx hb dX2_measure_45 rfl hl (by decide) rfl (fun ls hl => ?_)
      refine lv_iconst (v := (nI 0)) hx hb dX2_measure_46 (by decide) ?_
      refine lv_istore (lv' := [(4, .int (nI 0)), (3, .int (nI 0)), (0, .ref (B + k)), (1, .ref (B + k1)), (2, .ref (B + k2))]) hx hb dX2_measure_47 hl (by decide) rfl (fun ls hl => ?_)
      refine lv_aload_n hx hb dX2_measure_49 rfl (lv_at hl 3 rfl) ?_
      obtain ⟨r_8, c_9, h⟩ := fp_b1_s h
      refine fp_callVi (As := []) (rest := []) E hG (c_X7_allTables l D G B hk1 c_9) cv_X7_allTables tw_489 tw_490 tw_491 ⟨rfl, rfl⟩ ⟨Nat.le_of_ble_eq_true rfl, Nat.le_of_ble_eq_true rfl⟩ (fp_recv E hG hk1.1.1 (fp_o7 hk1.1 _) rfl) rfl rfl (Nat.le_of_ble_eq_true rfl) hl.1 dX2_measure_50 ⟨Nat.zero_le _, Nat.zero_le _⟩ (fun H locs hG => ?_)
      refine lv_aload_n hx hb dX2_measure_53 rfl (lv_at hl 4 rfl) ?_
      refine lv_iconst (v := (nI 2)) hx hb dX2_measure_54 (by decide) ?_
      refine lv_aload_n hx hb dX2_measure_55 rfl (lv_at hl 2 rfl) ?_
      refine fp_g2_0 E hG hk.1 tw_174 dX2_measure_56 ?_
      obtain ⟨r_10, c_11, h⟩ := fp_b1_s h
      refine fp_callVi (As := [.int (nI 2), .int (M k 0)]) (rest := [.int r_8]) E hG (c_X9_withFreeBelow l D G B hk2 c_11) cv_X9_withFreeBelow tw_493 tw_469 tw_470 ⟨rfl, rfl⟩ ⟨Nat.le_of_ble_eq_true rfl, Nat.le_of_ble_eq_true rfl⟩ (fp_recv E hG hk2.1.1 (fp_o9 hk2.1 _) rfl) rfl rfl (Nat.le_of_ble_eq_true rfl) hl.1 dX2_measure_59 ⟨Nat.zero_le _, Nat.zero_le _⟩ (fun H locs hG => ?_)
      refine lv_iconst (v := (-1 : Int32)) hx hb dX2_measure_62 (by decide) ?_
      refine lv_ixor hx hb dX2_measure_63 ?_
      refine lv_iand hx hb dX2_measure_64 ?_
      obtain ⟨x_12, ex_12, h⟩ := fp_lt_s h
      refine fp_top ex_12 ?_
      refine lv_istore (lv' := [(5, .int x_12), (4, .int (nI 0)), (3, .int (nI 0)), (0, .ref (B + k)), (1, .ref (B + k1)), (2, .ref (B + k2))]) hx hb dX2_measure_65 hl (by decide) rfl (fun ls hl => ?_)
      refine lv_iconst (v := (nI 0)) hx hb dX2_measure_67 (by decide) ?_
      refine lv_istore (lv' := [(6, .int (nI 0)), (5, .int x_12), (4, .int (nI 0)), (3, .int (nI 0)), (0, .ref (B + k)), (1, .ref (B + k1)), (2, .ref (B + k2))]) hx hb dX2_measure_68 hl (by decide) rfl (fun ls hl => ?_)
      exact w_X2_measure_70 E hk hk1 hk2  fp_fu _ _ _ _ _ hG (lv_sub hl [4, 3, 2, 1, 0] rfl) h
    · replace h := fp_ifF q h
      refine lv_aload_n hx hb dX2_measure_17 rfl (lv_at hl 0 rfl) ?_
      refine fp_g2_2 E hG hk.1 tw_177 dX2_measure_18 ?_
      refine lv_iload_n hx hb dX2_measure_21 rfl (lv_at hl 3 rfl) ?_
      refine lv_iconst (v := (-1 : Int32)) hx hb dX2_measure_22 (by decide) ?_
      obtain ⟨g_13, h⟩ := fp_gd_s h
      obtain ⟨M_14, eM_14, h⟩ := fp_lt_s h
      refine fp_iast E hG (hk.2.2.1).1 (fp_a20 (hk.2.2.1)) (fp_in_s g_13) dX2_measure_23 (fun H locs hG => ?_)
      replace hG := fp_memH eM_14 hG
      refine lv_aload_n hx hb dX2_measure_24 rfl (lv_at hl 0 rfl) ?_
      refine fp_g2_3 E hG hk.1 tw_178 dX2_measure_25 ?_
      refine lv_iload_n hx hb dX2_measure_28 rfl (lv_at hl 3 rfl) ?_
      refine lv_iconst (v := (-1 : Int32)) hx hb dX2_measure_29 (by decide) ?_
      obtain ⟨g_15, h⟩ := fp_gd_s h
      obtain ⟨M_16, eM_16, h⟩ := fp_lt_s h
      refine fp_iast E hG (hk.2.2.2.1).1 (fp_a20 (hk.2.2.2.1)) (fp_in_s g_15) dX2_measure_30 (fun H locs hG => ?_)
      replace hG := fp_memH eM_16 hG
      refine lv_aload_n hx hb dX2_measure_31 rfl (lv_at hl 0 rfl) ?_
      refine fp_g2_4 E hG hk.1 tw_179 dX2_measure_32 ?_
      refine lv_iload_n hx hb dX2_measure_35 rfl (lv_at hl 3 rfl) ?_
      refine lv_iconst (v := (nI 0)) hx hb dX2_measure_36 (by decide) ?_
      obtain ⟨g_17, h⟩ := fp_gd_s h
      obtain ⟨M_18, eM_18, h⟩ := fp_lt_s h
      refine fp_iast E hG (hk.2.2.2.2).1 (fp_a20 (hk.2.2.2.2)) (fp_in_s g_17) dX2_measure_37 (fun H locs hG => ?_)
      replace hG := fp_memH eM_18 hG
      obtain ⟨x_19, ex_19, h⟩ := fp_lt_s h
      refine lv_iinc (v := x_19) (lv' := [(3, .int x_19), (0, .ref (B + k)), (1, .ref (B + k1)), (2, .ref (B + k2))]) hx hb dX2_measure_38 hl (k := 3) rfl (by rw [ex_19]; rfl) (by decide) rfl (fun ls hl => ?_)
      refine lv_goto (tgt := 11) hx hb dX2_measure_41 (by decide) ?_
      exact ih _ _ hG (lv_sub hl [1, 2, 3, 0] rfl) h
set_option maxHeartbeats 2000000 in
theorem w_X2_measure_0 {p : Program} {l : Launch} {e : Env} {s : State} {m : MethodId} {args : Array Value} {below : List Frame} {meth : Method} {c : Code} {D : va_G} {G : Nat → ClassId} {B : Nat} {k : Nat} {k1 : Nat} {k2 : Nat} {M' : fp_Mem} (E : fp_EV p s m args meth c cX2_measure 7 RX2 none D G) (hk : fp_is2 k) (hk1 : fp_is7 k1) (hk2 : fp_is9 k2) {M : fp_Mem} {H : Heap} {locs : List Loc} {ls : Array Slot} (hG : fp_H D G B s M H locs) (hl : lv_has ls 7 [(0, .ref (B + k)), (1, .ref (B + k1)), (2, .ref (B + k2))]) (h : m_X2_measure M k k1 k2 = some M') : W p l e rm_X2_measure s m args below meth c H locs 0 0 (MQ below (fp_Qv D G B M') args s 0 0 (fp_A B)) (F0 m 0 ls []) := by
  have hx := E.1
  have hb := E.2.1
  have hown := E.2.2.2.1
  unfold m_X2_measure at h
  refine lv_aload_n hx hb dX2_measure_0 rfl (lv_at hl 0 rfl) ?_
  refine lv_aload_n hx hb dX2_measure_1 rfl (lv_at hl 1 rfl) ?_
  refine lv_aload_n hx hb dX2_measure_2 rfl (lv_at hl 2 rfl) ?_
  refine fp_g9_3 E hG hk2.1 tw_130 dX2_measure_3 ?_
  obtain ⟨M_20, c_21, h⟩ := fp_b1_s h
  refine fp_callVv (As := [.ref (B + k1), .int (M k2 3)]) (rest := []) E hG (c_X2_join l D G B hk hk1 c_21) cv_X2_join tw_484 tw_485 tw_486 ⟨rfl, rfl⟩ ⟨Nat.le_of_ble_eq_true rfl, Nat.le_of_ble_eq_true rfl⟩ (fp_recv E hG hk.1.1 (fp_o2 hk.1 _) rfl) rfl rfl (Nat.le_of_ble_eq_true rfl) hl.1 dX2_measure_6 ⟨Nat.zero_le _, Nat.zero_le _⟩ (fun H locs hG => ?_)
  refine lv_iconst (v := (nI 0)) hx hb dX2_measure_9 (by decide) ?_
  refine lv_istore_n (lv' := [(3, .int (nI 0)), (0, .ref (B + k)), (1, .ref (B + k1)), (2, .ref (B + k2))]) hx hb dX2_measure_10 rfl hl (by decide) rfl (fun ls hl => ?_)
  exact w_X2_measure_11 E hk hk1 hk2  fp_fu _ _ hG (lv_sub hl [1, 2, 3, 0] rfl) h
theorem c_X2_measure (l : Launch) (D : va_G) (G : Nat → ClassId) (B : Nat) {M : fp_Mem} {k : Nat} {k1 : Nat} {k2 : Nat}  {M' : fp_Mem} (hk : fp_is2 k) (hk1 : fp_is7 k1) (hk2 : fp_is9 k2) (h : m_X2_measure M k k1 k2 = some M') : Met l yX2_measure (Cond.code yX2_measure cX2_measure 7 none :: fp_T) rm_X2_measure (va_Pc [.ref (B + k), .ref (B + k1), .ref (B + k2)] (fp_GS D G B M)) (fp_Qv D G B M') 0 0 (fp_A B) :=
  fp_met (own := RX2) (by decide) rfl (Nat.le_of_ble_eq_true rfl) (fun E hG hl => w_X2_measure_0 E hk hk1 hk2 hG hl h)
abbrev rm_X2_within : Room := { frames := 1, cells := 0, slots := 0, locals := 23 }
theorem cv_X2_within : fp_CV yX2_within cX2_within 5 (some .int) 2 := ⟨tw_640, tw_5, by decide, by decide +kernel⟩
set_option maxHeartbeats 2000000 in
theorem w_X2_within_7 {p : Program} {l : Launch} {e : Env} {s : State} {m : MethodId} {args : Array Value} {below : List Frame} {meth : Method} {c : Code} {D : va_G} {G : Nat → ClassId} {B : Nat} {M : fp_Mem} {k : Nat} {p1 : Int32} {p2 : Int32} {r : Int32} (E : fp_EV p s m args meth c cX2_within 5 RX2 (some .int) D G) (hk : fp_is2 k) : ∀ (n : Nat) (v3 : Int32) (v4 : Int32) {H : Heap} {locs : List Loc} {ls : Array Slot}, fp_H D G B s M H locs → lv_has ls 5 [(0, .ref (B + k)), (2, .int p2), (3, .int v3), (4, .int v4)] → m_X2_within_7 M k p1 p2 n v3 v4 = some r → W p l e rm_X2_within s m args below meth c H locs 0 0 (MQ below (fp_Qi D G B r M) args s 0 0 (fp_A B)) (F0 m 7 ls []) := by
  have hx := E.1
  have hb := E.2.1
  have hown := E.2.2.2.1
  intro n
  induction n with
  | zero =>
    intro v3 v4 H locs ls hG hl h
    exact nomatch h
  | succ n ih =>
    have ihK := @ih
    intro v3 v4 H locs ls hG hl h
    rw [m_X2_within_7] at h
    refine lv_iload hx hb dX2_within_7 (lv_at hl 3 rfl) ?_
    refine lv_iload_n hx hb dX2_within_9 rfl (lv_at hl 1 rfl) ?_
    refine lv_icmp_ge (tgt := 27) hx hb dX2_within_10 (by decide) (fun q => ?_) (fun q => ?_)
    · replace h := fp_ifT q h
      refine lv_iload_n hx hb dX2_within_27 rfl (lv_at hl 2 rfl) ?_
      exact fp_ireti E hG (Option.some.inj h) rfl dX2_within_28
    · replace h := fp_ifF q h
      refine lv_iload_n hx hb dX2_within_13 rfl (lv_at hl 2 rfl) ?_
      refine lv_aload_n hx hb dX2_within_14 rfl (lv_at hl 0 rfl) ?_
      refine lv_iload_n hx hb dX2_within_15 rfl (lv_at hl 2 rfl) ?_
      obtain ⟨r_1, c_2, h⟩ := fp_b1_s h
      refine fp_callVi (As := [.int v3]) (rest := [.int v3]) E hG (c_X2_around l D G B hk c_2) cv_X2_around tw_502 tw_503 tw_504 ⟨rfl, rfl⟩ ⟨Nat.le_of_ble_eq_true rfl, Nat.le_of_ble_eq_true rfl⟩ (fp_recv E hG hk.1.1 (fp_o2 hk.1 _) rfl) rfl rfl (Nat.le_of_ble_eq_true rfl) hl.1 dX2_within_16 ⟨Nat.zero_le _, Nat.zero_le _⟩ (fun H locs hG => ?_)
      refine lv_ior hx hb dX2_within_19 ?_
      obtain ⟨x_3, ex_3, h⟩ := fp_lt_s h
      refine fp_top ex_3 ?_
      refine lv_istore_n (lv' := [(3, .int x_3), (0, .ref (B + k)), (2, .int p2), (4, .int v4)]) hx hb dX2_within_20 rfl hl (by decide) rfl (fun ls hl => ?_)
      obtain ⟨x_4, ex_4, h⟩ := fp_lt_s h
      refine lv_iinc (v := x_4) (lv' := [(4, .int x_4), (3, .int x_3), (0, .ref (B + k)), (2, .int p2)]) hx hb dX2_within_21 hl (k := 3) rfl (by rw [ex_4]; rfl) (by decide) rfl (fun ls hl => ?_)
      refine lv_goto (tgt := 7) hx hb dX2_within_24 (by decide) ?_
      exact ih _ _ hG (lv_sub hl [2, 3, 1, 0] rfl) h
set_option maxHeartbeats 2000000 in
theorem w_X2_within_0 {p : Program} {l : Launch} {e : Env} {s : State} {m : MethodId} {args : Array Value} {below : List Frame} {meth : Method} {c : Code} {D : va_G} {G : Nat → ClassId} {B : Nat} {M : fp_Mem} {k : Nat} {p1 : Int32} {p2 : Int32} {r : Int32} (E : fp_EV p s m args meth c cX2_within 5 RX2 (some .int) D G) (hk : fp_is2 k) {H : Heap} {locs : List Loc} {ls : Array Slot} (hG : fp_H D G B s M H locs) (hl : lv_has ls 5 [(0, .ref (B + k)), (1, .int p1), (2, .int p2)]) (h : m_X2_within M k p1 p2 = some r) : W p l e rm_X2_within s m args below meth c H locs 0 0 (MQ below (fp_Qi D G B r M) args s 0 0 (fp_A B)) (F0 m 0 ls []) := by
  have hx := E.1
  have hb := E.2.1
  have hown := E.2.2.2.1
  unfold m_X2_within at h
  refine lv_iconst (v := (nI 1)) hx hb dX2_within_0 (by decide) ?_
  refine lv_iload_n hx hb dX2_within_1 rfl (lv_at hl 1 rfl) ?_
  refine lv_ishl hx hb dX2_within_2 ?_
  obtain ⟨x_5, ex_5, h⟩ := fp_lt_s h
  refine fp_top ex_5 ?_
  refine lv_istore_n (lv' := [(3, .int x_5), (0, .ref (B + k)), (1, .int p1), (2, .int p2)]) hx hb dX2_within_3 rfl hl (by decide) rfl (fun ls hl => ?_)
  refine lv_iconst (v := (nI 0)) hx hb dX2_within_4 (by decide) ?_
  refine lv_istore (lv' := [(4, .int (nI 0)), (3, .int x_5), (0, .ref (B + k)), (1, .int p1), (2, .int p2)]) hx hb dX2_within_5 hl (by decide) rfl (fun ls hl => ?_)
  exact w_X2_within_7 E hk  fp_fu _ _ hG (lv_sub hl [2, 4, 1, 0] rfl) h
theorem c_X2_within (l : Launch) (D : va_G) (G : Nat → ClassId) (B : Nat) {M : fp_Mem} {k : Nat} {p1 : Int32} {p2 : Int32} {r : Int32} (hk : fp_is2 k) (h : m_X2_within M k p1 p2 = some r) : Met l yX2_within (Cond.code yX2_within cX2_within 5 (some .int) :: fp_T) rm_X2_within (va_Pc [.ref (B + k), .int p1, .int p2] (fp_GS D G B M)) (fp_Qi D G B r M) 0 0 (fp_A B) :=
  fp_met (own := RX2) (by decide) rfl (Nat.le_of_ble_eq_true rfl) (fun E hG hl => w_X2_within_0 E hk hG hl h)
abbrev rm_X2_hangingTogether : Room := { frames := 2, cells := 0, slots := 0, locals := 47 }
theorem cv_X2_hangingTogether : fp_CV yX2_hangingTogether cX2_hangingTogether 2 (some .int) 1 := ⟨tw_636, tw_5, by decide, by decide +kernel⟩
set_option maxHeartbeats 2000000 in
theorem w_X2_hangingTogether_0 {p : Program} {l : Launch} {e : Env} {s : State} {m : MethodId} {args : Array Value} {below : List Frame} {meth : Method} {c : Code} {D : va_G} {G : Nat → ClassId} {B : Nat} {M : fp_Mem} {k : Nat} {p1 : Int32} {r : Int32} (E : fp_EV p s m args meth c cX2_hangingTogether 2 RX2 (some .int) D G) (hk : fp_is2 k) {H : Heap} {locs : List Loc} {ls : Array Slot} (hG : fp_H D G B s M H locs) (hl : lv_has ls 2 [(0, .ref (B + k)), (1, .int p1)]) (h : m_X2_hangingTogether M k p1 = some r) : W p l e rm_X2_hangingTogether s m args below meth c H locs 0 0 (MQ below (fp_Qi D G B r M) args s 0 0 (fp_A B)) (F0 m 0 ls []) := by
  have hx := E.1
  have hb := E.2.1
  have hown := E.2.2.2.1
  unfold m_X2_hangingTogether at h
  refine lv_aload_n hx hb dX2_hangingTogether_0 rfl (lv_at hl 0 rfl) ?_
  refine lv_iload_n hx hb dX2_hangingTogether_1 rfl (lv_at hl 1 rfl) ?_
  refine lv_bipush (v := (nI 8)) hx hb dX2_hangingTogether_2 (by decide) ?_
  obtain ⟨r_1, c_2, h⟩ := fp_b1_s h
  refine fp_callVi (As := [.int p1, .int (nI 8)]) (rest := []) E hG (c_X2_within l D G B hk c_2) cv_X2_within tw_637 tw_638 tw_639 ⟨rfl, rfl⟩ ⟨Nat.le_of_ble_eq_true rfl, Nat.le_of_ble_eq_true rfl⟩ (fp_recv E hG hk.1.1 (fp_o2 hk.1 _) rfl) rfl rfl (Nat.le_of_ble_eq_true rfl) hl.1 dX2_hangingTogether_4 ⟨Nat.zero_le _, Nat.zero_le _⟩ (fun H locs hG => ?_)
  exact fp_ireti E hG (Option.some.inj h) rfl dX2_hangingTogether_7
theorem c_X2_hangingTogether (l : Launch) (D : va_G) (G : Nat → ClassId) (B : Nat) {M : fp_Mem} {k : Nat} {p1 : Int32} {r : Int32} (hk : fp_is2 k) (h : m_X2_hangingTogether M k p1 = some r) : Met l yX2_hangingTogether (Cond.code yX2_hangingTogether cX2_hangingTogether 2 (some .int) :: fp_T) rm_X2_hangingTogether (va_Pc [.ref (B + k), .int p1] (fp_GS D G B M)) (fp_Qi D G B r M) 0 0 (fp_A B) :=
  fp_met (own := RX2) (by decide) rfl (Nat.le_of_ble_eq_true rfl) (fun E hG hl => w_X2_hangingTogether_0 E hk hG hl h)
abbrev rm_X2_movesFrom : Room := { frames := 0, cells := 0, slots := 0, locals := 0 }
theorem cv_X2_movesFrom : fp_CV yX2_movesFrom cX2_movesFrom 2 (some .int) 1 := ⟨tw_558, tw_5, by decide, by decide +kernel⟩
set_option maxHeartbeats 2000000 in
theorem w_X2_movesFrom_22 {p : Program} {l : Launch} {e : Env} {s : State} {m : MethodId} {args : Array Value} {below : List Frame} {meth : Method} {c : Code} {D : va_G} {G : Nat → ClassId} {B : Nat} {M : fp_Mem} {k : Nat} {p1 : Int32} {r : Int32} (E : fp_EV p s m args meth c cX2_movesFrom 2 RX2 (some .int) D G) (hk : fp_is2 k) (s0 : Int32) {H : Heap} {locs : List Loc} {ls : Array Slot} (hG : fp_H D G B s M H locs) (hl : lv_has ls 2 []) (h : m_X2_movesFrom_22 M k p1 s0 = some r) : W p l e rm_X2_movesFrom s m args below meth c H locs 0 0 (MQ below (fp_Qi D G B r M) args s 0 0 (fp_A B)) (F0 m 22 ls [.int s0]) := by
  have hx := E.1
  have hb := E.2.1
  have hown := E.2.2.2.1
  unfold m_X2_movesFrom_22 at h
  exact fp_ireti E hG (Option.some.inj h) rfl dX2_movesFrom_22
set_option maxHeartbeats 2000000 in
theorem w_X2_movesFrom_21 {p : Program} {l : Launch} {e : Env} {s : State} {m : MethodId} {args : Array Value} {below : List Frame} {meth : Method} {c : Code} {D : va_G} {G : Nat → ClassId} {B : Nat} {M : fp_Mem} {k : Nat} {p1 : Int32} {r : Int32} (E : fp_EV p s m args meth c cX2_movesFrom 2 RX2 (some .int) D G) (hk : fp_is2 k) {H : Heap} {locs : List Loc} {ls : Array Slot} (hG : fp_H D G B s M H locs) (hl : lv_has ls 2 []) (h : m_X2_movesFrom_21 M k p1 = some r) : W p l e rm_X2_movesFrom s m args below meth c H locs 0 0 (MQ below (fp_Qi D G B r M) args s 0 0 (fp_A B)) (F0 m 21 ls []) := by
  have hx := E.1
  have hb := E.2.1
  have hown := E.2.2.2.1
  unfold m_X2_movesFrom_21 at h
  refine lv_iconst (v := (-1 : Int32)) hx hb dX2_movesFrom_21 (by decide) ?_
  exact w_X2_movesFrom_22 E hk  _ hG (lv_sub hl [] rfl) h
set_option maxHeartbeats 2000000 in
theorem w_X2_movesFrom_0 {p : Program} {l : Launch} {e : Env} {s : State} {m : MethodId} {args : Array Value} {below : List Frame} {meth : Method} {c : Code} {D : va_G} {G : Nat → ClassId} {B : Nat} {M : fp_Mem} {k : Nat} {p1 : Int32} {r : Int32} (E : fp_EV p s m args meth c cX2_movesFrom 2 RX2 (some .int) D G) (hk : fp_is2 k) {H : Heap} {locs : List Loc} {ls : Array Slot} (hG : fp_H D G B s M H locs) (hl : lv_has ls 2 [(0, .ref (B + k)), (1, .int p1)]) (h : m_X2_movesFrom M k p1 = some r) : W p l e rm_X2_movesFrom s m args below meth c H locs 0 0 (MQ below (fp_Qi D G B r M) args s 0 0 (fp_A B)) (F0 m 0 ls []) := by
  have hx := E.1
  have hb := E.2.1
  have hown := E.2.2.2.1
  unfold m_X2_movesFrom at h
  refine lv_iload_n hx hb dX2_movesFrom_0 rfl (lv_at hl 1 rfl) ?_
  refine lv_if_lt (tgt := 21) hx hb dX2_movesFrom_1 (by decide) (fun q => ?_) (fun q => ?_)
  · replace h := fp_ifT q h
    exact w_X2_movesFrom_21 E hk   hG (lv_sub hl [] rfl) h
  · replace h := fp_ifF q h
    refine lv_iload_n hx hb dX2_movesFrom_4 rfl (lv_at hl 1 rfl) ?_
    refine lv_aload_n hx hb dX2_movesFrom_5 rfl (lv_at hl 0 rfl) ?_
    refine fp_g2_0 E hG hk.1 tw_174 dX2_movesFrom_6 ?_
    refine lv_icmp_ge (tgt := 21) hx hb dX2_movesFrom_9 (by decide) (fun q => ?_) (fun q => ?_)
    · replace h := fp_ifT q h
      exact w_X2_movesFrom_21 E hk   hG (lv_sub hl [] rfl) h
    · replace h := fp_ifF q h
      refine lv_aload_n hx hb dX2_movesFrom_12 rfl (lv_at hl 0 rfl) ?_
      refine fp_g2_2 E hG hk.1 tw_177 dX2_movesFrom_13 ?_
      refine lv_iload_n hx hb dX2_movesFrom_16 rfl (lv_at hl 1 rfl) ?_
      obtain ⟨g_1, h⟩ := fp_gd_s h
      refine fp_iald E hG (hk.2.2.1).1 (fp_a20 (hk.2.2.1)) (fp_in_s g_1) dX2_movesFrom_17 ?_
      refine lv_goto (tgt := 22) hx hb dX2_movesFrom_18 (by decide) ?_
      exact w_X2_movesFrom_22 E hk  _ hG (lv_sub hl [] rfl) h
theorem c_X2_movesFrom (l : Launch) (D : va_G) (G : Nat → ClassId) (B : Nat) {M : fp_Mem} {k : Nat} {p1 : Int32} {r : Int32} (hk : fp_is2 k) (h : m_X2_movesFrom M k p1 = some r) : Met l yX2_movesFrom (Cond.code yX2_movesFrom cX2_movesFrom 2 (some .int) :: fp_T) rm_X2_movesFrom (va_Pc [.ref (B + k), .int p1] (fp_GS D G B M)) (fp_Qi D G B r M) 0 0 (fp_A B) :=
  fp_met (own := RX2) (by decide) rfl (Nat.le_of_ble_eq_true rfl) (fun E hG hl => w_X2_movesFrom_0 E hk hG hl h)
abbrev rm_X2_moversFrom : Room := { frames := 0, cells := 0, slots := 0, locals := 0 }
theorem cv_X2_moversFrom : fp_CV yX2_moversFrom cX2_moversFrom 2 (some .int) 1 := ⟨tw_737, tw_5, by decide, by decide +kernel⟩
set_option maxHeartbeats 2000000 in
theorem w_X2_moversFrom_22 {p : Program} {l : Launch} {e : Env} {s : State} {m : MethodId} {args : Array Value} {below : List Frame} {meth : Method} {c : Code} {D : va_G} {G : Nat → ClassId} {B : Nat} {M : fp_Mem} {k : Nat} {p1 : Int32} {r : Int32} (E : fp_EV p s m args meth c cX2_moversFrom 2 RX2 (some .int) D G) (hk : fp_is2 k) (s0 : Int32) {H : Heap} {locs : List Loc} {ls : Array Slot} (hG : fp_H D G B s M H locs) (hl : lv_has ls 2 []) (h : m_X2_moversFrom_22 M k p1 s0 = some r) : W p l e rm_X2_moversFrom s m args below meth c H locs 0 0 (MQ below (fp_Qi D G B r M) args s 0 0 (fp_A B)) (F0 m 22 ls [.int s0]) := by
  have hx := E.1
  have hb := E.2.1
  have hown := E.2.2.2.1
  unfold m_X2_moversFrom_22 at h
  exact fp_ireti E hG (Option.some.inj h) rfl dX2_moversFrom_22
set_option maxHeartbeats 2000000 in
theorem w_X2_moversFrom_21 {p : Program} {l : Launch} {e : Env} {s : State} {m : MethodId} {args : Array Value} {below : List Frame} {meth : Method} {c : Code} {D : va_G} {G : Nat → ClassId} {B : Nat} {M : fp_Mem} {k : Nat} {p1 : Int32} {r : Int32} (E : fp_EV p s m args meth c cX2_moversFrom 2 RX2 (some .int) D G) (hk : fp_is2 k) {H : Heap} {locs : List Loc} {ls : Array Slot} (hG : fp_H D G B s M H locs) (hl : lv_has ls 2 []) (h : m_X2_moversFrom_21 M k p1 = some r) : W p l e rm_X2_moversFrom s m args below meth c H locs 0 0 (MQ below (fp_Qi D G B r M) args s 0 0 (fp_A B)) (F0 m 21 ls []) := by
  have hx := E.1
  have hb := E.2.1
  have hown := E.2.2.2.1
  unfold m_X2_moversFrom_21 at h
  refine lv_iconst (v := (nI 0)) hx hb dX2_moversFrom_21 (by decide) ?_
  exact w_X2_moversFrom_22 E hk  _ hG (lv_sub hl [] rfl) h
set_option maxHeartbeats 2000000 in
theorem w_X2_moversFrom_0 {p : Program} {l : Launch} {e : Env} {s : State} {m : MethodId} {args : Array Value} {below : List Frame} {meth : Method} {c : Code} {D : va_G} {G : Nat → ClassId} {B : Nat} {M : fp_Mem} {k : Nat} {p1 : Int32} {r : Int32} (E : fp_EV p s m args meth c cX2_moversFrom 2 RX2 (some .int) D G) (hk : fp_is2 k) {H : Heap} {locs : List Loc} {ls : Array Slot} (hG : fp_H D G B s M H locs) (hl : lv_has ls 2 [(0, .ref (B + k)), (1, .int p1)]) (h : m_X2_moversFrom M k p1 = some r) : W p l e rm_X2_moversFrom s m args below meth c H locs 0 0 (MQ below (fp_Qi D G B r M) args s 0 0 (fp_A B)) (F0 m 0 ls []) := by
  have hx := E.1
  have hb := E.2.1
  have hown := E.2.2.2.1
  unfold m_X2_moversFrom at h
  refine lv_iload_n hx hb dX2_moversFrom_0 rfl (lv_at hl 1 rfl) ?_
  refine lv_if_lt (tgt := 21) hx hb dX2_moversFrom_1 (by decide) (fun q => ?_) (fun q => ?_)
  · replace h := fp_ifT q h
    exact w_X2_moversFrom_21 E hk   hG (lv_sub hl [] rfl) h
  · replace h := fp_ifF q h
    refine lv_iload_n hx hb dX2_moversFrom_4 rfl (lv_at hl 1 rfl) ?_
    refine lv_aload_n hx hb dX2_moversFrom_5 rfl (lv_at hl 0 rfl) ?_
    refine fp_g2_0 E hG hk.1 tw_174 dX2_moversFrom_6 ?_
    refine lv_icmp_ge (tgt := 21) hx hb dX2_moversFrom_9 (by decide) (fun q => ?_) (fun q => ?_)
    · replace h := fp_ifT q h
      exact w_X2_moversFrom_21 E hk   hG (lv_sub hl [] rfl) h
    · replace h := fp_ifF q h
      refine lv_aload_n hx hb dX2_moversFrom_12 rfl (lv_at hl 0 rfl) ?_
      refine fp_g2_4 E hG hk.1 tw_179 dX2_moversFrom_13 ?_
      refine lv_iload_n hx hb dX2_moversFrom_16 rfl (lv_at hl 1 rfl) ?_
      obtain ⟨g_1, h⟩ := fp_gd_s h
      refine fp_iald E hG (hk.2.2.2.2).1 (fp_a20 (hk.2.2.2.2)) (fp_in_s g_1) dX2_moversFrom_17 ?_
      refine lv_goto (tgt := 22) hx hb dX2_moversFrom_18 (by decide) ?_
      exact w_X2_moversFrom_22 E hk  _ hG (lv_sub hl [] rfl) h
theorem c_X2_moversFrom (l : Launch) (D : va_G) (G : Nat → ClassId) (B : Nat) {M : fp_Mem} {k : Nat} {p1 : Int32} {r : Int32} (hk : fp_is2 k) (h : m_X2_moversFrom M k p1 = some r) : Met l yX2_moversFrom (Cond.code yX2_moversFrom cX2_moversFrom 2 (some .int) :: fp_T) rm_X2_moversFrom (va_Pc [.ref (B + k), .int p1] (fp_GS D G B M)) (fp_Qi D G B r M) 0 0 (fp_A B) :=
  fp_met (own := RX2) (by decide) rfl (Nat.le_of_ble_eq_true rfl) (fun E hG hl => w_X2_moversFrom_0 E hk hG hl h)
abbrev rm_X2_tableOf : Room := { frames := 1, cells := 0, slots := 0, locals := 21 }
theorem cv_X2_tableOf : fp_CV yX2_tableOf cX2_tableOf 5 (some .int) 2 := ⟨tw_562, tw_5, by decide, by decide +kernel⟩
set_option maxHeartbeats 2000000 in
theorem w_X2_tableOf_13 {p : Program} {l : Launch} {e : Env} {s : State} {m : MethodId} {args : Array Value} {below : List Frame} {meth : Method} {c : Code} {D : va_G} {G : Nat → ClassId} {B : Nat} {M : fp_Mem} {k : Nat} {p1 : Int32} {p2 : Int32} {r : Int32} (E : fp_EV p s m args meth c cX2_tableOf 5 RX2 (some .int) D G) (hk : fp_is2 k) {H : Heap} {locs : List Loc} {ls : Array Slot} (hG : fp_H D G B s M H locs) (hl : lv_has ls 5 []) (h : m_X2_tableOf_13 M k p1 p2 = some r) : W p l e rm_X2_tableOf s m args below meth c H locs 0 0 (MQ below (fp_Qi D G B r M) args s 0 0 (fp_A B)) (F0 m 13 ls []) := by
  have hx := E.1
  have hb := E.2.1
  have hown := E.2.2.2.1
  unfold m_X2_tableOf_13 at h
  refine lv_iconst (v := (-1 : Int32)) hx hb dX2_tableOf_13 (by decide) ?_
  exact fp_ireti E hG (Option.some.inj h) rfl dX2_tableOf_14
set_option maxHeartbeats 2000000 in
theorem w_X2_tableOf_51 {p : Program} {l : Launch} {e : Env} {s : State} {m : MethodId} {args : Array Value} {below : List Frame} {meth : Method} {c : Code} {D : va_G} {G : Nat → ClassId} {B : Nat} {M : fp_Mem} {k : Nat} {p1 : Int32} {p2 : Int32} {r : Int32} (E : fp_EV p s m args meth c cX2_tableOf 5 RX2 (some .int) D G) (hk : fp_is2 k) (v3 : Int32) {H : Heap} {locs : List Loc} {ls : Array Slot} (hG : fp_H D G B s M H locs) (hl : lv_has ls 5 [(3, .int v3)]) (h : m_X2_tableOf_51 M k p1 p2 v3 = some r) : W p l e rm_X2_tableOf s m args below meth c H locs 0 0 (MQ below (fp_Qi D G B r M) args s 0 0 (fp_A B)) (F0 m 51 ls []) := by
  have hx := E.1
  have hb := E.2.1
  have hown := E.2.2.2.1
  unfold m_X2_tableOf_51 at h
  refine lv_iload_n hx hb dX2_tableOf_51 rfl (lv_at hl 0 rfl) ?_
  exact fp_ireti E hG (Option.some.inj h) rfl dX2_tableOf_52
set_option maxHeartbeats 2000000 in
theorem w_X2_tableOf_20 {p : Program} {l : Launch} {e : Env} {s : State} {m : MethodId} {args : Array Value} {below : List Frame} {meth : Method} {c : Code} {D : va_G} {G : Nat → ClassId} {B : Nat} {M : fp_Mem} {k : Nat} {p1 : Int32} {p2 : Int32} {r : Int32} (E : fp_EV p s m args meth c cX2_tableOf 5 RX2 (some .int) D G) (hk : fp_is2 k) : ∀ (n : Nat) (v3 : Int32) (v4 : Int32) {H : Heap} {locs : List Loc} {ls : Array Slot}, fp_H D G B s M H locs → lv_has ls 5 [(0, .ref (B + k)), (2, .int p2), (3, .int v3), (4, .int v4)] → m_X2_tableOf_20 M k p1 p2 n v3 v4 = some r → W p l e rm_X2_tableOf s m args below meth c H locs 0 0 (MQ below (fp_Qi D G B r M) args s 0 0 (fp_A B)) (F0 m 20 ls []) := by
  have hx := E.1
  have hb := E.2.1
  have hown := E.2.2.2.1
  intro n
  induction n with
  | zero =>
    intro v3 v4 H locs ls hG hl h
    exact nomatch h
  | succ n ih =>
    have ihK := @ih
    intro v3 v4 H locs ls hG hl h
    rw [m_X2_tableOf_20] at h
    refine lv_iload hx hb dX2_tableOf_20 (lv_at hl 3 rfl) ?_
    refine lv_iload_n hx hb dX2_tableOf_22 rfl (lv_at hl 1 rfl) ?_
    refine lv_icmp_ge (tgt := 51) hx hb dX2_tableOf_23 (by decide) (fun q => ?_) (fun q => ?_)
    · replace h := fp_ifT q h
      exact w_X2_tableOf_51 E hk  _ hG (lv_sub hl [2] rfl) h
    · replace h := fp_ifF q h
      refine lv_iload_n hx hb dX2_tableOf_26 rfl (lv_at hl 2 rfl) ?_
      refine lv_if_lt (tgt := 51) hx hb dX2_tableOf_27 (by decide) (fun q => ?_) (fun q => ?_)
      · replace h := fp_ifT q h
        exact w_X2_tableOf_51 E hk  _ hG (lv_sub hl [2] rfl) h
      · replace h := fp_ifF q h
        refine lv_iload_n hx hb dX2_tableOf_30 rfl (lv_at hl 2 rfl) ?_
        refine lv_aload_n hx hb dX2_tableOf_31 rfl (lv_at hl 0 rfl) ?_
        refine fp_g2_0 E hG hk.1 tw_174 dX2_tableOf_32 ?_
        refine lv_icmp_ge (tgt := 51) hx hb dX2_tableOf_35 (by decide) (fun q => ?_) (fun q => ?_)
        · replace h := fp_ifT q h
          exact w_X2_tableOf_51 E hk  _ hG (lv_sub hl [2] rfl) h
        · replace h := fp_ifF q h
          refine lv_aload_n hx hb dX2_tableOf_38 rfl (lv_at hl 0 rfl) ?_
          refine fp_g2_3 E hG hk.1 tw_178 dX2_tableOf_39 ?_
          refine lv_iload_n hx hb dX2_tableOf_42 rfl (lv_at hl 2 rfl) ?_
          obtain ⟨g_1, h⟩ := fp_gd_s h
          refine fp_iald E hG (hk.2.2.2.1).1 (fp_a20 (hk.2.2.2.1)) (fp_in_s g_1) dX2_tableOf_43 ?_
          obtain ⟨x_2, ex_2, h⟩ := fp_lt_s h
          refine fp_top ex_2 ?_
          refine lv_istore_n (lv' := [(3, .int x_2), (0, .ref (B + k)), (2, .int p2), (4, .int v4)]) hx hb dX2_tableOf_44 rfl hl (by decide) rfl (fun ls hl => ?_)
          obtain ⟨x_3, ex_3, h⟩ := fp_lt_s h
          refine lv_iinc (v := x_3) (lv' := [(4, .int x_3), (3, .int x_2), (0, .ref (B + k)), (2, .int p2)]) hx hb dX2_tableOf_45 hl (k := 3) rfl (by rw [ex_3]; rfl) (by decide) rfl (fun ls hl => ?_)
          refine lv_goto (tgt := 20) hx hb dX2_tableOf_48 (by decide) ?_
          exact ih _ _ hG (lv_sub hl [2, 3, 1, 0] rfl) h
set_option maxHeartbeats 2000000 in
theorem w_X2_tableOf_0 {p : Program} {l : Launch} {e : Env} {s : State} {m : MethodId} {args : Array Value} {below : List Frame} {meth : Method} {c : Code} {D : va_G} {G : Nat → ClassId} {B : Nat} {M : fp_Mem} {k : Nat} {p1 : Int32} {p2 : Int32} {r : Int32} (E : fp_EV p s m args meth c cX2_tableOf 5 RX2 (some .int) D G) (hk : fp_is2 k) {H : Heap} {locs : List Loc} {ls : Array Slot} (hG : fp_H D G B s M H locs) (hl : lv_has ls 5 [(0, .ref (B + k)), (1, .int p1), (2, .int p2)]) (h : m_X2_tableOf M k p1 p2 = some r) : W p l e rm_X2_tableOf s m args below meth c H locs 0 0 (MQ below (fp_Qi D G B r M) args s 0 0 (fp_A B)) (F0 m 0 ls []) := by
  have hx := E.1
  have hb := E.2.1
  have hown := E.2.2.2.1
  unfold m_X2_tableOf at h
  refine lv_iload_n hx hb dX2_tableOf_0 rfl (lv_at hl 2 rfl) ?_
  refine lv_if_lt (tgt := 13) hx hb dX2_tableOf_1 (by decide) (fun q => ?_) (fun q => ?_)
  · replace h := fp_ifT q h
    exact w_X2_tableOf_13 E hk   hG (lv_sub hl [] rfl) h
  · replace h := fp_ifF q h
    refine lv_iload_n hx hb dX2_tableOf_4 rfl (lv_at hl 2 rfl) ?_
    refine lv_aload_n hx hb dX2_tableOf_5 rfl (lv_at hl 0 rfl) ?_
    refine lv_iload_n hx hb dX2_tableOf_6 rfl (lv_at hl 1 rfl) ?_
    obtain ⟨r_4, c_5, h⟩ := fp_b1_s h
    refine fp_callVi (As := [.int p1]) (rest := [.int p2]) E hG (c_X2_movesFrom l D G B hk c_5) cv_X2_movesFrom tw_563 tw_556 tw_557 ⟨rfl, rfl⟩ ⟨Nat.le_of_ble_eq_true rfl, Nat.le_of_ble_eq_true rfl⟩ (fp_recv E hG hk.1.1 (fp_o2 hk.1 _) rfl) rfl rfl (Nat.le_of_ble_eq_true rfl) hl.1 dX2_tableOf_7 ⟨Nat.zero_le _, Nat.zero_le _⟩ (fun H locs hG => ?_)
    refine lv_icmp_le (tgt := 15) hx hb dX2_tableOf_10 (by decide) (fun q => ?_) (fun q => ?_)
    · replace h := fp_ifT q h
      refine lv_iload_n hx hb dX2_tableOf_15 rfl (lv_at hl 1 rfl) ?_
      refine lv_istore_n (lv' := [(3, .int p1), (0, .ref (B + k)), (1, .int p1), (2, .int p2)]) hx hb dX2_tableOf_16 rfl hl (by decide) rfl (fun ls hl => ?_)
      refine lv_iconst (v := (nI 0)) hx hb dX2_tableOf_17 (by decide) ?_
      refine lv_istore (lv' := [(4, .int (nI 0)), (3, .int p1), (0, .ref (B + k)), (1, .int p1), (2, .int p2)]) hx hb dX2_tableOf_18 hl (by decide) rfl (fun ls hl => ?_)
      exact w_X2_tableOf_20 E hk  fp_fu _ _ hG (lv_sub hl [2, 4, 1, 0] rfl) h
    · replace h := fp_ifF q h
      exact w_X2_tableOf_13 E hk   hG (lv_sub hl [] rfl) h
theorem c_X2_tableOf (l : Launch) (D : va_G) (G : Nat → ClassId) (B : Nat) {M : fp_Mem} {k : Nat} {p1 : Int32} {p2 : Int32} {r : Int32} (hk : fp_is2 k) (h : m_X2_tableOf M k p1 p2 = some r) : Met l yX2_tableOf (Cond.code yX2_tableOf cX2_tableOf 5 (some .int) :: fp_T) rm_X2_tableOf (va_Pc [.ref (B + k), .int p1, .int p2] (fp_GS D G B M)) (fp_Qi D G B r M) 0 0 (fp_A B) :=
  fp_met (own := RX2) (by decide) rfl (Nat.le_of_ble_eq_true rfl) (fun E hG hl => w_X2_tableOf_0 E hk hG hl h)
abbrev rm_X2_withoutChain : Room := { frames := 0, cells := 0, slots := 0, locals := 0 }
theorem cv_X2_withoutChain : fp_CV yX2_withoutChain cX2_withoutChain 3 (some .int) 0 := ⟨tw_509, tw_5, by decide, by decide +kernel⟩
set_option maxHeartbeats 2000000 in
theorem w_X2_withoutChain_28 {p : Program} {l : Launch} {e : Env} {s : State} {m : MethodId} {args : Array Value} {below : List Frame} {meth : Method} {c : Code} {D : va_G} {G : Nat → ClassId} {B : Nat} {M : fp_Mem} {k : Nat} {K4 : Int32 → Int32 → Option (Int32)} {r : Int32} (E : fp_EV p s m args meth c cX2_withoutChain 3 RX2 (some .int) D G) (hk : fp_is2 k) (HK4 : ∀ (wv1 : Int32) (wv2 : Int32) {H : Heap} {locs : List Loc} {ls : Array Slot}, fp_H D G B s M H locs → lv_has ls 3 [(0, .ref (B + k)), (1, .int wv1), (2, .int wv2)] → K4 wv1 wv2 = some r → W p l e rm_X2_withoutChain s m args below meth c H locs 0 0 (MQ below (fp_Qi D G B r M) args s 0 0 (fp_A B)) (F0 m 4 ls [])) (v1 : Int32) (v2 : Int32) {H : Heap} {locs : List Loc} {ls : Array Slot} (hG : fp_H D G B s M H locs) (hl : lv_has ls 3 [(0, .ref (B + k)), (1, .int v1), (2, .int v2)]) (h : m_X2_withoutChain_28 M k K4 v1 v2 = some r) : W p l e rm_X2_withoutChain s m args below meth c H locs 0 0 (MQ below (fp_Qi D G B r M) args s 0 0 (fp_A B)) (F0 m 28 ls []) := by
  have hx := E.1
  have hb := E.2.1
  have hown := E.2.2.2.1
  unfold m_X2_withoutChain_28 at h
  obtain ⟨x_1, ex_1, h⟩ := fp_lt_s h
  refine lv_iinc (v := x_1) (lv' := [(2, .int x_1), (0, .ref (B + k)), (1, .int v1)]) hx hb dX2_withoutChain_28 hl (k := 2) rfl (by rw [ex_1]; rfl) (by decide) rfl (fun ls hl => ?_)
  refine lv_goto (tgt := 4) hx hb dX2_withoutChain_31 (by decide) ?_
  exact HK4 _ _ hG (lv_sub hl [1, 2, 0] rfl) h
set_option maxHeartbeats 2000000 in
theorem w_X2_withoutChain_4 {p : Program} {l : Launch} {e : Env} {s : State} {m : MethodId} {args : Array Value} {below : List Frame} {meth : Method} {c : Code} {D : va_G} {G : Nat → ClassId} {B : Nat} {M : fp_Mem} {k : Nat} {r : Int32} (E : fp_EV p s m args meth c cX2_withoutChain 3 RX2 (some .int) D G) (hk : fp_is2 k) : ∀ (n : Nat) (v1 : Int32) (v2 : Int32) {H : Heap} {locs : List Loc} {ls : Array Slot}, fp_H D G B s M H locs → lv_has ls 3 [(0, .ref (B + k)), (1, .int v1), (2, .int v2)] → m_X2_withoutChain_4 M k n v1 v2 = some r → W p l e rm_X2_withoutChain s m args below meth c H locs 0 0 (MQ below (fp_Qi D G B r M) args s 0 0 (fp_A B)) (F0 m 4 ls []) := by
  have hx := E.1
  have hb := E.2.1
  have hown := E.2.2.2.1
  intro n
  induction n with
  | zero =>
    intro v1 v2 H locs ls hG hl h
    exact nomatch h
  | succ n ih =>
    have ihK := @ih
    intro v1 v2 H locs ls hG hl h
    rw [m_X2_withoutChain_4] at h
    refine lv_iload_n hx hb dX2_withoutChain_4 rfl (lv_at hl 2 rfl) ?_
    refine lv_aload_n hx hb dX2_withoutChain_5 rfl (lv_at hl 0 rfl) ?_
    refine fp_g2_0 E hG hk.1 tw_174 dX2_withoutChain_6 ?_
    refine lv_icmp_ge (tgt := 34) hx hb dX2_withoutChain_9 (by decide) (fun q => ?_) (fun q => ?_)
    · replace h := fp_ifT q h
      refine lv_iload_n hx hb dX2_withoutChain_34 rfl (lv_at hl 1 rfl) ?_
      exact fp_ireti E hG (Option.some.inj h) rfl dX2_withoutChain_35
    · replace h := fp_ifF q h
      refine lv_aload_n hx hb dX2_withoutChain_12 rfl (lv_at hl 0 rfl) ?_
      refine fp_g2_2 E hG hk.1 tw_177 dX2_withoutChain_13 ?_
      refine lv_iload_n hx hb dX2_withoutChain_16 rfl (lv_at hl 2 rfl) ?_
      obtain ⟨g_2, h⟩ := fp_gd_s h
      refine fp_iald E hG (hk.2.2.1).1 (fp_a20 (hk.2.2.1)) (fp_in_s g_2) dX2_withoutChain_17 ?_
      refine lv_iconst (v := (-1 : Int32)) hx hb dX2_withoutChain_18 (by decide) ?_
      refine lv_icmp_ne (tgt := 28) hx hb dX2_withoutChain_19 (by decide) (fun q => ?_) (fun q => ?_)
      · replace h := fp_ifF q h
        exact w_X2_withoutChain_28 E hk ihK _ _ hG (lv_sub hl [0, 1, 2] rfl) h
      · replace h := fp_ifT q h
        refine lv_iload_n hx hb dX2_withoutChain_22 rfl (lv_at hl 1 rfl) ?_
        refine lv_iconst (v := (nI 1)) hx hb dX2_withoutChain_23 (by decide) ?_
        refine lv_iload_n hx hb dX2_withoutChain_24 rfl (lv_at hl 2 rfl) ?_
        refine lv_ishl hx hb dX2_withoutChain_25 ?_
        refine lv_ior hx hb dX2_withoutChain_26 ?_
        obtain ⟨x_3, ex_3, h⟩ := fp_lt_s h
        refine fp_top ex_3 ?_
        refine lv_istore_n (lv' := [(1, .int x_3), (0, .ref (B + k)), (2, .int v2)]) hx hb dX2_withoutChain_27 rfl hl (by decide) rfl (fun ls hl => ?_)
        exact w_X2_withoutChain_28 E hk ihK _ _ hG (lv_sub hl [1, 0, 2] rfl) h
set_option maxHeartbeats 2000000 in
theorem w_X2_withoutChain_0 {p : Program} {l : Launch} {e : Env} {s : State} {m : MethodId} {args : Array Value} {below : List Frame} {meth : Method} {c : Code} {D : va_G} {G : Nat → ClassId} {B : Nat} {M : fp_Mem} {k : Nat} {r : Int32} (E : fp_EV p s m args meth c cX2_withoutChain 3 RX2 (some .int) D G) (hk : fp_is2 k) {H : Heap} {locs : List Loc} {ls : Array Slot} (hG : fp_H D G B s M H locs) (hl : lv_has ls 3 [(0, .ref (B + k))]) (h : m_X2_withoutChain M k = some r) : W p l e rm_X2_withoutChain s m args below meth c H locs 0 0 (MQ below (fp_Qi D G B r M) args s 0 0 (fp_A B)) (F0 m 0 ls []) := by
  have hx := E.1
  have hb := E.2.1
  have hown := E.2.2.2.1
  unfold m_X2_withoutChain at h
  refine lv_iconst (v := (nI 0)) hx hb dX2_withoutChain_0 (by decide) ?_
  refine lv_istore_n (lv' := [(1, .int (nI 0)), (0, .ref (B + k))]) hx hb dX2_withoutChain_1 rfl hl (by decide) rfl (fun ls hl => ?_)
  refine lv_iconst (v := (nI 0)) hx hb dX2_withoutChain_2 (by decide) ?_
  refine lv_istore_n (lv' := [(2, .int (nI 0)), (1, .int (nI 0)), (0, .ref (B + k))]) hx hb dX2_withoutChain_3 rfl hl (by decide) rfl (fun ls hl => ?_)
  exact w_X2_withoutChain_4 E hk  fp_fu _ _ hG (lv_sub hl [2, 1, 0] rfl) h
theorem c_X2_withoutChain (l : Launch) (D : va_G) (G : Nat → ClassId) (B : Nat) {M : fp_Mem} {k : Nat}  {r : Int32} (hk : fp_is2 k) (h : m_X2_withoutChain M k = some r) : Met l yX2_withoutChain (Cond.code yX2_withoutChain cX2_withoutChain 3 (some .int) :: fp_T) rm_X2_withoutChain (va_Pc [.ref (B + k)] (fp_GS D G B M)) (fp_Qi D G B r M) 0 0 (fp_A B) :=
  fp_met (own := RX2) (by decide) rfl (Nat.le_of_ble_eq_true rfl) (fun E hG hl => w_X2_withoutChain_0 E hk hG hl h)
abbrev rm_X2_farthest : Room := { frames := 1, cells := 0, slots := 0, locals := 21 }
theorem cv_X2_farthest : fp_CV yX2_farthest cX2_farthest 3 (some .int) 0 := ⟨tw_652, tw_5, by decide, by decide +kernel⟩
set_option maxHeartbeats 2000000 in
theorem w_X2_farthest_40 {p : Program} {l : Launch} {e : Env} {s : State} {m : MethodId} {args : Array Value} {below : List Frame} {meth : Method} {c : Code} {D : va_G} {G : Nat → ClassId} {B : Nat} {M : fp_Mem} {k : Nat} {K4 : Int32 → Int32 → Option (Int32)} {r : Int32} (E : fp_EV p s m args meth c cX2_farthest 3 RX2 (some .int) D G) (hk : fp_is2 k) (HK4 : ∀ (wv1 : Int32) (wv2 : Int32) {H : Heap} {locs : List Loc} {ls : Array Slot}, fp_H D G B s M H locs → lv_has ls 3 [(0, .ref (B + k)), (1, .int wv1), (2, .int wv2)] → K4 wv1 wv2 = some r → W p l e rm_X2_farthest s m args below meth c H locs 0 0 (MQ below (fp_Qi D G B r M) args s 0 0 (fp_A B)) (F0 m 4 ls [])) (v1 : Int32) (v2 : Int32) {H : Heap} {locs : List Loc} {ls : Array Slot} (hG : fp_H D G B s M H locs) (hl : lv_has ls 3 [(0, .ref (B + k)), (1, .int v1), (2, .int v2)]) (h : m_X2_farthest_40 M k K4 v1 v2 = some r) : W p l e rm_X2_farthest s m args below meth c H locs 0 0 (MQ below (fp_Qi D G B r M) args s 0 0 (fp_A B)) (F0 m 40 ls []) := by
  have hx := E.1
  have hb := E.2.1
  have hown := E.2.2.2.1
  unfold m_X2_farthest_40 at h
  obtain ⟨x_1, ex_1, h⟩ := fp_lt_s h
  refine lv_iinc (v := x_1) (lv' := [(2, .int x_1), (0, .ref (B + k)), (1, .int v1)]) hx hb dX2_farthest_40 hl (k := 2) rfl (by rw [ex_1]; rfl) (by decide) rfl (fun ls hl => ?_)
  refine lv_goto (tgt := 4) hx hb dX2_farthest_43 (by decide) ?_
  exact HK4 _ _ hG (lv_sub hl [1, 2, 0] rfl) h
set_option maxHeartbeats 2000000 in
theorem w_X2_farthest_4 {p : Program} {l : Launch} {e : Env} {s : State} {m : MethodId} {args : Array Value} {below : List Frame} {meth : Method} {c : Code} {D : va_G} {G : Nat → ClassId} {B : Nat} {M : fp_Mem} {k : Nat} {r : Int32} (E : fp_EV p s m args meth c cX2_farthest 3 RX2 (some .int) D G) (hk : fp_is2 k) : ∀ (n : Nat) (v1 : Int32) (v2 : Int32) {H : Heap} {locs : List Loc} {ls : Array Slot}, fp_H D G B s M H locs → lv_has ls 3 [(0, .ref (B + k)), (1, .int v1), (2, .int v2)] → m_X2_farthest_4 M k n v1 v2 = some r → W p l e rm_X2_farthest s m args below meth c H locs 0 0 (MQ below (fp_Qi D G B r M) args s 0 0 (fp_A B)) (F0 m 4 ls []) := by
  have hx := E.1
  have hb := E.2.1
  have hown := E.2.2.2.1
  intro n
  induction n with
  | zero =>
    intro v1 v2 H locs ls hG hl h
    exact nomatch h
  | succ n ih =>
    have ihK := @ih
    intro v1 v2 H locs ls hG hl h
    rw [m_X2_farthest_4] at h
    refine lv_iload_n hx hb dX2_farthest_4 rfl (lv_at hl 2 rfl) ?_
    refine lv_aload_n hx hb dX2_farthest_5 rfl (lv_at hl 0 rfl) ?_
    refine fp_g2_0 E hG hk.1 tw_174 dX2_farthest_6 ?_
    refine lv_icmp_ge (tgt := 46) hx hb dX2_farthest_9 (by decide) (fun q => ?_) (fun q => ?_)
    · replace h := fp_ifT q h
      refine lv_iload_n hx hb dX2_farthest_46 rfl (lv_at hl 1 rfl) ?_
      exact fp_ireti E hG (Option.some.inj h) rfl dX2_farthest_47
    · replace h := fp_ifF q h
      refine lv_aload_n hx hb dX2_farthest_12 rfl (lv_at hl 0 rfl) ?_
      refine fp_g2_2 E hG hk.1 tw_177 dX2_farthest_13 ?_
      refine lv_iload_n hx hb dX2_farthest_16 rfl (lv_at hl 2 rfl) ?_
      obtain ⟨g_2, h⟩ := fp_gd_s h
      refine fp_iald E hG (hk.2.2.1).1 (fp_a20 (hk.2.2.1)) (fp_in_s g_2) dX2_farthest_17 ?_
      refine lv_iconst (v := (-1 : Int32)) hx hb dX2_farthest_18 (by decide) ?_
      refine lv_icmp_ne (tgt := 24) hx hb dX2_farthest_19 (by decide) (fun q => ?_) (fun q => ?_)
      · replace h := fp_ifF q h
        refine lv_aload_n hx hb dX2_farthest_24 rfl (lv_at hl 0 rfl) ?_
        refine fp_g2_2 E hG hk.1 tw_177 dX2_farthest_25 ?_
        refine lv_iload_n hx hb dX2_farthest_28 rfl (lv_at hl 2 rfl) ?_
        obtain ⟨g_3, h⟩ := fp_gd_s h
        refine fp_iald E hG (hk.2.2.1).1 (fp_a20 (hk.2.2.1)) (fp_in_s g_3) dX2_farthest_29 ?_
        refine lv_aload_n hx hb dX2_farthest_30 rfl (lv_at hl 0 rfl) ?_
        refine lv_iload_n hx hb dX2_farthest_31 rfl (lv_at hl 1 rfl) ?_
        obtain ⟨r_4, c_5, h⟩ := fp_b1_s h
        refine fp_callVi (As := [.int v1]) (rest := [.int (M (k + 2) (Int32.toNatClampNeg v2))]) E hG (c_X2_movesFrom l D G B hk c_5) cv_X2_movesFrom tw_563 tw_556 tw_557 ⟨rfl, rfl⟩ ⟨Nat.le_of_ble_eq_true rfl, Nat.le_of_ble_eq_true rfl⟩ (fp_recv E hG hk.1.1 (fp_o2 hk.1 _) rfl) rfl rfl (Nat.le_of_ble_eq_true rfl) hl.1 dX2_farthest_32 ⟨Nat.zero_le _, Nat.zero_le _⟩ (fun H locs hG => ?_)
        refine lv_icmp_le (tgt := 40) hx hb dX2_farthest_35 (by decide) (fun q => ?_) (fun q => ?_)
        · replace h := fp_ifT q h
          exact w_X2_farthest_40 E hk ihK _ _ hG (lv_sub hl [0, 1, 2] rfl) h
        · replace h := fp_ifF q h
          refine lv_iload_n hx hb dX2_farthest_38 rfl (lv_at hl 2 rfl) ?_
          refine lv_istore_n (lv' := [(1, .int v2), (0, .ref (B + k)), (2, .int v2)]) hx hb dX2_farthest_39 rfl hl (by decide) rfl (fun ls hl => ?_)
          exact w_X2_farthest_40 E hk ihK _ _ hG (lv_sub hl [1, 0, 2] rfl) h
      · replace h := fp_ifT q h
        refine lv_iload_n hx hb dX2_farthest_22 rfl (lv_at hl 2 rfl) ?_
        exact fp_ireti E hG (Option.some.inj h) rfl dX2_farthest_23
set_option maxHeartbeats 2000000 in
theorem w_X2_farthest_0 {p : Program} {l : Launch} {e : Env} {s : State} {m : MethodId} {args : Array Value} {below : List Frame} {meth : Method} {c : Code} {D : va_G} {G : Nat → ClassId} {B : Nat} {M : fp_Mem} {k : Nat} {r : Int32} (E : fp_EV p s m args meth c cX2_farthest 3 RX2 (some .int) D G) (hk : fp_is2 k) {H : Heap} {locs : List Loc} {ls : Array Slot} (hG : fp_H D G B s M H locs) (hl : lv_has ls 3 [(0, .ref (B + k))]) (h : m_X2_farthest M k = some r) : W p l e rm_X2_farthest s m args below meth c H locs 0 0 (MQ below (fp_Qi D G B r M) args s 0 0 (fp_A B)) (F0 m 0 ls []) := by
  have hx := E.1
  have hb := E.2.1
  have hown := E.2.2.2.1
  unfold m_X2_farthest at h
  refine lv_iconst (v := (-1 : Int32)) hx hb dX2_farthest_0 (by decide) ?_
  refine lv_istore_n (lv' := [(1, .int (-1 : Int32)), (0, .ref (B + k))]) hx hb dX2_farthest_1 rfl hl (by decide) rfl (fun ls hl => ?_)
  refine lv_iconst (v := (nI 0)) hx hb dX2_farthest_2 (by decide) ?_
  refine lv_istore_n (lv' := [(2, .int (nI 0)), (1, .int (-1 : Int32)), (0, .ref (B + k))]) hx hb dX2_farthest_3 rfl hl (by decide) rfl (fun ls hl => ?_)
  exact w_X2_farthest_4 E hk  fp_fu _ _ hG (lv_sub hl [2, 1, 0] rfl) h
theorem c_X2_farthest (l : Launch) (D : va_G) (G : Nat → ClassId) (B : Nat) {M : fp_Mem} {k : Nat}  {r : Int32} (hk : fp_is2 k) (h : m_X2_farthest M k = some r) : Met l yX2_farthest (Cond.code yX2_farthest cX2_farthest 3 (some .int) :: fp_T) rm_X2_farthest (va_Pc [.ref (B + k)] (fp_GS D G B M)) (fp_Qi D G B r M) 0 0 (fp_A B) :=
  fp_met (own := RX2) (by decide) rfl (Nat.le_of_ble_eq_true rfl) (fun E hG hl => w_X2_farthest_0 E hk hG hl h)

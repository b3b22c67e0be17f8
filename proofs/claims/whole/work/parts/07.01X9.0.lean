abbrev rm_X9_begins : Room := { frames := 1, cells := 0, slots := 0, locals := 21 }
theorem cv_X9_begins : fp_CV yX9_begins cX9_begins 4 none 1 := ⟨tw_435, tw_4, by decide, by decide +kernel⟩
set_option maxHeartbeats 2000000 in
theorem w_X9_begins_53 {p : Program} {l : Launch} {e : Env} {s : State} {m : MethodId} {args : Array Value} {below : List Frame} {meth : Method} {c : Code} {D : va_G} {G : Nat → ClassId} {B : Nat} {k : Nat} {k1 : Nat} {K2 : Int32 → fp_Mem → Option (fp_Mem)} {M' : fp_Mem} (E : fp_EV p s m args meth c cX9_begins 4 RX9 none D G) (hk : fp_is9 k) (hk1 : fp_is7 k1) (HK2 : ∀ (wv2 : Int32) (wM : fp_Mem) {H : Heap} {locs : List Loc} {ls : Array Slot}, fp_H D G B s wM H locs → lv_has ls 4 [(0, .ref (B + k)), (1, .ref (B + k1)), (2, .int wv2)] → K2 wv2 wM = some M' → W p l e rm_X9_begins s m args below meth c H locs 0 0 (MQ below (fp_Qv D G B M') args s 0 0 (fp_A B)) (F0 m 2 ls [])) (v2 : Int32) (s1 : Int32) (s2 : Int32) (M : fp_Mem) {H : Heap} {locs : List Loc} {ls : Array Slot} (hG : fp_H D G B s M H locs) (hl : lv_has ls 4 [(0, .ref (B + k)), (1, .ref (B + k1)), (2, .int v2)]) (h : m_X9_begins_53 k k1 K2 v2 s1 s2 M = some M') : W p l e rm_X9_begins s m args below meth c H locs 0 0 (MQ below (fp_Qv D G B M') args s 0 0 (fp_A B)) (F0 m 53 ls [.int s2, .int s1, .ref (B + (k + 2))]) := by
  have hx := E.1
  have hb := E.2.1
  have hown := E.2.2.2.1
  unfold m_X9_begins_53 at h
  obtain ⟨g_1, h⟩ := fp_gd_s h
  obtain ⟨M_2, eM_2, h⟩ := fp_lt_s h
  refine fp_iast E hG (hk.2.2).1 (fp_a20 (hk.2.2)) (fp_in_s g_1) dX9_begins_53 (fun H locs hG => ?_)
  replace hG := fp_memH eM_2 hG
  obtain ⟨x_3, ex_3, h⟩ := fp_lt_s h
  refine lv_iinc (v := x_3) (lv' := [(2, .int x_3), (0, .ref (B + k)), (1, .ref (B + k1))]) hx hb dX9_begins_54 hl (k := 2) rfl (by rw [ex_3]; rfl) (by decide) rfl (fun ls hl => ?_)
  refine lv_goto (tgt := 2) hx hb dX9_begins_57 (by decide) ?_
  exact HK2 _ _ hG (lv_sub hl [1, 2, 0] rfl) h
set_option maxHeartbeats 2000000 in
theorem w_X9_begins_33 {p : Program} {l : Launch} {e : Env} {s : State} {m : MethodId} {args : Array Value} {below : List Frame} {meth : Method} {c : Code} {D : va_G} {G : Nat → ClassId} {B : Nat} {k : Nat} {k1 : Nat} {K2 : Int32 → fp_Mem → Option (fp_Mem)} {M' : fp_Mem} (E : fp_EV p s m args meth c cX9_begins 4 RX9 none D G) (hk : fp_is9 k) (hk1 : fp_is7 k1) (HK2 : ∀ (wv2 : Int32) (wM : fp_Mem) {H : Heap} {locs : List Loc} {ls : Array Slot}, fp_H D G B s wM H locs → lv_has ls 4 [(0, .ref (B + k)), (1, .ref (B + k1)), (2, .int wv2)] → K2 wv2 wM = some M' → W p l e rm_X9_begins s m args below meth c H locs 0 0 (MQ below (fp_Qv D G B M') args s 0 0 (fp_A B)) (F0 m 2 ls [])) (v2 : Int32) (v3 : Int32) (s1 : Int32) (s2 : Int32) (M : fp_Mem) {H : Heap} {locs : List Loc} {ls : Array Slot} (hG : fp_H D G B s M H locs) (hl : lv_has ls 4 [(0, .ref (B + k)), (1, .ref (B + k1)), (2, .int v2), (3, .int v3)]) (h : m_X9_begins_33 k k1 K2 v2 v3 s1 s2 M = some M') : W p l e rm_X9_begins s m args below meth c H locs 0 0 (MQ below (fp_Qv D G B M') args s 0 0 (fp_A B)) (F0 m 33 ls [.int s2, .int s1, .ref (B + (k + 1))]) := by
  have hx := E.1
  have hb := E.2.1
  have hown := E.2.2.2.1
  unfold m_X9_begins_33 at h
  obtain ⟨g_4, h⟩ := fp_gd_s h
  obtain ⟨M_5, eM_5, h⟩ := fp_lt_s h
  refine fp_iast E hG (hk.2.1).1 (fp_a20 (hk.2.1)) (fp_in_s g_4) dX9_begins_33 (fun H locs hG => ?_)
  replace hG := fp_memH eM_5 hG
  refine lv_aload_n hx hb dX9_begins_34 rfl (lv_at hl 0 rfl) ?_
  refine fp_g9_1 E hG hk.1 tw_124 dX9_begins_35 ?_
  refine lv_iload_n hx hb dX9_begins_38 rfl (lv_at hl 2 rfl) ?_
  refine lv_iload_n hx hb dX9_begins_39 rfl (lv_at hl 3 rfl) ?_
  refine lv_if_eq (tgt := 52) hx hb dX9_begins_40 (by decide) (fun q => ?_) (fun q => ?_)
  · replace h := fp_ifT q h
    refine lv_iconst (v := (nI 0)) hx hb dX9_begins_52 (by decide) ?_
    exact w_X9_begins_53 E hk hk1 HK2 _ _ _ _ hG (lv_sub hl [0, 1, 2] rfl) h
  · replace h := fp_ifF q h
    refine lv_aload_n hx hb dX9_begins_43 rfl (lv_at hl 1 rfl) ?_
    refine fp_g7_6 E hG hk1.1 tw_59 dX9_begins_44 ?_
    refine lv_iload_n hx hb dX9_begins_47 rfl (lv_at hl 2 rfl) ?_
    obtain ⟨g_6, h⟩ := fp_gd_s h
    refine fp_iald E hG (hk1.2.2.1).1 (fp_a20 (hk1.2.2.1)) (fp_in_s g_6) dX9_begins_48 ?_
    refine lv_goto (tgt := 53) hx hb dX9_begins_49 (by decide) ?_
    exact w_X9_begins_53 E hk hk1 HK2 _ _ _ _ hG (lv_sub hl [0, 1, 2] rfl) h
set_option maxHeartbeats 2000000 in
theorem w_X9_begins_2 {p : Program} {l : Launch} {e : Env} {s : State} {m : MethodId} {args : Array Value} {below : List Frame} {meth : Method} {c : Code} {D : va_G} {G : Nat → ClassId} {B : Nat} {k : Nat} {k1 : Nat} {M' : fp_Mem} (E : fp_EV p s m args meth c cX9_begins 4 RX9 none D G) (hk : fp_is9 k) (hk1 : fp_is7 k1) : ∀ (n : Nat) (v2 : Int32) (M : fp_Mem) {H : Heap} {locs : List Loc} {ls : Array Slot}, fp_H D G B s M H locs → lv_has ls 4 [(0, .ref (B + k)), (1, .ref (B + k1)), (2, .int v2)] → m_X9_begins_2 k k1 n v2 M = some M' → W p l e rm_X9_begins s m args below meth c H locs 0 0 (MQ below (fp_Qv D G B M') args s 0 0 (fp_A B)) (F0 m 2 ls []) := by
  have hx := E.1
  have hb := E.2.1
  have hown := E.2.2.2.1
  intro n
  induction n with
  | zero =>
    intro v2 M H locs ls hG hl h
    exact nomatch h
  | succ n ih =>
    have ihK := @ih
    intro v2 M H locs ls hG hl h
    rw [m_X9_begins_2] at h
    refine lv_iload_n hx hb dX9_begins_2 rfl (lv_at hl 2 rfl) ?_
    refine lv_bipush (v := (nI 9)) hx hb dX9_begins_3 (by decide) ?_
    refine lv_icmp_ge (tgt := 60) hx hb dX9_begins_5 (by decide) (fun q => ?_) (fun q => ?_)
    · replace h := fp_ifT q h
      refine lv_aload_n hx hb dX9_begins_60 rfl (lv_at hl 0 rfl) ?_
      refine lv_aload_n hx hb dX9_begins_61 rfl (lv_at hl 1 rfl) ?_
      refine fp_g7_2 E hG hk1.1 tw_44 dX9_begins_62 ?_
      obtain ⟨M_7, eM_7, h⟩ := fp_lt_s h
      refine fp_p9_2 E hG hk.1 tw_128 dX9_begins_65 (fun H locs hG => ?_)
      replace hG := fp_memH eM_7 hG
      refine lv_aload_n hx hb dX9_begins_68 rfl (lv_at hl 0 rfl) ?_
      refine lv_iconst (v := (nI 0)) hx hb dX9_begins_69 (by decide) ?_
      obtain ⟨M_8, eM_8, h⟩ := fp_lt_s h
      refine fp_p9_3 E hG hk.1 tw_132 dX9_begins_70 (fun H locs hG => ?_)
      replace hG := fp_memH eM_8 hG
      refine lv_aload_n hx hb dX9_begins_73 rfl (lv_at hl 0 rfl) ?_
      refine lv_iconst (v := (nI 0)) hx hb dX9_begins_74 (by decide) ?_
      obtain ⟨M_9, eM_9, h⟩ := fp_lt_s h
      refine fp_p9_4 E hG hk.1 tw_134 dX9_begins_75 (fun H locs hG => ?_)
      replace hG := fp_memH eM_9 hG
      refine lv_aload_n hx hb dX9_begins_78 rfl (lv_at hl 0 rfl) ?_
      refine lv_iconst (v := (nI 0)) hx hb dX9_begins_79 (by decide) ?_
      obtain ⟨M_10, eM_10, h⟩ := fp_lt_s h
      refine fp_p9_5 E hG hk.1 tw_138 dX9_begins_80 (fun H locs hG => ?_)
      replace hG := fp_memH eM_10 hG
      refine lv_aload_n hx hb dX9_begins_83 rfl (lv_at hl 0 rfl) ?_
      refine lv_iconst (v := (nI 0)) hx hb dX9_begins_84 (by decide) ?_
      obtain ⟨M_11, eM_11, h⟩ := fp_lt_s h
      refine fp_p9_6 E hG hk.1 tw_140 dX9_begins_85 (fun H locs hG => ?_)
      replace hG := fp_memH eM_11 hG
      refine lv_aload_n hx hb dX9_begins_88 rfl (lv_at hl 0 rfl) ?_
      refine lv_iconst (v := (nI 0)) hx hb dX9_begins_89 (by decide) ?_
      obtain ⟨M_12, eM_12, h⟩ := fp_lt_s h
      refine fp_p9_7 E hG hk.1 tw_143 dX9_begins_90 (fun H locs hG => ?_)
      replace hG := fp_memH eM_12 hG
      refine lv_aload_n hx hb dX9_begins_93 rfl (lv_at hl 0 rfl) ?_
      refine lv_iconst (v := (nI 0)) hx hb dX9_begins_94 (by decide) ?_
      obtain ⟨M_13, eM_13, h⟩ := fp_lt_s h
      refine fp_p9_8 E hG hk.1 tw_147 dX9_begins_95 (fun H locs hG => ?_)
      replace hG := fp_memH eM_13 hG
      exact fp_retv E hG (Option.some.inj h) dX9_begins_98
    · replace h := fp_ifF q h
      refine lv_aload_n hx hb dX9_begins_8 rfl (lv_at hl 1 rfl) ?_
      refine lv_iload_n hx hb dX9_begins_9 rfl (lv_at hl 2 rfl) ?_
      obtain ⟨r_14, c_15, h⟩ := fp_b1_s h
      refine fp_callVi (As := [.int v2]) (rest := []) E hG (c_X7_hasTable l D G B hk1 c_15) cv_X7_hasTable tw_436 tw_437 tw_438 ⟨rfl, rfl⟩ ⟨Nat.le_of_ble_eq_true rfl, Nat.le_of_ble_eq_true rfl⟩ (fp_recv E hG hk1.1.1 (fp_o7 hk1.1 _) rfl) rfl rfl (Nat.le_of_ble_eq_true rfl) hl.1 dX9_begins_10 ⟨Nat.zero_le _, Nat.zero_le _⟩ (fun H locs hG => ?_)
      refine lv_istore_n (lv' := [(3, .int r_14), (0, .ref (B + k)), (1, .ref (B + k1)), (2, .int v2)]) hx hb dX9_begins_13 rfl hl (by decide) rfl (fun ls hl => ?_)
      refine lv_aload_n hx hb dX9_begins_14 rfl (lv_at hl 1 rfl) ?_
      refine fp_g9_0 E hG hk.1 tw_121 dX9_begins_15 ?_
      refine lv_iload_n hx hb dX9_begins_18 rfl (lv_at hl 3 rfl) ?_
      refine lv_iload_n hx hb dX9_begins_19 rfl (lv_at hl 0 rfl) ?_
      refine lv_if_eq (tgt := 32) hx hb dX9_begins_20 (by decide) (fun q => ?_) (fun q => ?_)
      · replace h := fp_ifT q h
        refine lv_iconst (v := (nI 0)) hx hb dX9_begins_32 (by decide) ?_
        exact w_X9_begins_33 E hk hk1 ihK _ _ _ _ _ hG (lv_sub hl [1, 2, 3, 0] rfl) h
      · replace h := fp_ifF q h
        refine lv_aload_n hx hb dX9_begins_23 rfl (lv_at hl 2 rfl) ?_
        refine fp_g7_5 E hG hk1.1 tw_57 dX9_begins_24 ?_
        refine lv_iload_n hx hb dX9_begins_27 rfl (lv_at hl 3 rfl) ?_
        obtain ⟨g_16, h⟩ := fp_gd_s h
        refine fp_iald E hG (hk1.2.1).1 (fp_a20 (hk1.2.1)) (fp_in_s g_16) dX9_begins_28 ?_
        refine lv_goto (tgt := 33) hx hb dX9_begins_29 (by decide) ?_
        exact w_X9_begins_33 E hk hk1 ihK _ _ _ _ _ hG (lv_sub hl [1, 2, 3, 0] rfl) h
set_option maxHeartbeats 2000000 in
theorem w_X9_begins_0 {p : Program} {l : Launch} {e : Env} {s : State} {m : MethodId} {args : Array Value} {below : List Frame} {meth : Method} {c : Code} {D : va_G} {G : Nat → ClassId} {B : Nat} {k : Nat} {k1 : Nat} {M' : fp_Mem} (E : fp_EV p s m args meth c cX9_begins 4 RX9 none D G) (hk : fp_is9 k) (hk1 : fp_is7 k1) {M : fp_Mem} {H : Heap} {locs : List Loc} {ls : Array Slot} (hG : fp_H D G B s M H locs) (hl : lv_has ls 4 [(0, .ref (B + k)), (1, .ref (B + k1))]) (h : m_X9_begins M k k1 = some M') : W p l e rm_X9_begins s m args below meth c H locs 0 0 (MQ below (fp_Qv D G B M') args s 0 0 (fp_A B)) (F0 m 0 ls []) := by
  have hx := E.1
  have hb := E.2.1
  have hown := E.2.2.2.1
  unfold m_X9_begins at h
  refine lv_iconst (v := (nI 0)) hx hb dX9_begins_0 (by decide) ?_
  refine lv_istore_n (lv' := [(2, .int (nI 0)), (0, .ref (B + k)), (1, .ref (B + k1))]) hx hb dX9_begins_1 rfl hl (by decide) rfl (fun ls hl => ?_)
  exact w_X9_begins_2 E hk hk1  fp_fu _ _ hG (lv_sub hl [1, 2, 0] rfl) h
theorem c_X9_begins (l : Launch) (D : va_G) (G : Nat → ClassId) (B : Nat) {M : fp_Mem} {k : Nat} {k1 : Nat}  {M' : fp_Mem} (hk : fp_is9 k) (hk1 : fp_is7 k1) (h : m_X9_begins M k k1 = some M') : Met l yX9_begins (Cond.code yX9_begins cX9_begins 4 none :: fp_T) rm_X9_begins (va_Pc [.ref (B + k), .ref (B + k1)] (fp_GS D G B M)) (fp_Qv D G B M') 0 0 (fp_A B) :=
  fp_met (own := RX9) (by decide) rfl (Nat.le_of_ble_eq_true rfl) (fun E hG hl => w_X9_begins_0 E hk hk1 hG hl h)
abbrev rm_X9_becomes : Room := { frames := 0, cells := 0, slots := 0, locals := 0 }
theorem cv_X9_becomes : fp_CV yX9_becomes cX9_becomes 3 none 1 := ⟨tw_546, tw_4, by decide, by decide +kernel⟩
set_option maxHeartbeats 2000000 in
theorem w_X9_becomes_2 {p : Program} {l : Launch} {e : Env} {s : State} {m : MethodId} {args : Array Value} {below : List Frame} {meth : Method} {c : Code} {D : va_G} {G : Nat → ClassId} {B : Nat} {k : Nat} {k1 : Nat} {M' : fp_Mem} (E : fp_EV p s m args meth c cX9_becomes 3 RX9 none D G) (hk : fp_is9 k) (hk1 : fp_is9 k1) : ∀ (n : Nat) (v2 : Int32) (M : fp_Mem) {H : Heap} {locs : List Loc} {ls : Array Slot}, fp_H D G B s M H locs → lv_has ls 3 [(0, .ref (B + k)), (1, .ref (B + k1)), (2, .int v2)] → m_X9_becomes_2 k k1 n v2 M = some M' → W p l e rm_X9_becomes s m args below meth c H locs 0 0 (MQ below (fp_Qv D G B M') args s 0 0 (fp_A B)) (F0 m 2 ls []) := by
  have hx := E.1
  have hb := E.2.1
  have hown := E.2.2.2.1
  intro n
  induction n with
  | zero =>
    intro v2 M H locs ls hG hl h
    exact nomatch h
  | succ n ih =>
    have ihK := @ih
    intro v2 M H locs ls hG hl h
    rw [m_X9_becomes_2] at h
    refine lv_iload_n hx hb dX9_becomes_2 rfl (lv_at hl 2 rfl) ?_
    refine lv_bipush (v := (nI 9)) hx hb dX9_becomes_3 (by decide) ?_
    refine lv_icmp_ge (tgt := 38) hx hb dX9_becomes_5 (by decide) (fun q => ?_) (fun q => ?_)
    · replace h := fp_ifT q h
      refine lv_aload_n hx hb dX9_becomes_38 rfl (lv_at hl 0 rfl) ?_
      refine lv_aload_n hx hb dX9_becomes_39 rfl (lv_at hl 1 rfl) ?_
      refine fp_g9_2 E hG hk1.1 tw_128 dX9_becomes_40 ?_
      obtain ⟨M_1, eM_1, h⟩ := fp_lt_s h
      refine fp_p9_2 E hG hk.1 tw_128 dX9_becomes_43 (fun H locs hG => ?_)
      replace hG := fp_memH eM_1 hG
      refine lv_aload_n hx hb dX9_becomes_46 rfl (lv_at hl 0 rfl) ?_
      refine lv_aload_n hx hb dX9_becomes_47 rfl (lv_at hl 1 rfl) ?_
      refine fp_g9_3 E hG hk1.1 tw_132 dX9_becomes_48 ?_
      obtain ⟨M_2, eM_2, h⟩ := fp_lt_s h
      refine fp_p9_3 E hG hk.1 tw_132 dX9_becomes_51 (fun H locs hG => ?_)
      replace hG := fp_memH eM_2 hG
      refine lv_aload_n hx hb dX9_becomes_54 rfl (lv_at hl 0 rfl) ?_
      refine lv_aload_n hx hb dX9_becomes_55 rfl (lv_at hl 1 rfl) ?_
      refine fp_g9_4 E hG hk1.1 tw_134 dX9_becomes_56 ?_
      obtain ⟨M_3, eM_3, h⟩ := fp_lt_s h
      refine fp_p9_4 E hG hk.1 tw_134 dX9_becomes_59 (fun H locs hG => ?_)
      replace hG := fp_memH eM_3 hG
      refine lv_aload_n hx hb dX9_becomes_62 rfl (lv_at hl 0 rfl) ?_
      refine lv_aload_n hx hb dX9_becomes_63 rfl (lv_at hl 1 rfl) ?_
      refine fp_g9_5 E hG hk1.1 tw_138 dX9_becomes_64 ?_
      obtain ⟨M_4, eM_4, h⟩ := fp_lt_s h
      refine fp_p9_5 E hG hk.1 tw_138 dX9_becomes_67 (fun H locs hG => ?_)
      replace hG := fp_memH eM_4 hG
      refine lv_aload_n hx hb dX9_becomes_70 rfl (lv_at hl 0 rfl) ?_
      refine lv_aload_n hx hb dX9_becomes_71 rfl (lv_at hl 1 rfl) ?_
      refine fp_g9_6 E hG hk1.1 tw_140 dX9_becomes_72 ?_
      obtain ⟨M_5, eM_5, h⟩ := fp_lt_s h
      refine fp_p9_6 E hG hk.1 tw_140 dX9_becomes_75 (fun H locs hG => ?_)
      replace hG := fp_memH eM_5 hG
      refine lv_aload_n hx hb dX9_becomes_78 rfl (lv_at hl 0 rfl) ?_
      refine lv_aload_n hx hb dX9_becomes_79 rfl (lv_at hl 1 rfl) ?_
      refine fp_g9_7 E hG hk1.1 tw_143 dX9_becomes_80 ?_
      obtain ⟨M_6, eM_6, h⟩ := fp_lt_s h
      refine fp_p9_7 E hG hk.1 tw_143 dX9_becomes_83 (fun H locs hG => ?_)
      replace hG := fp_memH eM_6 hG
      refine lv_aload_n hx hb dX9_becomes_86 rfl (lv_at hl 0 rfl) ?_
      refine lv_aload_n hx hb dX9_becomes_87 rfl (lv_at hl 1 rfl) ?_
      refine fp_g9_8 E hG hk1.1 tw_147 dX9_becomes_88 ?_
      obtain ⟨M_7, eM_7, h⟩ := fp_lt_s h
      refine fp_p9_8 E hG hk.1 tw_147 dX9_becomes_91 (fun H locs hG => ?_)
      replace hG := fp_memH eM_7 hG
      exact fp_retv E hG (Option.some.inj h) dX9_becomes_94
    · replace h := fp_ifF q h
      refine lv_aload_n hx hb dX9_becomes_8 rfl (lv_at hl 0 rfl) ?_
      refine fp_g9_0 E hG hk.1 tw_121 dX9_becomes_9 ?_
      refine lv_iload_n hx hb dX9_becomes_12 rfl (lv_at hl 2 rfl) ?_
      refine lv_aload_n hx hb dX9_becomes_13 rfl (lv_at hl 1 rfl) ?_
      refine fp_g9_0 E hG hk1.1 tw_121 dX9_becomes_14 ?_
      refine lv_iload_n hx hb dX9_becomes_17 rfl (lv_at hl 2 rfl) ?_
      obtain ⟨g_8, h⟩ := fp_gd_s h
      refine fp_iald E hG (hk1.2.1).1 (fp_a20 (hk1.2.1)) (fp_in_s g_8) dX9_becomes_18 ?_
      obtain ⟨g_9, h⟩ := fp_gd_s h
      obtain ⟨M_10, eM_10, h⟩ := fp_lt_s h
      refine fp_iast E hG (hk.2.1).1 (fp_a20 (hk.2.1)) (fp_in_s g_9) dX9_becomes_19 (fun H locs hG => ?_)
      replace hG := fp_memH eM_10 hG
      refine lv_aload_n hx hb dX9_becomes_20 rfl (lv_at hl 0 rfl) ?_
      refine fp_g9_1 E hG hk.1 tw_124 dX9_becomes_21 ?_
      refine lv_iload_n hx hb dX9_becomes_24 rfl (lv_at hl 2 rfl) ?_
      refine lv_aload_n hx hb dX9_becomes_25 rfl (lv_at hl 1 rfl) ?_
      refine fp_g9_1 E hG hk1.1 tw_124 dX9_becomes_26 ?_
      refine lv_iload_n hx hb dX9_becomes_29 rfl (lv_at hl 2 rfl) ?_
      obtain ⟨g_11, h⟩ := fp_gd_s h
      refine fp_iald E hG (hk1.2.2).1 (fp_a20 (hk1.2.2)) (fp_in_s g_11) dX9_becomes_30 ?_
      obtain ⟨g_12, h⟩ := fp_gd_s h
      obtain ⟨M_13, eM_13, h⟩ := fp_lt_s h
      refine fp_iast E hG (hk.2.2).1 (fp_a20 (hk.2.2)) (fp_in_s g_12) dX9_becomes_31 (fun H locs hG => ?_)
      replace hG := fp_memH eM_13 hG
      obtain ⟨x_14, ex_14, h⟩ := fp_lt_s h
      refine lv_iinc (v := x_14) (lv' := [(2, .int x_14), (0, .ref (B + k)), (1, .ref (B + k1))]) hx hb dX9_becomes_32 hl (k := 2) rfl (by rw [ex_14]; rfl) (by decide) rfl (fun ls hl => ?_)
      refine lv_goto (tgt := 2) hx hb dX9_becomes_35 (by decide) ?_
      exact ih _ _ hG (lv_sub hl [1, 2, 0] rfl) h
set_option maxHeartbeats 2000000 in
theorem w_X9_becomes_0 {p : Program} {l : Launch} {e : Env} {s : State} {m : MethodId} {args : Array Value} {below : List Frame} {meth : Method} {c : Code} {D : va_G} {G : Nat → ClassId} {B : Nat} {k : Nat} {k1 : Nat} {M' : fp_Mem} (E : fp_EV p s m args meth c cX9_becomes 3 RX9 none D G) (hk : fp_is9 k) (hk1 : fp_is9 k1) {M : fp_Mem} {H : Heap} {locs : List Loc} {ls : Array Slot} (hG : fp_H D G B s M H locs) (hl : lv_has ls 3 [(0, .ref (B + k)), (1, .ref (B + k1))]) (h : m_X9_becomes M k k1 = some M') : W p l e rm_X9_becomes s m args below meth c H locs 0 0 (MQ below (fp_Qv D G B M') args s 0 0 (fp_A B)) (F0 m 0 ls []) := by
  have hx := E.1
  have hb := E.2.1
  have hown := E.2.2.2.1
  unfold m_X9_becomes at h
  refine lv_iconst (v := (nI 0)) hx hb dX9_becomes_0 (by decide) ?_
  refine lv_istore_n (lv' := [(2, .int (nI 0)), (0, .ref (B + k)), (1, .ref (B + k1))]) hx hb dX9_becomes_1 rfl hl (by decide) rfl (fun ls hl => ?_)
  exact w_X9_becomes_2 E hk hk1  fp_fu _ _ hG (lv_sub hl [1, 2, 0] rfl) h
theorem c_X9_becomes (l : Launch) (D : va_G) (G : Nat → ClassId) (B : Nat) {M : fp_Mem} {k : Nat} {k1 : Nat}  {M' : fp_Mem} (hk : fp_is9 k) (hk1 : fp_is9 k1) (h : m_X9_becomes M k k1 = some M') : Met l yX9_becomes (Cond.code yX9_becomes cX9_becomes 3 none :: fp_T) rm_X9_becomes (va_Pc [.ref (B + k), .ref (B + k1)] (fp_GS D G B M)) (fp_Qv D G B M') 0 0 (fp_A B) :=
  fp_met (own := RX9) (by decide) rfl (Nat.le_of_ble_eq_true rfl) (fun E hG hl => w_X9_becomes_0 E hk hk1 hG hl h)
abbrev rm_X9_free : Room := { frames := 0, cells := 0, slots := 0, locals := 0 }
theorem cv_X9_free : fp_CV yX9_free cX9_free 2 (some .int) 1 := ⟨tw_475, tw_4, by decide, by decide +kernel⟩
set_option maxHeartbeats 2000000 in
theorem w_X9_free_27 {p : Program} {l : Launch} {e : Env} {s : State} {m : MethodId} {args : Array Value} {below : List Frame} {meth : Method} {c : Code} {D : va_G} {G : Nat → ClassId} {B : Nat} {M : fp_Mem} {k : Nat} {p1 : Int32} {r : Int32} (E : fp_EV p s m args meth c cX9_free 2 RX9 (some .int) D G) (hk : fp_is9 k) (s0 : Int32) {H : Heap} {locs : List Loc} {ls : Array Slot} (hG : fp_H D G B s M H locs) (hl : lv_has ls 2 []) (h : m_X9_free_27 M k p1 s0 = some r) : W p l e rm_X9_free s m args below meth c H locs 0 0 (MQ below (fp_Qi D G B r M) args s 0 0 (fp_A B)) (F0 m 27 ls [.int s0]) := by
  have hx := E.1
  have hb := E.2.1
  have hown := E.2.2.2.1
  unfold m_X9_free_27 at h
  exact fp_ireti E hG (Option.some.inj h) rfl dX9_free_27
set_option maxHeartbeats 2000000 in
theorem w_X9_free_26 {p : Program} {l : Launch} {e : Env} {s : State} {m : MethodId} {args : Array Value} {below : List Frame} {meth : Method} {c : Code} {D : va_G} {G : Nat → ClassId} {B : Nat} {M : fp_Mem} {k : Nat} {p1 : Int32} {r : Int32} (E : fp_EV p s m args meth c cX9_free 2 RX9 (some .int) D G) (hk : fp_is9 k) {H : Heap} {locs : List Loc} {ls : Array Slot} (hG : fp_H D G B s M H locs) (hl : lv_has ls 2 []) (h : m_X9_free_26 M k p1 = some r) : W p l e rm_X9_free s m args below meth c H locs 0 0 (MQ below (fp_Qi D G B r M) args s 0 0 (fp_A B)) (F0 m 26 ls []) := by
  have hx := E.1
  have hb := E.2.1
  have hown := E.2.2.2.1
  unfold m_X9_free_26 at h
  refine lv_iconst (v := (nI 0)) hx hb dX9_free_26 (by decide) ?_
  exact w_X9_free_27 E hk  _ hG (lv_sub hl [] rfl) h
set_option maxHeartbeats 2000000 in
theorem w_X9_free_0 {p : Program} {l : Launch} {e : Env} {s : State} {m : MethodId} {args : Array Value} {below : List Frame} {meth : Method} {c : Code} {D : va_G} {G : Nat → ClassId} {B : Nat} {M : fp_Mem} {k : Nat} {p1 : Int32} {r : Int32} (E : fp_EV p s m args meth c cX9_free 2 RX9 (some .int) D G) (hk : fp_is9 k) {H : Heap} {locs : List Loc} {ls : Array Slot} (hG : fp_H D G B s M H locs) (hl : lv_has ls 2 [(0, .ref (B + k)), (1, .int p1)]) (h : m_X9_free M k p1 = some r) : W p l e rm_X9_free s m args below meth c H locs 0 0 (MQ below (fp_Qi D G B r M) args s 0 0 (fp_A B)) (F0 m 0 ls []) := by
  have hx := E.1
  have hb := E.2.1
  have hown := E.2.2.2.1
  unfold m_X9_free at h
  refine lv_iload_n hx hb dX9_free_0 rfl (lv_at hl 1 rfl) ?_
  refine lv_if_lt (tgt := 26) hx hb dX9_free_1 (by decide) (fun q => ?_) (fun q => ?_)
  · replace h := fp_ifT q h
    exact w_X9_free_26 E hk   hG (lv_sub hl [] rfl) h
  · replace h := fp_ifF q h
    refine lv_iload_n hx hb dX9_free_4 rfl (lv_at hl 1 rfl) ?_
    refine lv_bipush (v := (nI 9)) hx hb dX9_free_5 (by decide) ?_
    refine lv_icmp_ge (tgt := 26) hx hb dX9_free_7 (by decide) (fun q => ?_) (fun q => ?_)
    · replace h := fp_ifT q h
      exact w_X9_free_26 E hk   hG (lv_sub hl [] rfl) h
    · replace h := fp_ifF q h
      refine lv_aload_n hx hb dX9_free_10 rfl (lv_at hl 0 rfl) ?_
      refine fp_g9_0 E hG hk.1 tw_121 dX9_free_11 ?_
      refine lv_iload_n hx hb dX9_free_14 rfl (lv_at hl 1 rfl) ?_
      obtain ⟨g_1, h⟩ := fp_gd_s h
      refine fp_iald E hG (hk.2.1).1 (fp_a20 (hk.2.1)) (fp_in_s g_1) dX9_free_15 ?_
      refine lv_aload_n hx hb dX9_free_16 rfl (lv_at hl 0 rfl) ?_
      refine fp_g9_1 E hG hk.1 tw_124 dX9_free_17 ?_
      refine lv_iload_n hx hb dX9_free_20 rfl (lv_at hl 1 rfl) ?_
      obtain ⟨g_2, h⟩ := fp_gd_s h
      refine fp_iald E hG (hk.2.2).1 (fp_a20 (hk.2.2)) (fp_in_s g_2) dX9_free_21 ?_
      refine lv_isub hx hb dX9_free_22 ?_
      refine lv_goto (tgt := 27) hx hb dX9_free_23 (by decide) ?_
      exact w_X9_free_27 E hk  _ hG (lv_sub hl [] rfl) h
theorem c_X9_free (l : Launch) (D : va_G) (G : Nat → ClassId) (B : Nat) {M : fp_Mem} {k : Nat} {p1 : Int32} {r : Int32} (hk : fp_is9 k) (h : m_X9_free M k p1 = some r) : Met l yX9_free (Cond.code yX9_free cX9_free 2 (some .int) :: fp_T) rm_X9_free (va_Pc [.ref (B + k), .int p1] (fp_GS D G B M)) (fp_Qi D G B r M) 0 0 (fp_A B) :=
  fp_met (own := RX9) (by decide) rfl (Nat.le_of_ble_eq_true rfl) (fun E hG hl => w_X9_free_0 E hk hG hl h)
abbrev rm_X9_sitting : Room := { frames := 0, cells := 0, slots := 0, locals := 0 }
theorem cv_X9_sitting : fp_CV yX9_sitting cX9_sitting 3 (some .int) 0 := ⟨tw_467, tw_4, by decide, by decide +kernel⟩
set_option maxHeartbeats 2000000 in
theorem w_X9_sitting_4 {p : Program} {l : Launch} {e : Env} {s : State} {m : MethodId} {args : Array Value} {below : List Frame} {meth : Method} {c : Code} {D : va_G} {G : Nat → ClassId} {B : Nat} {M : fp_Mem} {k : Nat} {r : Int32} (E : fp_EV p s m args meth c cX9_sitting 3 RX9 (some .int) D G) (hk : fp_is9 k) : ∀ (n : Nat) (v1 : Int32) (v2 : Int32) {H : Heap} {locs : List Loc} {ls : Array Slot}, fp_H D G B s M H locs → lv_has ls 3 [(0, .ref (B + k)), (1, .int v1), (2, .int v2)] → m_X9_sitting_4 M k n v1 v2 = some r → W p l e rm_X9_sitting s m args below meth c H locs 0 0 (MQ below (fp_Qi D G B r M) args s 0 0 (fp_A B)) (F0 m 4 ls []) := by
  have hx := E.1
  have hb := E.2.1
  have hown := E.2.2.2.1
  intro n
  induction n with
  | zero =>
    intro v1 v2 H locs ls hG hl h
    exact nomatch h
  | succ n ih =>
    have ihK := @ih
    intro v1 v2 H locs ls hG hl h
    rw [m_X9_sitting_4] at h
    refine lv_iload_n hx hb dX9_sitting_4 rfl (lv_at hl 2 rfl) ?_
    refine lv_bipush (v := (nI 9)) hx hb dX9_sitting_5 (by decide) ?_
    refine lv_icmp_ge (tgt := 25) hx hb dX9_sitting_7 (by decide) (fun q => ?_) (fun q => ?_)
    · replace h := fp_ifT q h
      refine lv_iload_n hx hb dX9_sitting_25 rfl (lv_at hl 1 rfl) ?_
      exact fp_ireti E hG (Option.some.inj h) rfl dX9_sitting_26
    · replace h := fp_ifF q h
      refine lv_iload_n hx hb dX9_sitting_10 rfl (lv_at hl 1 rfl) ?_
      refine lv_aload_n hx hb dX9_sitting_11 rfl (lv_at hl 0 rfl) ?_
      refine fp_g9_1 E hG hk.1 tw_124 dX9_sitting_12 ?_
      refine lv_iload_n hx hb dX9_sitting_15 rfl (lv_at hl 2 rfl) ?_
      obtain ⟨g_1, h⟩ := fp_gd_s h
      refine fp_iald E hG (hk.2.2).1 (fp_a20 (hk.2.2)) (fp_in_s g_1) dX9_sitting_16 ?_
      refine lv_iadd hx hb dX9_sitting_17 ?_
      obtain ⟨x_2, ex_2, h⟩ := fp_lt_s h
      refine fp_top ex_2 ?_
      refine lv_istore_n (lv' := [(1, .int x_2), (0, .ref (B + k)), (2, .int v2)]) hx hb dX9_sitting_18 rfl hl (by decide) rfl (fun ls hl => ?_)
      obtain ⟨x_3, ex_3, h⟩ := fp_lt_s h
      refine lv_iinc (v := x_3) (lv' := [(2, .int x_3), (1, .int x_2), (0, .ref (B + k))]) hx hb dX9_sitting_19 hl (k := 2) rfl (by rw [ex_3]; rfl) (by decide) rfl (fun ls hl => ?_)
      refine lv_goto (tgt := 4) hx hb dX9_sitting_22 (by decide) ?_
      exact ih _ _ hG (lv_sub hl [2, 1, 0] rfl) h
set_option maxHeartbeats 2000000 in
theorem w_X9_sitting_0 {p : Program} {l : Launch} {e : Env} {s : State} {m : MethodId} {args : Array Value} {below : List Frame} {meth : Method} {c : Code} {D : va_G} {G : Nat → ClassId} {B : Nat} {M : fp_Mem} {k : Nat} {r : Int32} (E : fp_EV p s m args meth c cX9_sitting 3 RX9 (some .int) D G) (hk : fp_is9 k) {H : Heap} {locs : List Loc} {ls : Array Slot} (hG : fp_H D G B s M H locs) (hl : lv_has ls 3 [(0, .ref (B + k))]) (h : m_X9_sitting M k = some r) : W p l e rm_X9_sitting s m args below meth c H locs 0 0 (MQ below (fp_Qi D G B r M) args s 0 0 (fp_A B)) (F0 m 0 ls []) := by
  have hx := E.1
  have hb := E.2.1
  have hown := E.2.2.2.1
  unfold m_X9_sitting at h
  refine lv_iconst (v := (nI 0)) hx hb dX9_sitting_0 (by decide) ?_
  refine lv_istore_n (lv' := [(1, .int (nI 0)), (0, .ref (B + k))]) hx hb dX9_sitting_1 rfl hl (by decide) rfl (fun ls hl => ?_)
  refine lv_iconst (v := (nI 0)) hx hb dX9_sitting_2 (by decide) ?_
  refine lv_istore_n (lv' := [(2, .int (nI 0)), (1, .int (nI 0)), (0, .ref (B + k))]) hx hb dX9_sitting_3 rfl hl (by decide) rfl (fun ls hl => ?_)
  exact w_X9_sitting_4 E hk  fp_fu _ _ hG (lv_sub hl [2, 1, 0] rfl) h
theorem c_X9_sitting (l : Launch) (D : va_G) (G : Nat → ClassId) (B : Nat) {M : fp_Mem} {k : Nat}  {r : Int32} (hk : fp_is9 k) (h : m_X9_sitting M k = some r) : Met l yX9_sitting (Cond.code yX9_sitting cX9_sitting 3 (some .int) :: fp_T) rm_X9_sitting (va_Pc [.ref (B + k)] (fp_GS D G B M)) (fp_Qi D G B r M) 0 0 (fp_A B) :=
  fp_met (own := RX9) (by decide) rfl (Nat.le_of_ble_eq_true rfl) (fun E hG hl => w_X9_sitting_0 E hk hG hl h)
abbrev rm_X9_withFreeBelow : Room := { frames := 1, cells := 0, slots := 0, locals := 21 }
theorem cv_X9_withFreeBelow : fp_CV yX9_withFreeBelow cX9_withFreeBelow 5 (some .int) 2 := ⟨tw_471, tw_4, by decide, by decide +kernel⟩
set_option maxHeartbeats 2000000 in
theorem w_X9_withFreeBelow_28 {p : Program} {l : Launch} {e : Env} {s : State} {m : MethodId} {args : Array Value} {below : List Frame} {meth : Method} {c : Code} {D : va_G} {G : Nat → ClassId} {B : Nat} {M : fp_Mem} {k : Nat} {p1 : Int32} {p2 : Int32} {K5 : Int32 → Int32 → Option (Int32)} {r : Int32} (E : fp_EV p s m args meth c cX9_withFreeBelow 5 RX9 (some .int) D G) (hk : fp_is9 k) (HK5 : ∀ (wv3 : Int32) (wv4 : Int32) {H : Heap} {locs : List Loc} {ls : Array Slot}, fp_H D G B s M H locs → lv_has ls 5 [(0, .ref (B + k)), (1, .int p1), (2, .int p2), (3, .int wv3), (4, .int wv4)] → K5 wv3 wv4 = some r → W p l e rm_X9_withFreeBelow s m args below meth c H locs 0 0 (MQ below (fp_Qi D G B r M) args s 0 0 (fp_A B)) (F0 m 5 ls [])) (v3 : Int32) (v4 : Int32) {H : Heap} {locs : List Loc} {ls : Array Slot} (hG : fp_H D G B s M H locs) (hl : lv_has ls 5 [(0, .ref (B + k)), (1, .int p1), (2, .int p2), (3, .int v3), (4, .int v4)]) (h : m_X9_withFreeBelow_28 M k p1 p2 K5 v3 v4 = some r) : W p l e rm_X9_withFreeBelow s m args below meth c H locs 0 0 (MQ below (fp_Qi D G B r M) args s 0 0 (fp_A B)) (F0 m 28 ls []) := by
  have hx := E.1
  have hb := E.2.1
  have hown := E.2.2.2.1
  unfold m_X9_withFreeBelow_28 at h
  obtain ⟨x_1, ex_1, h⟩ := fp_lt_s h
  refine lv_iinc (v := x_1) (lv' := [(4, .int x_1), (0, .ref (B + k)), (1, .int p1), (2, .int p2), (3, .int v3)]) hx hb dX9_withFreeBelow_28 hl (k := 4) rfl (by rw [ex_1]; rfl) (by decide) rfl (fun ls hl => ?_)
  refine lv_goto (tgt := 5) hx hb dX9_withFreeBelow_31 (by decide) ?_
  exact HK5 _ _ hG (lv_sub hl [1, 2, 3, 4, 0] rfl) h
set_option maxHeartbeats 2000000 in
theorem w_X9_withFreeBelow_5 {p : Program} {l : Launch} {e : Env} {s : State} {m : MethodId} {args : Array Value} {below : List Frame} {meth : Method} {c : Code} {D : va_G} {G : Nat → ClassId} {B : Nat} {M : fp_Mem} {k : Nat} {p1 : Int32} {p2 : Int32} {r : Int32} (E : fp_EV p s m args meth c cX9_withFreeBelow 5 RX9 (some .int) D G) (hk : fp_is9 k) : ∀ (n : Nat) (v3 : Int32) (v4 : Int32) {H : Heap} {locs : List Loc} {ls : Array Slot}, fp_H D G B s M H locs → lv_has ls 5 [(0, .ref (B + k)), (1, .int p1), (2, .int p2), (3, .int v3), (4, .int v4)] → m_X9_withFreeBelow_5 M k p1 p2 n v3 v4 = some r → W p l e rm_X9_withFreeBelow s m args below meth c H locs 0 0 (MQ below (fp_Qi D G B r M) args s 0 0 (fp_A B)) (F0 m 5 ls []) := by
  have hx := E.1
  have hb := E.2.1
  have hown := E.2.2.2.1
  intro n
  induction n with
  | zero =>
    intro v3 v4 H locs ls hG hl h
    exact nomatch h
  | succ n ih =>
    have ihK := @ih
    intro v3 v4 H locs ls hG hl h
    rw [m_X9_withFreeBelow_5] at h
    refine lv_iload hx hb dX9_withFreeBelow_5 (lv_at hl 4 rfl) ?_
    refine lv_iload_n hx hb dX9_withFreeBelow_7 rfl (lv_at hl 2 rfl) ?_
    refine lv_icmp_ge (tgt := 34) hx hb dX9_withFreeBelow_8 (by decide) (fun q => ?_) (fun q => ?_)
    · replace h := fp_ifT q h
      refine lv_iload_n hx hb dX9_withFreeBelow_34 rfl (lv_at hl 3 rfl) ?_
      exact fp_ireti E hG (Option.some.inj h) rfl dX9_withFreeBelow_35
    · replace h := fp_ifF q h
      refine lv_aload_n hx hb dX9_withFreeBelow_11 rfl (lv_at hl 0 rfl) ?_
      refine lv_iload hx hb dX9_withFreeBelow_12 (lv_at hl 4 rfl) ?_
      obtain ⟨r_2, c_3, h⟩ := fp_b1_s h
      refine fp_callVi (As := [.int v4]) (rest := []) E hG (c_X9_free l D G B hk c_3) cv_X9_free tw_472 tw_473 tw_474 ⟨rfl, rfl⟩ ⟨Nat.le_of_ble_eq_true rfl, Nat.le_of_ble_eq_true rfl⟩ (fp_recv E hG hk.1.1 (fp_o9 hk.1 _) rfl) rfl rfl (Nat.le_of_ble_eq_true rfl) hl.1 dX9_withFreeBelow_14 ⟨Nat.zero_le _, Nat.zero_le _⟩ (fun H locs hG => ?_)
      refine lv_iload_n hx hb dX9_withFreeBelow_17 rfl (lv_at hl 1 rfl) ?_
      refine lv_icmp_ge (tgt := 28) hx hb dX9_withFreeBelow_18 (by decide) (fun q => ?_) (fun q => ?_)
      · replace h := fp_ifT q h
        exact w_X9_withFreeBelow_28 E hk ihK _ _ hG (lv_sub hl [0, 1, 2, 3, 4] rfl) h
      · replace h := fp_ifF q h
        refine lv_iload_n hx hb dX9_withFreeBelow_21 rfl (lv_at hl 3 rfl) ?_
        refine lv_iconst (v := (nI 1)) hx hb dX9_withFreeBelow_22 (by decide) ?_
        refine lv_iload hx hb dX9_withFreeBelow_23 (lv_at hl 4 rfl) ?_
        refine lv_ishl hx hb dX9_withFreeBelow_25 ?_
        refine lv_ior hx hb dX9_withFreeBelow_26 ?_
        obtain ⟨x_4, ex_4, h⟩ := fp_lt_s h
        refine fp_top ex_4 ?_
        refine lv_istore_n (lv' := [(3, .int x_4), (0, .ref (B + k)), (1, .int p1), (2, .int p2), (4, .int v4)]) hx hb dX9_withFreeBelow_27 rfl hl (by decide) rfl (fun ls hl => ?_)
        exact w_X9_withFreeBelow_28 E hk ihK _ _ hG (lv_sub hl [1, 2, 3, 0, 4] rfl) h
set_option maxHeartbeats 2000000 in
theorem w_X9_withFreeBelow_0 {p : Program} {l : Launch} {e : Env} {s : State} {m : MethodId} {args : Array Value} {below : List Frame} {meth : Method} {c : Code} {D : va_G} {G : Nat → ClassId} {B : Nat} {M : fp_Mem} {k : Nat} {p1 : Int32} {p2 : Int32} {r : Int32} (E : fp_EV p s m args meth c cX9_withFreeBelow 5 RX9 (some .int) D G) (hk : fp_is9 k) {H : Heap} {locs : List Loc} {ls : Array Slot} (hG : fp_H D G B s M H locs) (hl : lv_has ls 5 [(0, .ref (B + k)), (1, .int p1), (2, .int p2)]) (h : m_X9_withFreeBelow M k p1 p2 = some r) : W p l e rm_X9_withFreeBelow s m args below meth c H locs 0 0 (MQ below (fp_Qi D G B r M) args s 0 0 (fp_A B)) (F0 m 0 ls []) := by
  have hx := E.1
  have hb := E.2.1
  have hown := E.2.2.2.1
  unfold m_X9_withFreeBelow at h
  refine lv_iconst (v := (nI 0)) hx hb dX9_withFreeBelow_0 (by decide) ?_
  refine lv_istore_n (lv' := [(3, .int (nI 0)), (0, .ref (B + k)), (1, .int p1), (2, .int p2)]) hx hb dX9_withFreeBelow_1 rfl hl (by decide) rfl (fun ls hl => ?_)
  refine lv_iconst (v := (nI 0)) hx hb dX9_withFreeBelow_2 (by decide) ?_
  refine lv_istore (lv' := [(4, .int (nI 0)), (3, .int (nI 0)), (0, .ref (B + k)), (1, .int p1), (2, .int p2)]) hx hb dX9_withFreeBelow_3 hl (by decide) rfl (fun ls hl => ?_)
  exact w_X9_withFreeBelow_5 E hk  fp_fu _ _ hG (lv_sub hl [2, 3, 4, 1, 0] rfl) h
theorem c_X9_withFreeBelow (l : Launch) (D : va_G) (G : Nat → ClassId) (B : Nat) {M : fp_Mem} {k : Nat} {p1 : Int32} {p2 : Int32} {r : Int32} (hk : fp_is9 k) (h : m_X9_withFreeBelow M k p1 p2 = some r) : Met l yX9_withFreeBelow (Cond.code yX9_withFreeBelow cX9_withFreeBelow 5 (some .int) :: fp_T) rm_X9_withFreeBelow (va_Pc [.ref (B + k), .int p1, .int p2] (fp_GS D G B M)) (fp_Qi D G B r M) 0 0 (fp_A B) :=
  fp_met (own := RX9) (by decide) rfl (Nat.le_of_ble_eq_true rfl) (fun E hG hl => w_X9_withFreeBelow_0 E hk hG hl h)
abbrev rm_X9_isShut : Room := { frames := 0, cells := 0, slots := 0, locals := 0 }
theorem cv_X9_isShut : fp_CV yX9_isShut cX9_isShut 2 (some .boolean) 1 := ⟨tw_534, tw_4, by decide, by decide +kernel⟩
set_option maxHeartbeats 2000000 in
theorem w_X9_isShut_16 {p : Program} {l : Launch} {e : Env} {s : State} {m : MethodId} {args : Array Value} {below : List Frame} {meth : Method} {c : Code} {D : va_G} {G : Nat → ClassId} {B : Nat} {M : fp_Mem} {k : Nat} {p1 : Int32} {r : Int32} (E : fp_EV p s m args meth c cX9_isShut 2 RX9 (some .boolean) D G) (hk : fp_is9 k) (s0 : Int32) {H : Heap} {locs : List Loc} {ls : Array Slot} (hG : fp_H D G B s M H locs) (hl : lv_has ls 2 []) (h : m_X9_isShut_16 M k p1 s0 = some r) : W p l e rm_X9_isShut s m args below meth c H locs 0 0 (MQ below (fp_Qi D G B r M) args s 0 0 (fp_A B)) (F0 m 16 ls [.int s0]) := by
  have hx := E.1
  have hb := E.2.1
  have hown := E.2.2.2.1
  unfold m_X9_isShut_16 at h
  obtain ⟨g_1, h⟩ := fp_gd_s h
  exact fp_iretz E hG g_1 (Option.some.inj h) rfl dX9_isShut_16
set_option maxHeartbeats 2000000 in
theorem w_X9_isShut_0 {p : Program} {l : Launch} {e : Env} {s : State} {m : MethodId} {args : Array Value} {below : List Frame} {meth : Method} {c : Code} {D : va_G} {G : Nat → ClassId} {B : Nat} {M : fp_Mem} {k : Nat} {p1 : Int32} {r : Int32} (E : fp_EV p s m args meth c cX9_isShut 2 RX9 (some .boolean) D G) (hk : fp_is9 k) {H : Heap} {locs : List Loc} {ls : Array Slot} (hG : fp_H D G B s M H locs) (hl : lv_has ls 2 [(0, .ref (B + k)), (1, .int p1)]) (h : m_X9_isShut M k p1 = some r) : W p l e rm_X9_isShut s m args below meth c H locs 0 0 (MQ below (fp_Qi D G B r M) args s 0 0 (fp_A B)) (F0 m 0 ls []) := by
  have hx := E.1
  have hb := E.2.1
  have hown := E.2.2.2.1
  unfold m_X9_isShut at h
  refine lv_aload_n hx hb dX9_isShut_0 rfl (lv_at hl 0 rfl) ?_
  refine fp_g9_3 E hG hk.1 tw_132 dX9_isShut_1 ?_
  refine lv_iload_n hx hb dX9_isShut_4 rfl (lv_at hl 1 rfl) ?_
  refine lv_ishr hx hb dX9_isShut_5 ?_
  refine lv_iconst (v := (nI 1)) hx hb dX9_isShut_6 (by decide) ?_
  refine lv_iand hx hb dX9_isShut_7 ?_
  refine lv_if_eq (tgt := 15) hx hb dX9_isShut_8 (by decide) (fun q => ?_) (fun q => ?_)
  · replace h := fp_ifT q h
    refine lv_iconst (v := (nI 0)) hx hb dX9_isShut_15 (by decide) ?_
    exact w_X9_isShut_16 E hk  _ hG (lv_sub hl [] rfl) h
  · replace h := fp_ifF q h
    refine lv_iconst (v := (nI 1)) hx hb dX9_isShut_11 (by decide) ?_
    refine lv_goto (tgt := 16) hx hb dX9_isShut_12 (by decide) ?_
    exact w_X9_isShut_16 E hk  _ hG (lv_sub hl [] rfl) h
theorem c_X9_isShut (l : Launch) (D : va_G) (G : Nat → ClassId) (B : Nat) {M : fp_Mem} {k : Nat} {p1 : Int32} {r : Int32} (hk : fp_is9 k) (h : m_X9_isShut M k p1 = some r) : Met l yX9_isShut (Cond.code yX9_isShut cX9_isShut 2 (some .boolean) :: fp_T) rm_X9_isShut (va_Pc [.ref (B + k), .int p1] (fp_GS D G B M)) (fp_Qi D G B r M) 0 0 (fp_A B) :=
  fp_met (own := RX9) (by decide) rfl (Nat.le_of_ble_eq_true rfl) (fun E hG hl => w_X9_isShut_0 E hk hG hl h)
abbrev rm_X9_setShut : Room := { frames := 0, cells := 0, slots := 0, locals := 0 }
theorem cv_X9_setShut : fp_CV yX9_setShut cX9_setShut 3 none 2 := ⟨tw_592, tw_4, by decide, by decide +kernel⟩
set_option maxHeartbeats 2000000 in
theorem w_X9_setShut_26 {p : Program} {l : Launch} {e : Env} {s : State} {m : MethodId} {args : Array Value} {below : List Frame} {meth : Method} {c : Code} {D : va_G} {G : Nat → ClassId} {B : Nat} {k : Nat} {p1 : Int32} {p2 : Int32} {M' : fp_Mem} (E : fp_EV p s m args meth c cX9_setShut 3 RX9 none D G) (hk : fp_is9 k) (s1 : Int32) (M : fp_Mem) {H : Heap} {locs : List Loc} {ls : Array Slot} (hG : fp_H D G B s M H locs) (hl : lv_has ls 3 []) (h : m_X9_setShut_26 k p1 p2 s1 M = some M') : W p l e rm_X9_setShut s m args below meth c H locs 0 0 (MQ below (fp_Qv D G B M') args s 0 0 (fp_A B)) (F0 m 26 ls [.int s1, .ref (B + k)]) := by
  have hx := E.1
  have hb := E.2.1
  have hown := E.2.2.2.1
  unfold m_X9_setShut_26 at h
  obtain ⟨M_1, eM_1, h⟩ := fp_lt_s h
  refine fp_p9_3 E hG hk.1 tw_132 dX9_setShut_26 (fun H locs hG => ?_)
  replace hG := fp_memH eM_1 hG
  exact fp_retv E hG (Option.some.inj h) dX9_setShut_29
set_option maxHeartbeats 2000000 in
theorem w_X9_setShut_0 {p : Program} {l : Launch} {e : Env} {s : State} {m : MethodId} {args : Array Value} {below : List Frame} {meth : Method} {c : Code} {D : va_G} {G : Nat → ClassId} {B : Nat} {k : Nat} {p1 : Int32} {p2 : Int32} {M' : fp_Mem} (E : fp_EV p s m args meth c cX9_setShut 3 RX9 none D G) (hk : fp_is9 k) {M : fp_Mem} {H : Heap} {locs : List Loc} {ls : Array Slot} (hG : fp_H D G B s M H locs) (hl : lv_has ls 3 [(0, .ref (B + k)), (1, .int p1), (2, .int p2)]) (h : m_X9_setShut M k p1 p2 = some M') : W p l e rm_X9_setShut s m args below meth c H locs 0 0 (MQ below (fp_Qv D G B M') args s 0 0 (fp_A B)) (F0 m 0 ls []) := by
  have hx := E.1
  have hb := E.2.1
  have hown := E.2.2.2.1
  unfold m_X9_setShut at h
  refine lv_aload_n hx hb dX9_setShut_0 rfl (lv_at hl 0 rfl) ?_
  refine lv_iload_n hx hb dX9_setShut_1 rfl (lv_at hl 2 rfl) ?_
  refine lv_if_eq (tgt := 16) hx hb dX9_setShut_2 (by decide) (fun q => ?_) (fun q => ?_)
  · replace h := fp_ifT q h
    refine lv_aload_n hx hb dX9_setShut_16 rfl (lv_at hl 0 rfl) ?_
    refine fp_g9_3 E hG hk.1 tw_132 dX9_setShut_17 ?_
    refine lv_iconst (v := (nI 1)) hx hb dX9_setShut_20 (by decide) ?_
    refine lv_iload_n hx hb dX9_setShut_21 rfl (lv_at hl 1 rfl) ?_
    refine lv_ishl hx hb dX9_setShut_22 ?_
    refine lv_iconst (v := (-1 : Int32)) hx hb dX9_setShut_23 (by decide) ?_
    refine lv_ixor hx hb dX9_setShut_24 ?_
    refine lv_iand hx hb dX9_setShut_25 ?_
    exact w_X9_setShut_26 E hk  _ _ hG (lv_sub hl [] rfl) h
  · replace h := fp_ifF q h
    refine lv_aload_n hx hb dX9_setShut_5 rfl (lv_at hl 0 rfl) ?_
    refine fp_g9_3 E hG hk.1 tw_132 dX9_setShut_6 ?_
    refine lv_iconst (v := (nI 1)) hx hb dX9_setShut_9 (by decide) ?_
    refine lv_iload_n hx hb dX9_setShut_10 rfl (lv_at hl 1 rfl) ?_
    refine lv_ishl hx hb dX9_setShut_11 ?_
    refine lv_ior hx hb dX9_setShut_12 ?_
    refine lv_goto (tgt := 26) hx hb dX9_setShut_13 (by decide) ?_
    exact w_X9_setShut_26 E hk  _ _ hG (lv_sub hl [] rfl) h
theorem c_X9_setShut (l : Launch) (D : va_G) (G : Nat → ClassId) (B : Nat) {M : fp_Mem} {k : Nat} {p1 : Int32} {p2 : Int32} {M' : fp_Mem} (hk : fp_is9 k) (h : m_X9_setShut M k p1 p2 = some M') : Met l yX9_setShut (Cond.code yX9_setShut cX9_setShut 3 none :: fp_T) rm_X9_setShut (va_Pc [.ref (B + k), .int p1, .int p2] (fp_GS D G B M)) (fp_Qv D G B M') 0 0 (fp_A B) :=
  fp_met (own := RX9) (by decide) rfl (Nat.le_of_ble_eq_true rfl) (fun E hG hl => w_X9_setShut_0 E hk hG hl h)
abbrev rm_X9_chairsFor : Room := { frames := 1, cells := 0, slots := 0, locals := 21 }
theorem cv_X9_chairsFor : fp_CV yX9_chairsFor cX9_chairsFor 5 (some .int) 1 := ⟨tw_697, tw_4, by decide, by decide +kernel⟩
set_option maxHeartbeats 2000000 in
theorem w_X9_chairsFor_54 {p : Program} {l : Launch} {e : Env} {s : State} {m : MethodId} {args : Array Value} {below : List Frame} {meth : Method} {c : Code} {D : va_G} {G : Nat → ClassId} {B : Nat} {M : fp_Mem} {k : Nat} {p1 : Int32} {K4 : Int32 → Int32 → Option (Int32)} {r : Int32} (E : fp_EV p s m args meth c cX9_chairsFor 5 RX9 (some .int) D G) (hk : fp_is9 k) (HK4 : ∀ (wv2 : Int32) (wv3 : Int32) {H : Heap} {locs : List Loc} {ls : Array Slot}, fp_H D G B s M H locs → lv_has ls 5 [(0, .ref (B + k)), (1, .int p1), (2, .int wv2), (3, .int wv3)] → K4 wv2 wv3 = some r → W p l e rm_X9_chairsFor s m args below meth c H locs 0 0 (MQ below (fp_Qi D G B r M) args s 0 0 (fp_A B)) (F0 m 4 ls [])) (v2 : Int32) (v3 : Int32) {H : Heap} {locs : List Loc} {ls : Array Slot} (hG : fp_H D G B s M H locs) (hl : lv_has ls 5 [(0, .ref (B + k)), (1, .int p1), (2, .int v2), (3, .int v3)]) (h : m_X9_chairsFor_54 M k p1 K4 v2 v3 = some r) : W p l e rm_X9_chairsFor s m args below meth c H locs 0 0 (MQ below (fp_Qi D G B r M) args s 0 0 (fp_A B)) (F0 m 54 ls []) := by
  have hx := E.1
  have hb := E.2.1
  have hown := E.2.2.2.1
  unfold m_X9_chairsFor_54 at h
  obtain ⟨x_1, ex_1, h⟩ := fp_lt_s h
  refine lv_iinc (v := x_1) (lv' := [(3, .int x_1), (0, .ref (B + k)), (1, .int p1), (2, .int v2)]) hx hb dX9_chairsFor_54 hl (k := 3) rfl (by rw [ex_1]; rfl) (by decide) rfl (fun ls hl => ?_)
  refine lv_goto (tgt := 4) hx hb dX9_chairsFor_57 (by decide) ?_
  exact HK4 _ _ hG (lv_sub hl [1, 2, 3, 0] rfl) h
set_option maxHeartbeats 2000000 in
theorem w_X9_chairsFor_52 {p : Program} {l : Launch} {e : Env} {s : State} {m : MethodId} {args : Array Value} {below : List Frame} {meth : Method} {c : Code} {D : va_G} {G : Nat → ClassId} {B : Nat} {M : fp_Mem} {k : Nat} {p1 : Int32} {K4 : Int32 → Int32 → Option (Int32)} {r : Int32} (E : fp_EV p s m args meth c cX9_chairsFor 5 RX9 (some .int) D G) (hk : fp_is9 k) (HK4 : ∀ (wv2 : Int32) (wv3 : Int32) {H : Heap} {locs : List Loc} {ls : Array Slot}, fp_H D G B s M H locs → lv_has ls 5 [(0, .ref (B + k)), (1, .int p1), (2, .int wv2), (3, .int wv3)] → K4 wv2 wv3 = some r → W p l e rm_X9_chairsFor s m args below meth c H locs 0 0 (MQ below (fp_Qi D G B r M) args s 0 0 (fp_A B)) (F0 m 4 ls [])) (v3 : Int32) (s0 : Int32) (s1 : Int32) {H : Heap} {locs : List Loc} {ls : Array Slot} (hG : fp_H D G B s M H locs) (hl : lv_has ls 5 [(0, .ref (B + k)), (1, .int p1), (3, .int v3)]) (h : m_X9_chairsFor_52 M k p1 K4 v3 s0 s1 = some r) : W p l e rm_X9_chairsFor s m args below meth c H locs 0 0 (MQ below (fp_Qi D G B r M) args s 0 0 (fp_A B)) (F0 m 52 ls [.int s1, .int s0]) := by
  have hx := E.1
  have hb := E.2.1
  have hown := E.2.2.2.1
  unfold m_X9_chairsFor_52 at h
  refine lv_iadd hx hb dX9_chairsFor_52 ?_
  obtain ⟨x_2, ex_2, h⟩ := fp_lt_s h
  refine fp_top ex_2 ?_
  refine lv_istore_n (lv' := [(2, .int x_2), (0, .ref (B + k)), (1, .int p1), (3, .int v3)]) hx hb dX9_chairsFor_53 rfl hl (by decide) rfl (fun ls hl => ?_)
  exact w_X9_chairsFor_54 E hk HK4 _ _ hG (lv_sub hl [1, 2, 0, 3] rfl) h
set_option maxHeartbeats 2000000 in
theorem w_X9_chairsFor_4 {p : Program} {l : Launch} {e : Env} {s : State} {m : MethodId} {args : Array Value} {below : List Frame} {meth : Method} {c : Code} {D : va_G} {G : Nat → ClassId} {B : Nat} {M : fp_Mem} {k : Nat} {p1 : Int32} {r : Int32} (E : fp_EV p s m args meth c cX9_chairsFor 5 RX9 (some .int) D G) (hk : fp_is9 k) : ∀ (n : Nat) (v2 : Int32) (v3 : Int32) {H : Heap} {locs : List Loc} {ls : Array Slot}, fp_H D G B s M H locs → lv_has ls 5 [(0, .ref (B + k)), (1, .int p1), (2, .int v2), (3, .int v3)] → m_X9_chairsFor_4 M k p1 n v2 v3 = some r → W p l e rm_X9_chairsFor s m args below meth c H locs 0 0 (MQ below (fp_Qi D G B r M) args s 0 0 (fp_A B)) (F0 m 4 ls []) := by
  have hx := E.1
  have hb := E.2.1
  have hown := E.2.2.2.1
  intro n
  induction n with
  | zero =>
    intro v2 v3 H locs ls hG hl h
    exact nomatch h
  | succ n ih =>
    have ihK := @ih
    intro v2 v3 H locs ls hG hl h
    rw [m_X9_chairsFor_4] at h
    refine lv_iload_n hx hb dX9_chairsFor_4 rfl (lv_at hl 3 rfl) ?_
    refine lv_bipush (v := (nI 9)) hx hb dX9_chairsFor_5 (by decide) ?_
    refine lv_icmp_ge (tgt := 60) hx hb dX9_chairsFor_7 (by decide) (fun q => ?_) (fun q => ?_)
    · replace h := fp_ifT q h
      refine lv_iload_n hx hb dX9_chairsFor_60 rfl (lv_at hl 2 rfl) ?_
      exact fp_ireti E hG (Option.some.inj h) rfl dX9_chairsFor_61
    · replace h := fp_ifF q h
      refine lv_iconst (v := (nI 0)) hx hb dX9_chairsFor_10 (by decide) ?_
      refine lv_iconst (v := (nI 2)) hx hb dX9_chairsFor_11 (by decide) ?_
      refine lv_aload_n hx hb dX9_chairsFor_12 rfl (lv_at hl 0 rfl) ?_
      refine lv_iload_n hx hb dX9_chairsFor_13 rfl (lv_at hl 3 rfl) ?_
      obtain ⟨r_3, c_4, h⟩ := fp_b1_s h
      refine fp_callVi (As := [.int v3]) (rest := [.int (nI 2), .int (nI 0)]) E hG (c_X9_free l D G B hk c_4) cv_X9_free tw_472 tw_473 tw_474 ⟨rfl, rfl⟩ ⟨Nat.le_of_ble_eq_true rfl, Nat.le_of_ble_eq_true rfl⟩ (fp_recv E hG hk.1.1 (fp_o9 hk.1 _) rfl) rfl rfl (Nat.le_of_ble_eq_true rfl) hl.1 dX9_chairsFor_14 ⟨Nat.zero_le _, Nat.zero_le _⟩ (fun H locs hG => ?_)
      refine lv_isub hx hb dX9_chairsFor_17 ?_
      refine va_mmax hx hb (E.2.2.1.trans hl.1.symm) hown (fp_tabs E tw_698) (fp_tabs E tw_643) (fp_tabs E tw_15) (fp_tabs E tw_644) (Nat.le_of_ble_eq_true rfl) (Nat.le_of_ble_eq_true rfl) (Nat.zero_le _) (Nat.zero_le _) dX9_chairsFor_18 ?_
      obtain ⟨x_5, ex_5, h⟩ := fp_lt_s h
      refine fp_top ex_5 ?_
      refine lv_istore (lv' := [(4, .int x_5), (0, .ref (B + k)), (1, .int p1), (2, .int v2), (3, .int v3)]) hx hb dX9_chairsFor_21 hl (by decide) rfl (fun ls hl => ?_)
      refine lv_iload_n hx hb dX9_chairsFor_23 rfl (lv_at hl 2 rfl) ?_
      refine lv_iload_n hx hb dX9_chairsFor_24 rfl (lv_at hl 4 rfl) ?_
      refine lv_ishr hx hb dX9_chairsFor_25 ?_
      refine lv_iconst (v := (nI 1)) hx hb dX9_chairsFor_26 (by decide) ?_
      refine lv_iand hx hb dX9_chairsFor_27 ?_
      refine lv_if_eq (tgt := 54) hx hb dX9_chairsFor_28 (by decide) (fun q => ?_) (fun q => ?_)
      · replace h := fp_ifT q h
        exact w_X9_chairsFor_54 E hk ihK _ _ hG (lv_sub hl [1, 2, 3, 4] rfl) h
      · replace h := fp_ifF q h
        refine lv_iload_n hx hb dX9_chairsFor_31 rfl (lv_at hl 3 rfl) ?_
        refine lv_aload_n hx hb dX9_chairsFor_32 rfl (lv_at hl 1 rfl) ?_
        refine fp_g9_0 E hG hk.1 tw_121 dX9_chairsFor_33 ?_
        refine lv_iload_n hx hb dX9_chairsFor_36 rfl (lv_at hl 4 rfl) ?_
        obtain ⟨g_6, h⟩ := fp_gd_s h
        refine fp_iald E hG (hk.2.1).1 (fp_a20 (hk.2.1)) (fp_in_s g_6) dX9_chairsFor_37 ?_
        refine lv_iload hx hb dX9_chairsFor_38 (lv_at hl 0 rfl) ?_
        refine lv_iadd hx hb dX9_chairsFor_40 ?_
        refine lv_bipush (v := (nI 20)) hx hb dX9_chairsFor_41 (by decide) ?_
        refine lv_icmp_le (tgt := 50) hx hb dX9_chairsFor_43 (by decide) (fun q => ?_) (fun q => ?_)
        · replace h := fp_ifT q h
          refine lv_iload hx hb dX9_chairsFor_50 (lv_at hl 0 rfl) ?_
          exact w_X9_chairsFor_52 E hk ihK _ _ _ hG (lv_sub hl [1, 2, 4] rfl) h
        · replace h := fp_ifF q h
          refine lv_iconst (v := (nI 5)) hx hb dX9_chairsFor_46 (by decide) ?_
          refine lv_goto (tgt := 52) hx hb dX9_chairsFor_47 (by decide) ?_
          exact w_X9_chairsFor_52 E hk ihK _ _ _ hG (lv_sub hl [1, 2, 4] rfl) h
set_option maxHeartbeats 2000000 in
theorem w_X9_chairsFor_0 {p : Program} {l : Launch} {e : Env} {s : State} {m : MethodId} {args : Array Value} {below : List Frame} {meth : Method} {c : Code} {D : va_G} {G : Nat → ClassId} {B : Nat} {M : fp_Mem} {k : Nat} {p1 : Int32} {r : Int32} (E : fp_EV p s m args meth c cX9_chairsFor 5 RX9 (some .int) D G) (hk : fp_is9 k) {H : Heap} {locs : List Loc} {ls : Array Slot} (hG : fp_H D G B s M H locs) (hl : lv_has ls 5 [(0, .ref (B + k)), (1, .int p1)]) (h : m_X9_chairsFor M k p1 = some r) : W p l e rm_X9_chairsFor s m args below meth c H locs 0 0 (MQ below (fp_Qi D G B r M) args s 0 0 (fp_A B)) (F0 m 0 ls []) := by
  have hx := E.1
  have hb := E.2.1
  have hown := E.2.2.2.1
  unfold m_X9_chairsFor at h
  refine lv_iconst (v := (nI 0)) hx hb dX9_chairsFor_0 (by decide) ?_
  refine lv_istore_n (lv' := [(2, .int (nI 0)), (0, .ref (B + k)), (1, .int p1)]) hx hb dX9_chairsFor_1 rfl hl (by decide) rfl (fun ls hl => ?_)
  refine lv_iconst (v := (nI 0)) hx hb dX9_chairsFor_2 (by decide) ?_
  refine lv_istore_n (lv' := [(3, .int (nI 0)), (2, .int (nI 0)), (0, .ref (B + k)), (1, .int p1)]) hx hb dX9_chairsFor_3 rfl hl (by decide) rfl (fun ls hl => ?_)
  exact w_X9_chairsFor_4 E hk  fp_fu _ _ hG (lv_sub hl [2, 3, 1, 0] rfl) h
theorem c_X9_chairsFor (l : Launch) (D : va_G) (G : Nat → ClassId) (B : Nat) {M : fp_Mem} {k : Nat} {p1 : Int32} {r : Int32} (hk : fp_is9 k) (h : m_X9_chairsFor M k p1 = some r) : Met l yX9_chairsFor (Cond.code yX9_chairsFor cX9_chairsFor 5 (some .int) :: fp_T) rm_X9_chairsFor (va_Pc [.ref (B + k), .int p1] (fp_GS D G B M)) (fp_Qi D G B r M) 0 0 (fp_A B) :=
  fp_met (own := RX9) (by decide) rfl (Nat.le_of_ble_eq_true rfl) (fun E hG hl => w_X9_chairsFor_0 E hk hG hl h)

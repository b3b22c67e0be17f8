abbrev rm_X7_forget : Room := { frames := 0, cells := 0, slots := 0, locals := 0 }
theorem cv_X7_forget : fp_CV yX7_forget cX7_forget 1 none 0 := ⟨tw_368, tw_3, by decide, by decide +kernel⟩
set_option maxHeartbeats 2000000 in
theorem w_X7_forget_0 {p : Program} {l : Launch} {e : Env} {s : State} {m : MethodId} {args : Array Value} {below : List Frame} {meth : Method} {c : Code} {D : va_G} {G : Nat → ClassId} {B : Nat} {k : Nat} {M' : fp_Mem} (E : fp_EV p s m args meth c cX7_forget 1 RX7 none D G) (hk : fp_is7 k) {M : fp_Mem} {H : Heap} {locs : List Loc} {ls : Array Slot} (hG : fp_H D G B s M H locs) (hl : lv_has ls 1 [(0, .ref (B + k))]) (h : m_X7_forget M k = some M') : W p l e rm_X7_forget s m args below meth c H locs 0 0 (MQ below (fp_Qv D G B M') args s 0 0 (fp_A B)) (F0 m 0 ls []) := by
  have hx := E.1
  have hb := E.2.1
  have hown := E.2.2.2.1
  unfold m_X7_forget at h
  refine lv_aload_n hx hb dX7_forget_0 rfl (lv_at hl 0 rfl) ?_
  refine lv_iconst (v := (nI 0)) hx hb dX7_forget_1 (by decide) ?_
  obtain ⟨M_1, eM_1, h⟩ := fp_lt_s h
  refine fp_p7_0 E hG hk.1 tw_36 rfl dX7_forget_2 (fun H locs hG => ?_)
  replace hG := fp_memH eM_1 hG
  refine lv_aload_n hx hb dX7_forget_5 rfl (lv_at hl 0 rfl) ?_
  refine lv_iconst (v := (nI 0)) hx hb dX7_forget_6 (by decide) ?_
  obtain ⟨M_2, eM_2, h⟩ := fp_lt_s h
  refine fp_p7_1 E hG hk.1 tw_39 dX7_forget_7 (fun H locs hG => ?_)
  replace hG := fp_memH eM_2 hG
  refine lv_aload_n hx hb dX7_forget_10 rfl (lv_at hl 0 rfl) ?_
  refine lv_iconst (v := (nI 0)) hx hb dX7_forget_11 (by decide) ?_
  obtain ⟨M_3, eM_3, h⟩ := fp_lt_s h
  refine fp_p7_2 E hG hk.1 tw_43 dX7_forget_12 (fun H locs hG => ?_)
  replace hG := fp_memH eM_3 hG
  refine lv_aload_n hx hb dX7_forget_15 rfl (lv_at hl 0 rfl) ?_
  refine lv_iconst (v := (nI 0)) hx hb dX7_forget_16 (by decide) ?_
  obtain ⟨M_4, eM_4, h⟩ := fp_lt_s h
  refine fp_p7_3 E hG hk.1 tw_46 dX7_forget_17 (fun H locs hG => ?_)
  replace hG := fp_memH eM_4 hG
  refine lv_aload_n hx hb dX7_forget_20 rfl (lv_at hl 0 rfl) ?_
  refine lv_iconst (v := (nI 0)) hx hb dX7_forget_21 (by decide) ?_
  obtain ⟨M_5, eM_5, h⟩ := fp_lt_s h
  refine fp_p7_4 E hG hk.1 tw_52 dX7_forget_22 (fun H locs hG => ?_)
  replace hG := fp_memH eM_5 hG
  exact fp_retv E hG (Option.some.inj h) dX7_forget_25
theorem c_X7_forget (l : Launch) (D : va_G) (G : Nat → ClassId) (B : Nat) {M : fp_Mem} {k : Nat}  {M' : fp_Mem} (hk : fp_is7 k) (h : m_X7_forget M k = some M') : Met l yX7_forget (Cond.code yX7_forget cX7_forget 1 none :: fp_T) rm_X7_forget (va_Pc [.ref (B + k)] (fp_GS D G B M)) (fp_Qv D G B M') 0 0 (fp_A B) :=
  fp_met (own := RX7) (by decide) rfl (Nat.le_of_ble_eq_true rfl) (fun E hG hl => w_X7_forget_0 E hk hG hl h)
abbrev rm_X7_becomes : Room := { frames := 0, cells := 0, slots := 0, locals := 0 }
theorem cv_X7_becomes : fp_CV yX7_becomes cX7_becomes 3 none 1 := ⟨tw_431, tw_3, by decide, by decide +kernel⟩
set_option maxHeartbeats 2000000 in
theorem w_X7_becomes_80 {p : Program} {l : Launch} {e : Env} {s : State} {m : MethodId} {args : Array Value} {below : List Frame} {meth : Method} {c : Code} {D : va_G} {G : Nat → ClassId} {B : Nat} {k : Nat} {k1 : Nat} {M' : fp_Mem} (E : fp_EV p s m args meth c cX7_becomes 3 RX7 none D G) (hk : fp_is7 k) (hk1 : fp_is7 k1) : ∀ (n : Nat) (v2 : Int32) (M : fp_Mem) {H : Heap} {locs : List Loc} {ls : Array Slot}, fp_H D G B s M H locs → lv_has ls 3 [(0, .ref (B + k)), (1, .ref (B + k1)), (2, .int v2)] → m_X7_becomes_80 k k1 n v2 M = some M' → W p l e rm_X7_becomes s m args below meth c H locs 0 0 (MQ below (fp_Qv D G B M') args s 0 0 (fp_A B)) (F0 m 80 ls []) := by
  have hx := E.1
  have hb := E.2.1
  have hown := E.2.2.2.1
  intro n
  induction n with
  | zero =>
    intro v2 M H locs ls hG hl h
    exact nomatch h
  | succ n ih =>
    have ihK := @ih
    intro v2 M H locs ls hG hl h
    rw [m_X7_becomes_80] at h
    refine lv_iload_n hx hb dX7_becomes_80 rfl (lv_at hl 2 rfl) ?_
    refine lv_bipush (v := (nI 14)) hx hb dX7_becomes_81 (by decide) ?_
    refine lv_icmp_ge (tgt := 116) hx hb dX7_becomes_83 (by decide) (fun q => ?_) (fun q => ?_)
    · replace h := fp_ifT q h
      exact fp_retv E hG (Option.some.inj h) dX7_becomes_116
    · replace h := fp_ifF q h
      refine lv_aload_n hx hb dX7_becomes_86 rfl (lv_at hl 0 rfl) ?_
      refine fp_g7_7 E hG hk.1 tw_60 dX7_becomes_87 ?_
      refine lv_iload_n hx hb dX7_becomes_90 rfl (lv_at hl 2 rfl) ?_
      refine lv_aload_n hx hb dX7_becomes_91 rfl (lv_at hl 1 rfl) ?_
      refine fp_g7_7 E hG hk1.1 tw_60 dX7_becomes_92 ?_
      refine lv_iload_n hx hb dX7_becomes_95 rfl (lv_at hl 2 rfl) ?_
      obtain ⟨g_1, h⟩ := fp_gd_s h
      refine fp_iald E hG (hk1.2.2.2.1).1 (fp_a21 (hk1.2.2.2.1)) (fp_in_s g_1) dX7_becomes_96 ?_
      obtain ⟨g_2, h⟩ := fp_gd_s h
      obtain ⟨M_3, eM_3, h⟩ := fp_lt_s h
      refine fp_iast E hG (hk.2.2.2.1).1 (fp_a21 (hk.2.2.2.1)) (fp_in_s g_2) dX7_becomes_97 (fun H locs hG => ?_)
      replace hG := fp_memH eM_3 hG
      refine lv_aload_n hx hb dX7_becomes_98 rfl (lv_at hl 0 rfl) ?_
      refine fp_g7_8 E hG hk.1 tw_63 dX7_becomes_99 ?_
      refine lv_iload_n hx hb dX7_becomes_102 rfl (lv_at hl 2 rfl) ?_
      refine lv_aload_n hx hb dX7_becomes_103 rfl (lv_at hl 1 rfl) ?_
      refine fp_g7_8 E hG hk1.1 tw_63 dX7_becomes_104 ?_
      refine lv_iload_n hx hb dX7_becomes_107 rfl (lv_at hl 2 rfl) ?_
      obtain ⟨g_4, h⟩ := fp_gd_s h
      refine fp_iald E hG (hk1.2.2.2.2).1 (fp_a21 (hk1.2.2.2.2)) (fp_in_s g_4) dX7_becomes_108 ?_
      obtain ⟨g_5, h⟩ := fp_gd_s h
      obtain ⟨M_6, eM_6, h⟩ := fp_lt_s h
      refine fp_iast E hG (hk.2.2.2.2).1 (fp_a21 (hk.2.2.2.2)) (fp_in_s g_5) dX7_becomes_109 (fun H locs hG => ?_)
      replace hG := fp_memH eM_6 hG
      obtain ⟨x_7, ex_7, h⟩ := fp_lt_s h
      refine lv_iinc (v := x_7) (lv' := [(2, .int x_7), (0, .ref (B + k)), (1, .ref (B + k1))]) hx hb dX7_becomes_110 hl (k := 2) rfl (by rw [ex_7]; rfl) (by decide) rfl (fun ls hl => ?_)
      refine lv_goto (tgt := 80) hx hb dX7_becomes_113 (by decide) ?_
      exact ih _ _ hG (lv_sub hl [1, 2, 0] rfl) h
set_option maxHeartbeats 2000000 in
theorem w_X7_becomes_42 {p : Program} {l : Launch} {e : Env} {s : State} {m : MethodId} {args : Array Value} {below : List Frame} {meth : Method} {c : Code} {D : va_G} {G : Nat → ClassId} {B : Nat} {k : Nat} {k1 : Nat} {M' : fp_Mem} (E : fp_EV p s m args meth c cX7_becomes 3 RX7 none D G) (hk : fp_is7 k) (hk1 : fp_is7 k1) : ∀ (n : Nat) (v2 : Int32) (M : fp_Mem) {H : Heap} {locs : List Loc} {ls : Array Slot}, fp_H D G B s M H locs → lv_has ls 3 [(0, .ref (B + k)), (1, .ref (B + k1)), (2, .int v2)] → m_X7_becomes_42 k k1 n v2 M = some M' → W p l e rm_X7_becomes s m args below meth c H locs 0 0 (MQ below (fp_Qv D G B M') args s 0 0 (fp_A B)) (F0 m 42 ls []) := by
  have hx := E.1
  have hb := E.2.1
  have hown := E.2.2.2.1
  intro n
  induction n with
  | zero =>
    intro v2 M H locs ls hG hl h
    exact nomatch h
  | succ n ih =>
    have ihK := @ih
    intro v2 M H locs ls hG hl h
    rw [m_X7_becomes_42] at h
    refine lv_iload_n hx hb dX7_becomes_42 rfl (lv_at hl 2 rfl) ?_
    refine lv_bipush (v := (nI 9)) hx hb dX7_becomes_43 (by decide) ?_
    refine lv_icmp_ge (tgt := 78) hx hb dX7_becomes_45 (by decide) (fun q => ?_) (fun q => ?_)
    · replace h := fp_ifT q h
      refine lv_iconst (v := (nI 0)) hx hb dX7_becomes_78 (by decide) ?_
      refine lv_istore_n (lv' := [(2, .int (nI 0)), (0, .ref (B + k)), (1, .ref (B + k1))]) hx hb dX7_becomes_79 rfl hl (by decide) rfl (fun ls hl => ?_)
      exact w_X7_becomes_80 E hk hk1  fp_fu _ _ hG (lv_sub hl [1, 2, 0] rfl) h
    · replace h := fp_ifF q h
      refine lv_aload_n hx hb dX7_becomes_48 rfl (lv_at hl 0 rfl) ?_
      refine fp_g7_5 E hG hk.1 tw_56 dX7_becomes_49 ?_
      refine lv_iload_n hx hb dX7_becomes_52 rfl (lv_at hl 2 rfl) ?_
      refine lv_aload_n hx hb dX7_becomes_53 rfl (lv_at hl 1 rfl) ?_
      refine fp_g7_5 E hG hk1.1 tw_56 dX7_becomes_54 ?_
      refine lv_iload_n hx hb dX7_becomes_57 rfl (lv_at hl 2 rfl) ?_
      obtain ⟨g_8, h⟩ := fp_gd_s h
      refine fp_iald E hG (hk1.2.1).1 (fp_a20 (hk1.2.1)) (fp_in_s g_8) dX7_becomes_58 ?_
      obtain ⟨g_9, h⟩ := fp_gd_s h
      obtain ⟨M_10, eM_10, h⟩ := fp_lt_s h
      refine fp_iast E hG (hk.2.1).1 (fp_a20 (hk.2.1)) (fp_in_s g_9) dX7_becomes_59 (fun H locs hG => ?_)
      replace hG := fp_memH eM_10 hG
      refine lv_aload_n hx hb dX7_becomes_60 rfl (lv_at hl 0 rfl) ?_
      refine fp_g7_6 E hG hk.1 tw_58 dX7_becomes_61 ?_
      refine lv_iload_n hx hb dX7_becomes_64 rfl (lv_at hl 2 rfl) ?_
      refine lv_aload_n hx hb dX7_becomes_65 rfl (lv_at hl 1 rfl) ?_
      refine fp_g7_6 E hG hk1.1 tw_58 dX7_becomes_66 ?_
      refine lv_iload_n hx hb dX7_becomes_69 rfl (lv_at hl 2 rfl) ?_
      obtain ⟨g_11, h⟩ := fp_gd_s h
      refine fp_iald E hG (hk1.2.2.1).1 (fp_a20 (hk1.2.2.1)) (fp_in_s g_11) dX7_becomes_70 ?_
      obtain ⟨g_12, h⟩ := fp_gd_s h
      obtain ⟨M_13, eM_13, h⟩ := fp_lt_s h
      refine fp_iast E hG (hk.2.2.1).1 (fp_a20 (hk.2.2.1)) (fp_in_s g_12) dX7_becomes_71 (fun H locs hG => ?_)
      replace hG := fp_memH eM_13 hG
      obtain ⟨x_14, ex_14, h⟩ := fp_lt_s h
      refine lv_iinc (v := x_14) (lv' := [(2, .int x_14), (0, .ref (B + k)), (1, .ref (B + k1))]) hx hb dX7_becomes_72 hl (k := 2) rfl (by rw [ex_14]; rfl) (by decide) rfl (fun ls hl => ?_)
      refine lv_goto (tgt := 42) hx hb dX7_becomes_75 (by decide) ?_
      exact ih _ _ hG (lv_sub hl [1, 2, 0] rfl) h
set_option maxHeartbeats 2000000 in
theorem w_X7_becomes_0 {p : Program} {l : Launch} {e : Env} {s : State} {m : MethodId} {args : Array Value} {below : List Frame} {meth : Method} {c : Code} {D : va_G} {G : Nat → ClassId} {B : Nat} {k : Nat} {k1 : Nat} {M' : fp_Mem} (E : fp_EV p s m args meth c cX7_becomes 3 RX7 none D G) (hk : fp_is7 k) (hk1 : fp_is7 k1) {M : fp_Mem} {H : Heap} {locs : List Loc} {ls : Array Slot} (hG : fp_H D G B s M H locs) (hl : lv_has ls 3 [(0, .ref (B + k)), (1, .ref (B + k1))]) (h : m_X7_becomes M k k1 = some M') : W p l e rm_X7_becomes s m args below meth c H locs 0 0 (MQ below (fp_Qv D G B M') args s 0 0 (fp_A B)) (F0 m 0 ls []) := by
  have hx := E.1
  have hb := E.2.1
  have hown := E.2.2.2.1
  unfold m_X7_becomes at h
  refine lv_aload_n hx hb dX7_becomes_0 rfl (lv_at hl 0 rfl) ?_
  refine lv_aload_n hx hb dX7_becomes_1 rfl (lv_at hl 1 rfl) ?_
  refine fp_g7_0 E hG hk1.1 tw_36 dX7_becomes_2 ?_
  obtain ⟨g_15, h⟩ := fp_gd_s h
  obtain ⟨M_16, eM_16, h⟩ := fp_lt_s h
  refine fp_p7_0 E hG hk.1 tw_36 g_15 dX7_becomes_5 (fun H locs hG => ?_)
  replace hG := fp_memH eM_16 hG
  refine lv_aload_n hx hb dX7_becomes_8 rfl (lv_at hl 0 rfl) ?_
  refine lv_aload_n hx hb dX7_becomes_9 rfl (lv_at hl 1 rfl) ?_
  refine fp_g7_1 E hG hk1.1 tw_39 dX7_becomes_10 ?_
  obtain ⟨M_17, eM_17, h⟩ := fp_lt_s h
  refine fp_p7_1 E hG hk.1 tw_39 dX7_becomes_13 (fun H locs hG => ?_)
  replace hG := fp_memH eM_17 hG
  refine lv_aload_n hx hb dX7_becomes_16 rfl (lv_at hl 0 rfl) ?_
  refine lv_aload_n hx hb dX7_becomes_17 rfl (lv_at hl 1 rfl) ?_
  refine fp_g7_2 E hG hk1.1 tw_43 dX7_becomes_18 ?_
  obtain ⟨M_18, eM_18, h⟩ := fp_lt_s h
  refine fp_p7_2 E hG hk.1 tw_43 dX7_becomes_21 (fun H locs hG => ?_)
  replace hG := fp_memH eM_18 hG
  refine lv_aload_n hx hb dX7_becomes_24 rfl (lv_at hl 0 rfl) ?_
  refine lv_aload_n hx hb dX7_becomes_25 rfl (lv_at hl 1 rfl) ?_
  refine fp_g7_3 E hG hk1.1 tw_46 dX7_becomes_26 ?_
  obtain ⟨M_19, eM_19, h⟩ := fp_lt_s h
  refine fp_p7_3 E hG hk.1 tw_46 dX7_becomes_29 (fun H locs hG => ?_)
  replace hG := fp_memH eM_19 hG
  refine lv_aload_n hx hb dX7_becomes_32 rfl (lv_at hl 0 rfl) ?_
  refine lv_aload_n hx hb dX7_becomes_33 rfl (lv_at hl 1 rfl) ?_
  refine fp_g7_4 E hG hk1.1 tw_52 dX7_becomes_34 ?_
  obtain ⟨M_20, eM_20, h⟩ := fp_lt_s h
  refine fp_p7_4 E hG hk.1 tw_52 dX7_becomes_37 (fun H locs hG => ?_)
  replace hG := fp_memH eM_20 hG
  refine lv_iconst (v := (nI 0)) hx hb dX7_becomes_40 (by decide) ?_
  refine lv_istore_n (lv' := [(2, .int (nI 0)), (0, .ref (B + k)), (1, .ref (B + k1))]) hx hb dX7_becomes_41 rfl hl (by decide) rfl (fun ls hl => ?_)
  exact w_X7_becomes_42 E hk hk1  fp_fu _ _ hG (lv_sub hl [1, 2, 0] rfl) h
theorem c_X7_becomes (l : Launch) (D : va_G) (G : Nat → ClassId) (B : Nat) {M : fp_Mem} {k : Nat} {k1 : Nat}  {M' : fp_Mem} (hk : fp_is7 k) (hk1 : fp_is7 k1) (h : m_X7_becomes M k k1 = some M') : Met l yX7_becomes (Cond.code yX7_becomes cX7_becomes 3 none :: fp_T) rm_X7_becomes (va_Pc [.ref (B + k), .ref (B + k1)] (fp_GS D G B M)) (fp_Qv D G B M') 0 0 (fp_A B) :=
  fp_met (own := RX7) (by decide) rfl (Nat.le_of_ble_eq_true rfl) (fun E hG hl => w_X7_becomes_0 E hk hk1 hG hl h)
abbrev rm_X7_hasTable : Room := { frames := 0, cells := 0, slots := 0, locals := 0 }
theorem cv_X7_hasTable : fp_CV yX7_hasTable cX7_hasTable 2 (some .boolean) 1 := ⟨tw_439, tw_3, by decide, by decide +kernel⟩
set_option maxHeartbeats 2000000 in
theorem w_X7_hasTable_17 {p : Program} {l : Launch} {e : Env} {s : State} {m : MethodId} {args : Array Value} {below : List Frame} {meth : Method} {c : Code} {D : va_G} {G : Nat → ClassId} {B : Nat} {M : fp_Mem} {k : Nat} {p1 : Int32} {r : Int32} (E : fp_EV p s m args meth c cX7_hasTable 2 RX7 (some .boolean) D G) (hk : fp_is7 k) (s0 : Int32) {H : Heap} {locs : List Loc} {ls : Array Slot} (hG : fp_H D G B s M H locs) (hl : lv_has ls 2 []) (h : m_X7_hasTable_17 M k p1 s0 = some r) : W p l e rm_X7_hasTable s m args below meth c H locs 0 0 (MQ below (fp_Qi D G B r M) args s 0 0 (fp_A B)) (F0 m 17 ls [.int s0]) := by
  have hx := E.1
  have hb := E.2.1
  have hown := E.2.2.2.1
  unfold m_X7_hasTable_17 at h
  obtain ⟨g_1, h⟩ := fp_gd_s h
  exact fp_iretz E hG g_1 (Option.some.inj h) rfl dX7_hasTable_17
set_option maxHeartbeats 2000000 in
theorem w_X7_hasTable_16 {p : Program} {l : Launch} {e : Env} {s : State} {m : MethodId} {args : Array Value} {below : List Frame} {meth : Method} {c : Code} {D : va_G} {G : Nat → ClassId} {B : Nat} {M : fp_Mem} {k : Nat} {p1 : Int32} {r : Int32} (E : fp_EV p s m args meth c cX7_hasTable 2 RX7 (some .boolean) D G) (hk : fp_is7 k) {H : Heap} {locs : List Loc} {ls : Array Slot} (hG : fp_H D G B s M H locs) (hl : lv_has ls 2 []) (h : m_X7_hasTable_16 M k p1 = some r) : W p l e rm_X7_hasTable s m args below meth c H locs 0 0 (MQ below (fp_Qi D G B r M) args s 0 0 (fp_A B)) (F0 m 16 ls []) := by
  have hx := E.1
  have hb := E.2.1
  have hown := E.2.2.2.1
  unfold m_X7_hasTable_16 at h
  refine lv_iconst (v := (nI 0)) hx hb dX7_hasTable_16 (by decide) ?_
  exact w_X7_hasTable_17 E hk  _ hG (lv_sub hl [] rfl) h
set_option maxHeartbeats 2000000 in
theorem w_X7_hasTable_0 {p : Program} {l : Launch} {e : Env} {s : State} {m : MethodId} {args : Array Value} {below : List Frame} {meth : Method} {c : Code} {D : va_G} {G : Nat → ClassId} {B : Nat} {M : fp_Mem} {k : Nat} {p1 : Int32} {r : Int32} (E : fp_EV p s m args meth c cX7_hasTable 2 RX7 (some .boolean) D G) (hk : fp_is7 k) {H : Heap} {locs : List Loc} {ls : Array Slot} (hG : fp_H D G B s M H locs) (hl : lv_has ls 2 [(0, .ref (B + k)), (1, .int p1)]) (h : m_X7_hasTable M k p1 = some r) : W p l e rm_X7_hasTable s m args below meth c H locs 0 0 (MQ below (fp_Qi D G B r M) args s 0 0 (fp_A B)) (F0 m 0 ls []) := by
  have hx := E.1
  have hb := E.2.1
  have hown := E.2.2.2.1
  unfold m_X7_hasTable at h
  refine lv_iload_n hx hb dX7_hasTable_0 rfl (lv_at hl 1 rfl) ?_
  refine lv_if_lt (tgt := 16) hx hb dX7_hasTable_1 (by decide) (fun q => ?_) (fun q => ?_)
  · replace h := fp_ifT q h
    exact w_X7_hasTable_16 E hk   hG (lv_sub hl [] rfl) h
  · replace h := fp_ifF q h
    refine lv_iload_n hx hb dX7_hasTable_4 rfl (lv_at hl 1 rfl) ?_
    refine lv_aload_n hx hb dX7_hasTable_5 rfl (lv_at hl 0 rfl) ?_
    refine fp_g7_3 E hG hk.1 tw_46 dX7_hasTable_6 ?_
    refine lv_icmp_ge (tgt := 16) hx hb dX7_hasTable_9 (by decide) (fun q => ?_) (fun q => ?_)
    · replace h := fp_ifT q h
      exact w_X7_hasTable_16 E hk   hG (lv_sub hl [] rfl) h
    · replace h := fp_ifF q h
      refine lv_iconst (v := (nI 1)) hx hb dX7_hasTable_12 (by decide) ?_
      refine lv_goto (tgt := 17) hx hb dX7_hasTable_13 (by decide) ?_
      exact w_X7_hasTable_17 E hk  _ hG (lv_sub hl [] rfl) h
theorem c_X7_hasTable (l : Launch) (D : va_G) (G : Nat → ClassId) (B : Nat) {M : fp_Mem} {k : Nat} {p1 : Int32} {r : Int32} (hk : fp_is7 k) (h : m_X7_hasTable M k p1 = some r) : Met l yX7_hasTable (Cond.code yX7_hasTable cX7_hasTable 2 (some .boolean) :: fp_T) rm_X7_hasTable (va_Pc [.ref (B + k), .int p1] (fp_GS D G B M)) (fp_Qi D G B r M) 0 0 (fp_A B) :=
  fp_met (own := RX7) (by decide) rfl (Nat.le_of_ble_eq_true rfl) (fun E hG hl => w_X7_hasTable_0 E hk hG hl h)
abbrev rm_X7_hasWay : Room := { frames := 0, cells := 0, slots := 0, locals := 0 }
theorem cv_X7_hasWay : fp_CV yX7_hasWay cX7_hasWay 2 (some .boolean) 1 := ⟨tw_530, tw_3, by decide, by decide +kernel⟩
set_option maxHeartbeats 2000000 in
theorem w_X7_hasWay_17 {p : Program} {l : Launch} {e : Env} {s : State} {m : MethodId} {args : Array Value} {below : List Frame} {meth : Method} {c : Code} {D : va_G} {G : Nat → ClassId} {B : Nat} {M : fp_Mem} {k : Nat} {p1 : Int32} {r : Int32} (E : fp_EV p s m args meth c cX7_hasWay 2 RX7 (some .boolean) D G) (hk : fp_is7 k) (s0 : Int32) {H : Heap} {locs : List Loc} {ls : Array Slot} (hG : fp_H D G B s M H locs) (hl : lv_has ls 2 []) (h : m_X7_hasWay_17 M k p1 s0 = some r) : W p l e rm_X7_hasWay s m args below meth c H locs 0 0 (MQ below (fp_Qi D G B r M) args s 0 0 (fp_A B)) (F0 m 17 ls [.int s0]) := by
  have hx := E.1
  have hb := E.2.1
  have hown := E.2.2.2.1
  unfold m_X7_hasWay_17 at h
  obtain ⟨g_1, h⟩ := fp_gd_s h
  exact fp_iretz E hG g_1 (Option.some.inj h) rfl dX7_hasWay_17
set_option maxHeartbeats 2000000 in
theorem w_X7_hasWay_16 {p : Program} {l : Launch} {e : Env} {s : State} {m : MethodId} {args : Array Value} {below : List Frame} {meth : Method} {c : Code} {D : va_G} {G : Nat → ClassId} {B : Nat} {M : fp_Mem} {k : Nat} {p1 : Int32} {r : Int32} (E : fp_EV p s m args meth c cX7_hasWay 2 RX7 (some .boolean) D G) (hk : fp_is7 k) {H : Heap} {locs : List Loc} {ls : Array Slot} (hG : fp_H D G B s M H locs) (hl : lv_has ls 2 []) (h : m_X7_hasWay_16 M k p1 = some r) : W p l e rm_X7_hasWay s m args below meth c H locs 0 0 (MQ below (fp_Qi D G B r M) args s 0 0 (fp_A B)) (F0 m 16 ls []) := by
  have hx := E.1
  have hb := E.2.1
  have hown := E.2.2.2.1
  unfold m_X7_hasWay_16 at h
  refine lv_iconst (v := (nI 0)) hx hb dX7_hasWay_16 (by decide) ?_
  exact w_X7_hasWay_17 E hk  _ hG (lv_sub hl [] rfl) h
set_option maxHeartbeats 2000000 in
theorem w_X7_hasWay_0 {p : Program} {l : Launch} {e : Env} {s : State} {m : MethodId} {args : Array Value} {below : List Frame} {meth : Method} {c : Code} {D : va_G} {G : Nat → ClassId} {B : Nat} {M : fp_Mem} {k : Nat} {p1 : Int32} {r : Int32} (E : fp_EV p s m args meth c cX7_hasWay 2 RX7 (some .boolean) D G) (hk : fp_is7 k) {H : Heap} {locs : List Loc} {ls : Array Slot} (hG : fp_H D G B s M H locs) (hl : lv_has ls 2 [(0, .ref (B + k)), (1, .int p1)]) (h : m_X7_hasWay M k p1 = some r) : W p l e rm_X7_hasWay s m args below meth c H locs 0 0 (MQ below (fp_Qi D G B r M) args s 0 0 (fp_A B)) (F0 m 0 ls []) := by
  have hx := E.1
  have hb := E.2.1
  have hown := E.2.2.2.1
  unfold m_X7_hasWay at h
  refine lv_iload_n hx hb dX7_hasWay_0 rfl (lv_at hl 1 rfl) ?_
  refine lv_if_lt (tgt := 16) hx hb dX7_hasWay_1 (by decide) (fun q => ?_) (fun q => ?_)
  · replace h := fp_ifT q h
    exact w_X7_hasWay_16 E hk   hG (lv_sub hl [] rfl) h
  · replace h := fp_ifF q h
    refine lv_iload_n hx hb dX7_hasWay_4 rfl (lv_at hl 1 rfl) ?_
    refine lv_aload_n hx hb dX7_hasWay_5 rfl (lv_at hl 0 rfl) ?_
    refine fp_g7_4 E hG hk.1 tw_52 dX7_hasWay_6 ?_
    refine lv_icmp_ge (tgt := 16) hx hb dX7_hasWay_9 (by decide) (fun q => ?_) (fun q => ?_)
    · replace h := fp_ifT q h
      exact w_X7_hasWay_16 E hk   hG (lv_sub hl [] rfl) h
    · replace h := fp_ifF q h
      refine lv_iconst (v := (nI 1)) hx hb dX7_hasWay_12 (by decide) ?_
      refine lv_goto (tgt := 17) hx hb dX7_hasWay_13 (by decide) ?_
      exact w_X7_hasWay_17 E hk  _ hG (lv_sub hl [] rfl) h
theorem c_X7_hasWay (l : Launch) (D : va_G) (G : Nat → ClassId) (B : Nat) {M : fp_Mem} {k : Nat} {p1 : Int32} {r : Int32} (hk : fp_is7 k) (h : m_X7_hasWay M k p1 = some r) : Met l yX7_hasWay (Cond.code yX7_hasWay cX7_hasWay 2 (some .boolean) :: fp_T) rm_X7_hasWay (va_Pc [.ref (B + k), .int p1] (fp_GS D G B M)) (fp_Qi D G B r M) 0 0 (fp_A B) :=
  fp_met (own := RX7) (by decide) rfl (Nat.le_of_ble_eq_true rfl) (fun E hG hl => w_X7_hasWay_0 E hk hG hl h)
abbrev rm_X7_allTables : Room := { frames := 0, cells := 0, slots := 0, locals := 0 }
theorem cv_X7_allTables : fp_CV yX7_allTables cX7_allTables 1 (some .int) 0 := ⟨tw_492, tw_3, by decide, by decide +kernel⟩
set_option maxHeartbeats 2000000 in
theorem w_X7_allTables_0 {p : Program} {l : Launch} {e : Env} {s : State} {m : MethodId} {args : Array Value} {below : List Frame} {meth : Method} {c : Code} {D : va_G} {G : Nat → ClassId} {B : Nat} {M : fp_Mem} {k : Nat} {r : Int32} (E : fp_EV p s m args meth c cX7_allTables 1 RX7 (some .int) D G) (hk : fp_is7 k) {H : Heap} {locs : List Loc} {ls : Array Slot} (hG : fp_H D G B s M H locs) (hl : lv_has ls 1 [(0, .ref (B + k))]) (h : m_X7_allTables M k = some r) : W p l e rm_X7_allTables s m args below meth c H locs 0 0 (MQ below (fp_Qi D G B r M) args s 0 0 (fp_A B)) (F0 m 0 ls []) := by
  have hx := E.1
  have hb := E.2.1
  have hown := E.2.2.2.1
  unfold m_X7_allTables at h
  refine lv_iconst (v := (nI 1)) hx hb dX7_allTables_0 (by decide) ?_
  refine lv_aload_n hx hb dX7_allTables_1 rfl (lv_at hl 0 rfl) ?_
  refine fp_g7_3 E hG hk.1 tw_46 dX7_allTables_2 ?_
  refine lv_ishl hx hb dX7_allTables_5 ?_
  refine lv_iconst (v := (nI 1)) hx hb dX7_allTables_6 (by decide) ?_
  refine lv_isub hx hb dX7_allTables_7 ?_
  exact fp_ireti E hG (Option.some.inj h) rfl dX7_allTables_8
theorem c_X7_allTables (l : Launch) (D : va_G) (G : Nat → ClassId) (B : Nat) {M : fp_Mem} {k : Nat}  {r : Int32} (hk : fp_is7 k) (h : m_X7_allTables M k = some r) : Met l yX7_allTables (Cond.code yX7_allTables cX7_allTables 1 (some .int) :: fp_T) rm_X7_allTables (va_Pc [.ref (B + k)] (fp_GS D G B M)) (fp_Qi D G B r M) 0 0 (fp_A B) :=
  fp_met (own := RX7) (by decide) rfl (Nat.le_of_ble_eq_true rfl) (fun E hG hl => w_X7_allTables_0 E hk hG hl h)
abbrev rm_X7_hasAll : Room := { frames := 1, cells := 0, slots := 0, locals := 20 }
theorem cv_X7_hasAll : fp_CV yX7_hasAll cX7_hasAll 2 (some .boolean) 1 := ⟨tw_675, tw_3, by decide, by decide +kernel⟩
set_option maxHeartbeats 2000000 in
theorem w_X7_hasAll_16 {p : Program} {l : Launch} {e : Env} {s : State} {m : MethodId} {args : Array Value} {below : List Frame} {meth : Method} {c : Code} {D : va_G} {G : Nat → ClassId} {B : Nat} {M : fp_Mem} {k : Nat} {p1 : Int32} {r : Int32} (E : fp_EV p s m args meth c cX7_hasAll 2 RX7 (some .boolean) D G) (hk : fp_is7 k) (s0 : Int32) {H : Heap} {locs : List Loc} {ls : Array Slot} (hG : fp_H D G B s M H locs) (hl : lv_has ls 2 []) (h : m_X7_hasAll_16 M k p1 s0 = some r) : W p l e rm_X7_hasAll s m args below meth c H locs 0 0 (MQ below (fp_Qi D G B r M) args s 0 0 (fp_A B)) (F0 m 16 ls [.int s0]) := by
  have hx := E.1
  have hb := E.2.1
  have hown := E.2.2.2.1
  unfold m_X7_hasAll_16 at h
  obtain ⟨g_1, h⟩ := fp_gd_s h
  exact fp_iretz E hG g_1 (Option.some.inj h) rfl dX7_hasAll_16
set_option maxHeartbeats 2000000 in
theorem w_X7_hasAll_0 {p : Program} {l : Launch} {e : Env} {s : State} {m : MethodId} {args : Array Value} {below : List Frame} {meth : Method} {c : Code} {D : va_G} {G : Nat → ClassId} {B : Nat} {M : fp_Mem} {k : Nat} {p1 : Int32} {r : Int32} (E : fp_EV p s m args meth c cX7_hasAll 2 RX7 (some .boolean) D G) (hk : fp_is7 k) {H : Heap} {locs : List Loc} {ls : Array Slot} (hG : fp_H D G B s M H locs) (hl : lv_has ls 2 [(0, .ref (B + k)), (1, .int p1)]) (h : m_X7_hasAll M k p1 = some r) : W p l e rm_X7_hasAll s m args below meth c H locs 0 0 (MQ below (fp_Qi D G B r M) args s 0 0 (fp_A B)) (F0 m 0 ls []) := by
  have hx := E.1
  have hb := E.2.1
  have hown := E.2.2.2.1
  unfold m_X7_hasAll at h
  refine lv_iload_n hx hb dX7_hasAll_0 rfl (lv_at hl 1 rfl) ?_
  refine lv_aload_n hx hb dX7_hasAll_1 rfl (lv_at hl 0 rfl) ?_
  obtain ⟨r_2, c_3, h⟩ := fp_b1_s h
  refine fp_callVi (As := []) (rest := [.int p1]) E hG (c_X7_allTables l D G B hk c_3) cv_X7_allTables tw_676 tw_490 tw_491 ⟨rfl, rfl⟩ ⟨Nat.le_of_ble_eq_true rfl, Nat.le_of_ble_eq_true rfl⟩ (fp_recv E hG hk.1.1 (fp_o7 hk.1 _) rfl) rfl rfl (Nat.le_of_ble_eq_true rfl) hl.1 dX7_hasAll_2 ⟨Nat.zero_le _, Nat.zero_le _⟩ (fun H locs hG => ?_)
  refine lv_iconst (v := (-1 : Int32)) hx hb dX7_hasAll_5 (by decide) ?_
  refine lv_ixor hx hb dX7_hasAll_6 ?_
  refine lv_iand hx hb dX7_hasAll_7 ?_
  refine lv_if_ne (tgt := 15) hx hb dX7_hasAll_8 (by decide) (fun q => ?_) (fun q => ?_)
  · replace h := fp_ifF q h
    refine lv_iconst (v := (nI 0)) hx hb dX7_hasAll_15 (by decide) ?_
    exact w_X7_hasAll_16 E hk  _ hG (lv_sub hl [] rfl) h
  · replace h := fp_ifT q h
    refine lv_iconst (v := (nI 1)) hx hb dX7_hasAll_11 (by decide) ?_
    refine lv_goto (tgt := 16) hx hb dX7_hasAll_12 (by decide) ?_
    exact w_X7_hasAll_16 E hk  _ hG (lv_sub hl [] rfl) h
theorem c_X7_hasAll (l : Launch) (D : va_G) (G : Nat → ClassId) (B : Nat) {M : fp_Mem} {k : Nat} {p1 : Int32} {r : Int32} (hk : fp_is7 k) (h : m_X7_hasAll M k p1 = some r) : Met l yX7_hasAll (Cond.code yX7_hasAll cX7_hasAll 2 (some .boolean) :: fp_T) rm_X7_hasAll (va_Pc [.ref (B + k), .int p1] (fp_GS D G B M)) (fp_Qi D G B r M) 0 0 (fp_A B) :=
  fp_met (own := RX7) (by decide) rfl (Nat.le_of_ble_eq_true rfl) (fun E hG hl => w_X7_hasAll_0 E hk hG hl h)
abbrev rm_X7_joins : Room := { frames := 0, cells := 0, slots := 0, locals := 0 }
theorem cv_X7_joins : fp_CV yX7_joins cX7_joins 4 (some .boolean) 2 := ⟨tw_419, tw_3, by decide, by decide +kernel⟩
set_option maxHeartbeats 2000000 in
theorem w_X7_joins_52 {p : Program} {l : Launch} {e : Env} {s : State} {m : MethodId} {args : Array Value} {below : List Frame} {meth : Method} {c : Code} {D : va_G} {G : Nat → ClassId} {B : Nat} {M : fp_Mem} {k : Nat} {p1 : Int32} {p2 : Int32} {K2 : Int32 → Option (Int32)} {r : Int32} (E : fp_EV p s m args meth c cX7_joins 4 RX7 (some .boolean) D G) (hk : fp_is7 k) (HK2 : ∀ (wv3 : Int32) {H : Heap} {locs : List Loc} {ls : Array Slot}, fp_H D G B s M H locs → lv_has ls 4 [(0, .ref (B + k)), (1, .int p1), (2, .int p2), (3, .int wv3)] → K2 wv3 = some r → W p l e rm_X7_joins s m args below meth c H locs 0 0 (MQ below (fp_Qi D G B r M) args s 0 0 (fp_A B)) (F0 m 2 ls [])) (v3 : Int32) {H : Heap} {locs : List Loc} {ls : Array Slot} (hG : fp_H D G B s M H locs) (hl : lv_has ls 4 [(0, .ref (B + k)), (1, .int p1), (2, .int p2), (3, .int v3)]) (h : m_X7_joins_52 M k p1 p2 K2 v3 = some r) : W p l e rm_X7_joins s m args below meth c H locs 0 0 (MQ below (fp_Qi D G B r M) args s 0 0 (fp_A B)) (F0 m 52 ls []) := by
  have hx := E.1
  have hb := E.2.1
  have hown := E.2.2.2.1
  unfold m_X7_joins_52 at h
  obtain ⟨x_1, ex_1, h⟩ := fp_lt_s h
  refine lv_iinc (v := x_1) (lv' := [(3, .int x_1), (0, .ref (B + k)), (1, .int p1), (2, .int p2)]) hx hb dX7_joins_52 hl (k := 3) rfl (by rw [ex_1]; rfl) (by decide) rfl (fun ls hl => ?_)
  refine lv_goto (tgt := 2) hx hb dX7_joins_55 (by decide) ?_
  exact HK2 _ hG (lv_sub hl [1, 2, 3, 0] rfl) h
set_option maxHeartbeats 2000000 in
theorem w_X7_joins_50 {p : Program} {l : Launch} {e : Env} {s : State} {m : MethodId} {args : Array Value} {below : List Frame} {meth : Method} {c : Code} {D : va_G} {G : Nat → ClassId} {B : Nat} {M : fp_Mem} {k : Nat} {p1 : Int32} {p2 : Int32} {r : Int32} (E : fp_EV p s m args meth c cX7_joins 4 RX7 (some .boolean) D G) (hk : fp_is7 k) {H : Heap} {locs : List Loc} {ls : Array Slot} (hG : fp_H D G B s M H locs) (hl : lv_has ls 4 []) (h : m_X7_joins_50 M k p1 p2 = some r) : W p l e rm_X7_joins s m args below meth c H locs 0 0 (MQ below (fp_Qi D G B r M) args s 0 0 (fp_A B)) (F0 m 50 ls []) := by
  have hx := E.1
  have hb := E.2.1
  have hown := E.2.2.2.1
  unfold m_X7_joins_50 at h
  refine lv_iconst (v := (nI 1)) hx hb dX7_joins_50 (by decide) ?_
  exact fp_iretz E hG rfl (Option.some.inj h) rfl dX7_joins_51
set_option maxHeartbeats 2000000 in
theorem w_X7_joins_30 {p : Program} {l : Launch} {e : Env} {s : State} {m : MethodId} {args : Array Value} {below : List Frame} {meth : Method} {c : Code} {D : va_G} {G : Nat → ClassId} {B : Nat} {M : fp_Mem} {k : Nat} {p1 : Int32} {p2 : Int32} {K2 : Int32 → Option (Int32)} {r : Int32} (E : fp_EV p s m args meth c cX7_joins 4 RX7 (some .boolean) D G) (hk : fp_is7 k) (HK2 : ∀ (wv3 : Int32) {H : Heap} {locs : List Loc} {ls : Array Slot}, fp_H D G B s M H locs → lv_has ls 4 [(0, .ref (B + k)), (1, .int p1), (2, .int p2), (3, .int wv3)] → K2 wv3 = some r → W p l e rm_X7_joins s m args below meth c H locs 0 0 (MQ below (fp_Qi D G B r M) args s 0 0 (fp_A B)) (F0 m 2 ls [])) (v3 : Int32) {H : Heap} {locs : List Loc} {ls : Array Slot} (hG : fp_H D G B s M H locs) (hl : lv_has ls 4 [(0, .ref (B + k)), (1, .int p1), (2, .int p2), (3, .int v3)]) (h : m_X7_joins_30 M k p1 p2 K2 v3 = some r) : W p l e rm_X7_joins s m args below meth c H locs 0 0 (MQ below (fp_Qi D G B r M) args s 0 0 (fp_A B)) (F0 m 30 ls []) := by
  have hx := E.1
  have hb := E.2.1
  have hown := E.2.2.2.1
  unfold m_X7_joins_30 at h
  refine lv_aload_n hx hb dX7_joins_30 rfl (lv_at hl 0 rfl) ?_
  refine fp_g7_7 E hG hk.1 tw_60 dX7_joins_31 ?_
  refine lv_iload_n hx hb dX7_joins_34 rfl (lv_at hl 3 rfl) ?_
  obtain ⟨g_2, h⟩ := fp_gd_s h
  refine fp_iald E hG (hk.2.2.2.1).1 (fp_a21 (hk.2.2.2.1)) (fp_in_s g_2) dX7_joins_35 ?_
  refine lv_iload_n hx hb dX7_joins_36 rfl (lv_at hl 2 rfl) ?_
  refine lv_icmp_ne (tgt := 52) hx hb dX7_joins_37 (by decide) (fun q => ?_) (fun q => ?_)
  · replace h := fp_ifF q h
    exact w_X7_joins_52 E hk HK2 _ hG (lv_sub hl [0, 1, 2, 3] rfl) h
  · replace h := fp_ifT q h
    refine lv_aload_n hx hb dX7_joins_40 rfl (lv_at hl 0 rfl) ?_
    refine fp_g7_8 E hG hk.1 tw_63 dX7_joins_41 ?_
    refine lv_iload_n hx hb dX7_joins_44 rfl (lv_at hl 3 rfl) ?_
    obtain ⟨g_3, h⟩ := fp_gd_s h
    refine fp_iald E hG (hk.2.2.2.2).1 (fp_a21 (hk.2.2.2.2)) (fp_in_s g_3) dX7_joins_45 ?_
    refine lv_iload_n hx hb dX7_joins_46 rfl (lv_at hl 1 rfl) ?_
    refine lv_icmp_ne (tgt := 52) hx hb dX7_joins_47 (by decide) (fun q => ?_) (fun q => ?_)
    · replace h := fp_ifF q h
      exact w_X7_joins_52 E hk HK2 _ hG (lv_sub hl [0, 1, 2, 3] rfl) h
    · replace h := fp_ifT q h
      exact w_X7_joins_50 E hk   hG (lv_sub hl [] rfl) h
set_option maxHeartbeats 2000000 in
theorem w_X7_joins_2 {p : Program} {l : Launch} {e : Env} {s : State} {m : MethodId} {args : Array Value} {below : List Frame} {meth : Method} {c : Code} {D : va_G} {G : Nat → ClassId} {B : Nat} {M : fp_Mem} {k : Nat} {p1 : Int32} {p2 : Int32} {r : Int32} (E : fp_EV p s m args meth c cX7_joins 4 RX7 (some .boolean) D G) (hk : fp_is7 k) : ∀ (n : Nat) (v3 : Int32) {H : Heap} {locs : List Loc} {ls : Array Slot}, fp_H D G B s M H locs → lv_has ls 4 [(0, .ref (B + k)), (1, .int p1), (2, .int p2), (3, .int v3)] → m_X7_joins_2 M k p1 p2 n v3 = some r → W p l e rm_X7_joins s m args below meth c H locs 0 0 (MQ below (fp_Qi D G B r M) args s 0 0 (fp_A B)) (F0 m 2 ls []) := by
  have hx := E.1
  have hb := E.2.1
  have hown := E.2.2.2.1
  intro n
  induction n with
  | zero =>
    intro v3 H locs ls hG hl h
    exact nomatch h
  | succ n ih =>
    have ihK := @ih
    intro v3 H locs ls hG hl h
    rw [m_X7_joins_2] at h
    refine lv_iload_n hx hb dX7_joins_2 rfl (lv_at hl 3 rfl) ?_
    refine lv_aload_n hx hb dX7_joins_3 rfl (lv_at hl 0 rfl) ?_
    refine fp_g7_4 E hG hk.1 tw_52 dX7_joins_4 ?_
    refine lv_icmp_ge (tgt := 58) hx hb dX7_joins_7 (by decide) (fun q => ?_) (fun q => ?_)
    · replace h := fp_ifT q h
      refine lv_iconst (v := (nI 0)) hx hb dX7_joins_58 (by decide) ?_
      exact fp_iretz E hG rfl (Option.some.inj h) rfl dX7_joins_59
    · replace h := fp_ifF q h
      refine lv_aload_n hx hb dX7_joins_10 rfl (lv_at hl 0 rfl) ?_
      refine fp_g7_7 E hG hk.1 tw_60 dX7_joins_11 ?_
      refine lv_iload_n hx hb dX7_joins_14 rfl (lv_at hl 3 rfl) ?_
      obtain ⟨g_4, h⟩ := fp_gd_s h
      refine fp_iald E hG (hk.2.2.2.1).1 (fp_a21 (hk.2.2.2.1)) (fp_in_s g_4) dX7_joins_15 ?_
      refine lv_iload_n hx hb dX7_joins_16 rfl (lv_at hl 1 rfl) ?_
      refine lv_icmp_ne (tgt := 30) hx hb dX7_joins_17 (by decide) (fun q => ?_) (fun q => ?_)
      · replace h := fp_ifF q h
        exact w_X7_joins_30 E hk ihK _ hG (lv_sub hl [0, 1, 2, 3] rfl) h
      · replace h := fp_ifT q h
        refine lv_aload_n hx hb dX7_joins_20 rfl (lv_at hl 0 rfl) ?_
        refine fp_g7_8 E hG hk.1 tw_63 dX7_joins_21 ?_
        refine lv_iload_n hx hb dX7_joins_24 rfl (lv_at hl 3 rfl) ?_
        obtain ⟨g_5, h⟩ := fp_gd_s h
        refine fp_iald E hG (hk.2.2.2.2).1 (fp_a21 (hk.2.2.2.2)) (fp_in_s g_5) dX7_joins_25 ?_
        refine lv_iload_n hx hb dX7_joins_26 rfl (lv_at hl 2 rfl) ?_
        refine lv_icmp_eq (tgt := 50) hx hb dX7_joins_27 (by decide) (fun q => ?_) (fun q => ?_)
        · replace h := fp_ifT q h
          exact w_X7_joins_50 E hk   hG (lv_sub hl [] rfl) h
        · replace h := fp_ifF q h
          exact w_X7_joins_30 E hk ihK _ hG (lv_sub hl [0, 1, 2, 3] rfl) h
set_option maxHeartbeats 2000000 in
theorem w_X7_joins_0 {p : Program} {l : Launch} {e : Env} {s : State} {m : MethodId} {args : Array Value} {below : List Frame} {meth : Method} {c : Code} {D : va_G} {G : Nat → ClassId} {B : Nat} {M : fp_Mem} {k : Nat} {p1 : Int32} {p2 : Int32} {r : Int32} (E : fp_EV p s m args meth c cX7_joins 4 RX7 (some .boolean) D G) (hk : fp_is7 k) {H : Heap} {locs : List Loc} {ls : Array Slot} (hG : fp_H D G B s M H locs) (hl : lv_has ls 4 [(0, .ref (B + k)), (1, .int p1), (2, .int p2)]) (h : m_X7_joins M k p1 p2 = some r) : W p l e rm_X7_joins s m args below meth c H locs 0 0 (MQ below (fp_Qi D G B r M) args s 0 0 (fp_A B)) (F0 m 0 ls []) := by
  have hx := E.1
  have hb := E.2.1
  have hown := E.2.2.2.1
  unfold m_X7_joins at h
  refine lv_iconst (v := (nI 0)) hx hb dX7_joins_0 (by decide) ?_
  refine lv_istore_n (lv' := [(3, .int (nI 0)), (0, .ref (B + k)), (1, .int p1), (2, .int p2)]) hx hb dX7_joins_1 rfl hl (by decide) rfl (fun ls hl => ?_)
  exact w_X7_joins_2 E hk  fp_fu _ hG (lv_sub hl [1, 2, 3, 0] rfl) h
theorem c_X7_joins (l : Launch) (D : va_G) (G : Nat → ClassId) (B : Nat) {M : fp_Mem} {k : Nat} {p1 : Int32} {p2 : Int32} {r : Int32} (hk : fp_is7 k) (h : m_X7_joins M k p1 p2 = some r) : Met l yX7_joins (Cond.code yX7_joins cX7_joins 4 (some .boolean) :: fp_T) rm_X7_joins (va_Pc [.ref (B + k), .int p1, .int p2] (fp_GS D G B M)) (fp_Qi D G B r M) 0 0 (fp_A B) :=
  fp_met (own := RX7) (by decide) rfl (Nat.le_of_ble_eq_true rfl) (fun E hG hl => w_X7_joins_0 E hk hG hl h)
abbrev rm_X7_addTable : Room := { frames := 0, cells := 0, slots := 0, locals := 0 }
theorem cv_X7_addTable : fp_CV yX7_addTable cX7_addTable 3 none 2 := ⟨tw_411, tw_3, by decide, by decide +kernel⟩
set_option maxHeartbeats 2000000 in
theorem w_X7_addTable_39 {p : Program} {l : Launch} {e : Env} {s : State} {m : MethodId} {args : Array Value} {below : List Frame} {meth : Method} {c : Code} {D : va_G} {G : Nat → ClassId} {B : Nat} {k : Nat} {p1 : Int32} {p2 : Int32} {M' : fp_Mem} (E : fp_EV p s m args meth c cX7_addTable 3 RX7 none D G) (hk : fp_is7 k) (M : fp_Mem) {H : Heap} {locs : List Loc} {ls : Array Slot} (hG : fp_H D G B s M H locs) (hl : lv_has ls 3 []) (h : m_X7_addTable_39 k p1 p2 M = some M') : W p l e rm_X7_addTable s m args below meth c H locs 0 0 (MQ below (fp_Qv D G B M') args s 0 0 (fp_A B)) (F0 m 39 ls []) := by
  have hx := E.1
  have hb := E.2.1
  have hown := E.2.2.2.1
  unfold m_X7_addTable_39 at h
  exact fp_retv E hG (Option.some.inj h) dX7_addTable_39
set_option maxHeartbeats 2000000 in
theorem w_X7_addTable_0 {p : Program} {l : Launch} {e : Env} {s : State} {m : MethodId} {args : Array Value} {below : List Frame} {meth : Method} {c : Code} {D : va_G} {G : Nat → ClassId} {B : Nat} {k : Nat} {p1 : Int32} {p2 : Int32} {M' : fp_Mem} (E : fp_EV p s m args meth c cX7_addTable 3 RX7 none D G) (hk : fp_is7 k) {M : fp_Mem} {H : Heap} {locs : List Loc} {ls : Array Slot} (hG : fp_H D G B s M H locs) (hl : lv_has ls 3 [(0, .ref (B + k)), (1, .int p1), (2, .int p2)]) (h : m_X7_addTable M k p1 p2 = some M') : W p l e rm_X7_addTable s m args below meth c H locs 0 0 (MQ below (fp_Qv D G B M') args s 0 0 (fp_A B)) (F0 m 0 ls []) := by
  have hx := E.1
  have hb := E.2.1
  have hown := E.2.2.2.1
  unfold m_X7_addTable at h
  refine lv_aload_n hx hb dX7_addTable_0 rfl (lv_at hl 0 rfl) ?_
  refine fp_g7_3 E hG hk.1 tw_46 dX7_addTable_1 ?_
  refine lv_bipush (v := (nI 9)) hx hb dX7_addTable_4 (by decide) ?_
  refine lv_icmp_ge (tgt := 39) hx hb dX7_addTable_6 (by decide) (fun q => ?_) (fun q => ?_)
  · replace h := fp_ifT q h
    exact w_X7_addTable_39 E hk  _ hG (lv_sub hl [] rfl) h
  · replace h := fp_ifF q h
    refine lv_aload_n hx hb dX7_addTable_9 rfl (lv_at hl 0 rfl) ?_
    refine fp_g7_5 E hG hk.1 tw_56 dX7_addTable_10 ?_
    refine lv_aload_n hx hb dX7_addTable_13 rfl (lv_at hl 0 rfl) ?_
    refine fp_g7_3 E hG hk.1 tw_46 dX7_addTable_14 ?_
    refine lv_iload_n hx hb dX7_addTable_17 rfl (lv_at hl 1 rfl) ?_
    obtain ⟨g_1, h⟩ := fp_gd_s h
    obtain ⟨M_2, eM_2, h⟩ := fp_lt_s h
    refine fp_iast E hG (hk.2.1).1 (fp_a20 (hk.2.1)) (fp_in_s g_1) dX7_addTable_18 (fun H locs hG => ?_)
    replace hG := fp_memH eM_2 hG
    refine lv_aload_n hx hb dX7_addTable_19 rfl (lv_at hl 0 rfl) ?_
    refine fp_g7_6 E hG hk.1 tw_58 dX7_addTable_20 ?_
    refine lv_aload_n hx hb dX7_addTable_23 rfl (lv_at hl 0 rfl) ?_
    refine fp_g7_3 E hG hk.1 tw_46 dX7_addTable_24 ?_
    refine lv_iload_n hx hb dX7_addTable_27 rfl (lv_at hl 2 rfl) ?_
    obtain ⟨g_3, h⟩ := fp_gd_s h
    obtain ⟨M_4, eM_4, h⟩ := fp_lt_s h
    refine fp_iast E hG (hk.2.2.1).1 (fp_a20 (hk.2.2.1)) (fp_in_s g_3) dX7_addTable_28 (fun H locs hG => ?_)
    replace hG := fp_memH eM_4 hG
    refine lv_aload_n hx hb dX7_addTable_29 rfl (lv_at hl 0 rfl) ?_
    refine lv_dup hx hb dX7_addTable_30 rfl ?_
    refine fp_g7_3 E hG hk.1 tw_46 dX7_addTable_31 ?_
    refine lv_iconst (v := (nI 1)) hx hb dX7_addTable_34 (by decide) ?_
    refine lv_iadd hx hb dX7_addTable_35 ?_
    obtain ⟨M_5, eM_5, h⟩ := fp_lt_s h
    refine fp_p7_3 E hG hk.1 tw_46 dX7_addTable_36 (fun H locs hG => ?_)
    replace hG := fp_memH eM_5 hG
    exact w_X7_addTable_39 E hk  _ hG (lv_sub hl [] rfl) h
theorem c_X7_addTable (l : Launch) (D : va_G) (G : Nat → ClassId) (B : Nat) {M : fp_Mem} {k : Nat} {p1 : Int32} {p2 : Int32} {M' : fp_Mem} (hk : fp_is7 k) (h : m_X7_addTable M k p1 p2 = some M') : Met l yX7_addTable (Cond.code yX7_addTable cX7_addTable 3 none :: fp_T) rm_X7_addTable (va_Pc [.ref (B + k), .int p1, .int p2] (fp_GS D G B M)) (fp_Qv D G B M') 0 0 (fp_A B) :=
  fp_met (own := RX7) (by decide) rfl (Nat.le_of_ble_eq_true rfl) (fun E hG hl => w_X7_addTable_0 E hk hG hl h)
abbrev rm_X7_addWay : Room := { frames := 0, cells := 0, slots := 0, locals := 0 }
theorem cv_X7_addWay : fp_CV yX7_addWay cX7_addWay 3 none 2 := ⟨tw_423, tw_3, by decide, by decide +kernel⟩
set_option maxHeartbeats 2000000 in
theorem w_X7_addWay_39 {p : Program} {l : Launch} {e : Env} {s : State} {m : MethodId} {args : Array Value} {below : List Frame} {meth : Method} {c : Code} {D : va_G} {G : Nat → ClassId} {B : Nat} {k : Nat} {p1 : Int32} {p2 : Int32} {M' : fp_Mem} (E : fp_EV p s m args meth c cX7_addWay 3 RX7 none D G) (hk : fp_is7 k) (M : fp_Mem) {H : Heap} {locs : List Loc} {ls : Array Slot} (hG : fp_H D G B s M H locs) (hl : lv_has ls 3 []) (h : m_X7_addWay_39 k p1 p2 M = some M') : W p l e rm_X7_addWay s m args below meth c H locs 0 0 (MQ below (fp_Qv D G B M') args s 0 0 (fp_A B)) (F0 m 39 ls []) := by
  have hx := E.1
  have hb := E.2.1
  have hown := E.2.2.2.1
  unfold m_X7_addWay_39 at h
  exact fp_retv E hG (Option.some.inj h) dX7_addWay_39
set_option maxHeartbeats 2000000 in
theorem w_X7_addWay_0 {p : Program} {l : Launch} {e : Env} {s : State} {m : MethodId} {args : Array Value} {below : List Frame} {meth : Method} {c : Code} {D : va_G} {G : Nat → ClassId} {B : Nat} {k : Nat} {p1 : Int32} {p2 : Int32} {M' : fp_Mem} (E : fp_EV p s m args meth c cX7_addWay 3 RX7 none D G) (hk : fp_is7 k) {M : fp_Mem} {H : Heap} {locs : List Loc} {ls : Array Slot} (hG : fp_H D G B s M H locs) (hl : lv_has ls 3 [(0, .ref (B + k)), (1, .int p1), (2, .int p2)]) (h : m_X7_addWay M k p1 p2 = some M') : W p l e rm_X7_addWay s m args below meth c H locs 0 0 (MQ below (fp_Qv D G B M') args s 0 0 (fp_A B)) (F0 m 0 ls []) := by
  have hx := E.1
  have hb := E.2.1
  have hown := E.2.2.2.1
  unfold m_X7_addWay at h
  refine lv_aload_n hx hb dX7_addWay_0 rfl (lv_at hl 0 rfl) ?_
  refine fp_g7_4 E hG hk.1 tw_52 dX7_addWay_1 ?_
  refine lv_bipush (v := (nI 14)) hx hb dX7_addWay_4 (by decide) ?_
  refine lv_icmp_ge (tgt := 39) hx hb dX7_addWay_6 (by decide) (fun q => ?_) (fun q => ?_)
  · replace h := fp_ifT q h
    exact w_X7_addWay_39 E hk  _ hG (lv_sub hl [] rfl) h
  · replace h := fp_ifF q h
    refine lv_aload_n hx hb dX7_addWay_9 rfl (lv_at hl 0 rfl) ?_
    refine fp_g7_7 E hG hk.1 tw_60 dX7_addWay_10 ?_
    refine lv_aload_n hx hb dX7_addWay_13 rfl (lv_at hl 0 rfl) ?_
    refine fp_g7_4 E hG hk.1 tw_52 dX7_addWay_14 ?_
    refine lv_iload_n hx hb dX7_addWay_17 rfl (lv_at hl 1 rfl) ?_
    obtain ⟨g_1, h⟩ := fp_gd_s h
    obtain ⟨M_2, eM_2, h⟩ := fp_lt_s h
    refine fp_iast E hG (hk.2.2.2.1).1 (fp_a21 (hk.2.2.2.1)) (fp_in_s g_1) dX7_addWay_18 (fun H locs hG => ?_)
    replace hG := fp_memH eM_2 hG
    refine lv_aload_n hx hb dX7_addWay_19 rfl (lv_at hl 0 rfl) ?_
    refine fp_g7_8 E hG hk.1 tw_63 dX7_addWay_20 ?_
    refine lv_aload_n hx hb dX7_addWay_23 rfl (lv_at hl 0 rfl) ?_
    refine fp_g7_4 E hG hk.1 tw_52 dX7_addWay_24 ?_
    refine lv_iload_n hx hb dX7_addWay_27 rfl (lv_at hl 2 rfl) ?_
    obtain ⟨g_3, h⟩ := fp_gd_s h
    obtain ⟨M_4, eM_4, h⟩ := fp_lt_s h
    refine fp_iast E hG (hk.2.2.2.2).1 (fp_a21 (hk.2.2.2.2)) (fp_in_s g_3) dX7_addWay_28 (fun H locs hG => ?_)
    replace hG := fp_memH eM_4 hG
    refine lv_aload_n hx hb dX7_addWay_29 rfl (lv_at hl 0 rfl) ?_
    refine lv_dup hx hb dX7_addWay_30 rfl ?_
    refine fp_g7_4 E hG hk.1 tw_52 dX7_addWay_31 ?_
    refine lv_iconst (v := (nI 1)) hx hb dX7_addWay_34 (by decide) ?_
    refine lv_iadd hx hb dX7_addWay_35 ?_
    obtain ⟨M_5, eM_5, h⟩ := fp_lt_s h
    refine fp_p7_4 E hG hk.1 tw_52 dX7_addWay_36 (fun H locs hG => ?_)
    replace hG := fp_memH eM_5 hG
    exact w_X7_addWay_39 E hk  _ hG (lv_sub hl [] rfl) h
theorem c_X7_addWay (l : Launch) (D : va_G) (G : Nat → ClassId) (B : Nat) {M : fp_Mem} {k : Nat} {p1 : Int32} {p2 : Int32} {M' : fp_Mem} (hk : fp_is7 k) (h : m_X7_addWay M k p1 p2 = some M') : Met l yX7_addWay (Cond.code yX7_addWay cX7_addWay 3 none :: fp_T) rm_X7_addWay (va_Pc [.ref (B + k), .int p1, .int p2] (fp_GS D G B M)) (fp_Qv D G B M') 0 0 (fp_A B) :=
  fp_met (own := RX7) (by decide) rfl (Nat.le_of_ble_eq_true rfl) (fun E hG hl => w_X7_addWay_0 E hk hG hl h)

abbrev rm_J6_numberOfTrailingZeros_0f7a4 : Room := { frames := 0, cells := 0, slots := 0, locals := 0 }
theorem cv_J6_numberOfTrailingZeros_0f7a4 : fp_CV yJ6_numberOfTrailingZeros_0f7a4 cJ6_numberOfTrailingZeros_0f7a4 2 (some .int) 1 := ⟨tw_500, tw_14, by decide, by decide +kernel⟩
set_option maxHeartbeats 2000000 in
theorem w_J6_numberOfTrailingZeros_0f7a4_74 {p : Program} {l : Launch} {e : Env} {s : State} {m : MethodId} {args : Array Value} {below : List Frame} {meth : Method} {c : Code} {D : va_G} {G : Nat → ClassId} {B : Nat} {M : fp_Mem} {r : Int32} (E : fp_EV p s m args meth c cJ6_numberOfTrailingZeros_0f7a4 2 RJ6 (some .int) D G) (v0 : Int32) (v1 : Int32) {H : Heap} {locs : List Loc} {ls : Array Slot} (hG : fp_H D G B s M H locs) (hl : lv_has ls 2 [(0, .int v0), (1, .int v1)]) (h : m_J6_numberOfTrailingZeros_0f7a4_74 M v0 v1 = some r) : W p l e rm_J6_numberOfTrailingZeros_0f7a4 s m args below meth c H locs 0 0 (MQ below (fp_Qi D G B r M) args s 0 0 (fp_A B)) (F0 m 74 ls []) := by
  have hx := E.1
  have hb := E.2.1
  have hown := E.2.2.2.1
  unfold m_J6_numberOfTrailingZeros_0f7a4_74 at h
  refine lv_iload_n hx hb dJ6_numberOfTrailingZeros_0f7a4_74 rfl (lv_at hl 1 rfl) ?_
  refine lv_iload_n hx hb dJ6_numberOfTrailingZeros_0f7a4_75 rfl (lv_at hl 0 rfl) ?_
  refine lv_iconst (v := (nI 1)) hx hb dJ6_numberOfTrailingZeros_0f7a4_76 (by decide) ?_
  refine lv_iushr hx hb dJ6_numberOfTrailingZeros_0f7a4_77 rfl ?_
  refine lv_iadd hx hb dJ6_numberOfTrailingZeros_0f7a4_78 ?_
  exact fp_ireti E hG (Option.some.inj h) rfl dJ6_numberOfTrailingZeros_0f7a4_79
set_option maxHeartbeats 2000000 in
theorem w_J6_numberOfTrailingZeros_0f7a4_62 {p : Program} {l : Launch} {e : Env} {s : State} {m : MethodId} {args : Array Value} {below : List Frame} {meth : Method} {c : Code} {D : va_G} {G : Nat → ClassId} {B : Nat} {M : fp_Mem} {r : Int32} (E : fp_EV p s m args meth c cJ6_numberOfTrailingZeros_0f7a4 2 RJ6 (some .int) D G) (v0 : Int32) (v1 : Int32) {H : Heap} {locs : List Loc} {ls : Array Slot} (hG : fp_H D G B s M H locs) (hl : lv_has ls 2 [(0, .int v0), (1, .int v1)]) (h : m_J6_numberOfTrailingZeros_0f7a4_62 M v0 v1 = some r) : W p l e rm_J6_numberOfTrailingZeros_0f7a4 s m args below meth c H locs 0 0 (MQ below (fp_Qi D G B r M) args s 0 0 (fp_A B)) (F0 m 62 ls []) := by
  have hx := E.1
  have hb := E.2.1
  have hown := E.2.2.2.1
  unfold m_J6_numberOfTrailingZeros_0f7a4_62 at h
  refine lv_iload_n hx hb dJ6_numberOfTrailingZeros_0f7a4_62 rfl (lv_at hl 0 rfl) ?_
  refine lv_iconst (v := (nI 4)) hx hb dJ6_numberOfTrailingZeros_0f7a4_63 (by decide) ?_
  refine lv_icmp_le (tgt := 74) hx hb dJ6_numberOfTrailingZeros_0f7a4_64 (by decide) (fun q => ?_) (fun q => ?_)
  · replace h := fp_ifT q h
    exact w_J6_numberOfTrailingZeros_0f7a4_74 E   _ _ hG (lv_sub hl [0, 1] rfl) h
  · replace h := fp_ifF q h
    obtain ⟨x_1, ex_1, h⟩ := fp_lt_s h
    refine lv_iinc (v := x_1) (lv' := [(1, .int x_1), (0, .int v0)]) hx hb dJ6_numberOfTrailingZeros_0f7a4_67 hl (k := 1) rfl (by rw [ex_1]; rfl) (by decide) rfl (fun ls hl => ?_)
    refine lv_iload_n hx hb dJ6_numberOfTrailingZeros_0f7a4_70 rfl (lv_at hl 1 rfl) ?_
    refine lv_iconst (v := (nI 2)) hx hb dJ6_numberOfTrailingZeros_0f7a4_71 (by decide) ?_
    refine lv_iushr hx hb dJ6_numberOfTrailingZeros_0f7a4_72 rfl ?_
    obtain ⟨x_2, ex_2, h⟩ := fp_lt_s h
    refine fp_top ex_2 ?_
    refine lv_istore_n (lv' := [(0, .int x_2), (1, .int x_1)]) hx hb dJ6_numberOfTrailingZeros_0f7a4_73 rfl hl (by decide) rfl (fun ls hl => ?_)
    exact w_J6_numberOfTrailingZeros_0f7a4_74 E   _ _ hG (lv_sub hl [0, 1] rfl) h
set_option maxHeartbeats 2000000 in
theorem w_J6_numberOfTrailingZeros_0f7a4_49 {p : Program} {l : Launch} {e : Env} {s : State} {m : MethodId} {args : Array Value} {below : List Frame} {meth : Method} {c : Code} {D : va_G} {G : Nat → ClassId} {B : Nat} {M : fp_Mem} {r : Int32} (E : fp_EV p s m args meth c cJ6_numberOfTrailingZeros_0f7a4 2 RJ6 (some .int) D G) (v0 : Int32) (v1 : Int32) {H : Heap} {locs : List Loc} {ls : Array Slot} (hG : fp_H D G B s M H locs) (hl : lv_has ls 2 [(0, .int v0), (1, .int v1)]) (h : m_J6_numberOfTrailingZeros_0f7a4_49 M v0 v1 = some r) : W p l e rm_J6_numberOfTrailingZeros_0f7a4 s m args below meth c H locs 0 0 (MQ below (fp_Qi D G B r M) args s 0 0 (fp_A B)) (F0 m 49 ls []) := by
  have hx := E.1
  have hb := E.2.1
  have hown := E.2.2.2.1
  unfold m_J6_numberOfTrailingZeros_0f7a4_49 at h
  refine lv_iload_n hx hb dJ6_numberOfTrailingZeros_0f7a4_49 rfl (lv_at hl 0 rfl) ?_
  refine lv_bipush (v := (nI 16)) hx hb dJ6_numberOfTrailingZeros_0f7a4_50 (by decide) ?_
  refine lv_icmp_le (tgt := 62) hx hb dJ6_numberOfTrailingZeros_0f7a4_52 (by decide) (fun q => ?_) (fun q => ?_)
  · replace h := fp_ifT q h
    exact w_J6_numberOfTrailingZeros_0f7a4_62 E   _ _ hG (lv_sub hl [0, 1] rfl) h
  · replace h := fp_ifF q h
    obtain ⟨x_3, ex_3, h⟩ := fp_lt_s h
    refine lv_iinc (v := x_3) (lv' := [(1, .int x_3), (0, .int v0)]) hx hb dJ6_numberOfTrailingZeros_0f7a4_55 hl (k := 1) rfl (by rw [ex_3]; rfl) (by decide) rfl (fun ls hl => ?_)
    refine lv_iload_n hx hb dJ6_numberOfTrailingZeros_0f7a4_58 rfl (lv_at hl 1 rfl) ?_
    refine lv_iconst (v := (nI 4)) hx hb dJ6_numberOfTrailingZeros_0f7a4_59 (by decide) ?_
    refine lv_iushr hx hb dJ6_numberOfTrailingZeros_0f7a4_60 rfl ?_
    obtain ⟨x_4, ex_4, h⟩ := fp_lt_s h
    refine fp_top ex_4 ?_
    refine lv_istore_n (lv' := [(0, .int x_4), (1, .int x_3)]) hx hb dJ6_numberOfTrailingZeros_0f7a4_61 rfl hl (by decide) rfl (fun ls hl => ?_)
    exact w_J6_numberOfTrailingZeros_0f7a4_62 E   _ _ hG (lv_sub hl [0, 1] rfl) h
set_option maxHeartbeats 2000000 in
theorem w_J6_numberOfTrailingZeros_0f7a4_34 {p : Program} {l : Launch} {e : Env} {s : State} {m : MethodId} {args : Array Value} {below : List Frame} {meth : Method} {c : Code} {D : va_G} {G : Nat → ClassId} {B : Nat} {M : fp_Mem} {r : Int32} (E : fp_EV p s m args meth c cJ6_numberOfTrailingZeros_0f7a4 2 RJ6 (some .int) D G) (v0 : Int32) (v1 : Int32) {H : Heap} {locs : List Loc} {ls : Array Slot} (hG : fp_H D G B s M H locs) (hl : lv_has ls 2 [(0, .int v0), (1, .int v1)]) (h : m_J6_numberOfTrailingZeros_0f7a4_34 M v0 v1 = some r) : W p l e rm_J6_numberOfTrailingZeros_0f7a4 s m args below meth c H locs 0 0 (MQ below (fp_Qi D G B r M) args s 0 0 (fp_A B)) (F0 m 34 ls []) := by
  have hx := E.1
  have hb := E.2.1
  have hown := E.2.2.2.1
  unfold m_J6_numberOfTrailingZeros_0f7a4_34 at h
  refine lv_iload_n hx hb dJ6_numberOfTrailingZeros_0f7a4_34 rfl (lv_at hl 0 rfl) ?_
  refine lv_sipush (v := (nI 256)) hx hb dJ6_numberOfTrailingZeros_0f7a4_35 (by decide) ?_
  refine lv_icmp_le (tgt := 49) hx hb dJ6_numberOfTrailingZeros_0f7a4_38 (by decide) (fun q => ?_) (fun q => ?_)
  · replace h := fp_ifT q h
    exact w_J6_numberOfTrailingZeros_0f7a4_49 E   _ _ hG (lv_sub hl [0, 1] rfl) h
  · replace h := fp_ifF q h
    obtain ⟨x_5, ex_5, h⟩ := fp_lt_s h
    refine lv_iinc (v := x_5) (lv' := [(1, .int x_5), (0, .int v0)]) hx hb dJ6_numberOfTrailingZeros_0f7a4_41 hl (k := 1) rfl (by rw [ex_5]; rfl) (by decide) rfl (fun ls hl => ?_)
    refine lv_iload_n hx hb dJ6_numberOfTrailingZeros_0f7a4_44 rfl (lv_at hl 1 rfl) ?_
    refine lv_bipush (v := (nI 8)) hx hb dJ6_numberOfTrailingZeros_0f7a4_45 (by decide) ?_
    refine lv_iushr hx hb dJ6_numberOfTrailingZeros_0f7a4_47 rfl ?_
    obtain ⟨x_6, ex_6, h⟩ := fp_lt_s h
    refine fp_top ex_6 ?_
    refine lv_istore_n (lv' := [(0, .int x_6), (1, .int x_5)]) hx hb dJ6_numberOfTrailingZeros_0f7a4_48 rfl hl (by decide) rfl (fun ls hl => ?_)
    exact w_J6_numberOfTrailingZeros_0f7a4_49 E   _ _ hG (lv_sub hl [0, 1] rfl) h
set_option maxHeartbeats 2000000 in
theorem w_J6_numberOfTrailingZeros_0f7a4_0 {p : Program} {l : Launch} {e : Env} {s : State} {m : MethodId} {args : Array Value} {below : List Frame} {meth : Method} {c : Code} {D : va_G} {G : Nat → ClassId} {B : Nat} {M : fp_Mem} {r : Int32} (E : fp_EV p s m args meth c cJ6_numberOfTrailingZeros_0f7a4 2 RJ6 (some .int) D G) {p0 : Int32} {H : Heap} {locs : List Loc} {ls : Array Slot} (hG : fp_H D G B s M H locs) (hl : lv_has ls 2 [(0, .int p0)]) (h : m_J6_numberOfTrailingZeros_0f7a4 M p0 = some r) : W p l e rm_J6_numberOfTrailingZeros_0f7a4 s m args below meth c H locs 0 0 (MQ below (fp_Qi D G B r M) args s 0 0 (fp_A B)) (F0 m 0 ls []) := by
  have hx := E.1
  have hb := E.2.1
  have hown := E.2.2.2.1
  unfold m_J6_numberOfTrailingZeros_0f7a4 at h
  refine lv_iload_n hx hb dJ6_numberOfTrailingZeros_0f7a4_0 rfl (lv_at hl 0 rfl) ?_
  refine lv_iconst (v := (-1 : Int32)) hx hb dJ6_numberOfTrailingZeros_0f7a4_1 (by decide) ?_
  refine lv_ixor hx hb dJ6_numberOfTrailingZeros_0f7a4_2 ?_
  refine lv_iload_n hx hb dJ6_numberOfTrailingZeros_0f7a4_3 rfl (lv_at hl 0 rfl) ?_
  refine lv_iconst (v := (nI 1)) hx hb dJ6_numberOfTrailingZeros_0f7a4_4 (by decide) ?_
  refine lv_isub hx hb dJ6_numberOfTrailingZeros_0f7a4_5 ?_
  refine lv_iand hx hb dJ6_numberOfTrailingZeros_0f7a4_6 ?_
  obtain ⟨x_7, ex_7, h⟩ := fp_lt_s h
  refine fp_top ex_7 ?_
  refine lv_istore_n (lv' := [(0, .int x_7)]) hx hb dJ6_numberOfTrailingZeros_0f7a4_7 rfl hl (by decide) rfl (fun ls hl => ?_)
  refine lv_iload_n hx hb dJ6_numberOfTrailingZeros_0f7a4_8 rfl (lv_at hl 0 rfl) ?_
  refine lv_if_gt (tgt := 17) hx hb dJ6_numberOfTrailingZeros_0f7a4_9 (by decide) (fun q => ?_) (fun q => ?_)
  · replace h := fp_ifT q h
    refine lv_iconst (v := (nI 1)) hx hb dJ6_numberOfTrailingZeros_0f7a4_17 (by decide) ?_
    refine lv_istore_n (lv' := [(1, .int (nI 1)), (0, .int x_7)]) hx hb dJ6_numberOfTrailingZeros_0f7a4_18 rfl hl (by decide) rfl (fun ls hl => ?_)
    refine lv_iload_n hx hb dJ6_numberOfTrailingZeros_0f7a4_19 rfl (lv_at hl 1 rfl) ?_
    refine lv_ldcw (v := (nI 65536)) hx hb hown (fp_tabs E tw_501) dJ6_numberOfTrailingZeros_0f7a4_20 ?_
    refine lv_icmp_le (tgt := 34) hx hb dJ6_numberOfTrailingZeros_0f7a4_23 (by decide) (fun q => ?_) (fun q => ?_)
    · replace h := fp_ifT q h
      exact w_J6_numberOfTrailingZeros_0f7a4_34 E   _ _ hG (lv_sub hl [1, 0] rfl) h
    · replace h := fp_ifF q h
      obtain ⟨x_8, ex_8, h⟩ := fp_lt_s h
      refine lv_iinc (v := x_8) (lv' := [(1, .int x_8), (0, .int x_7)]) hx hb dJ6_numberOfTrailingZeros_0f7a4_26 hl (k := 0) rfl (by rw [ex_8]; rfl) (by decide) rfl (fun ls hl => ?_)
      refine lv_iload_n hx hb dJ6_numberOfTrailingZeros_0f7a4_29 rfl (lv_at hl 1 rfl) ?_
      refine lv_bipush (v := (nI 16)) hx hb dJ6_numberOfTrailingZeros_0f7a4_30 (by decide) ?_
      refine lv_iushr hx hb dJ6_numberOfTrailingZeros_0f7a4_32 rfl ?_
      obtain ⟨x_9, ex_9, h⟩ := fp_lt_s h
      refine fp_top ex_9 ?_
      refine lv_istore_n (lv' := [(0, .int x_9), (1, .int x_8)]) hx hb dJ6_numberOfTrailingZeros_0f7a4_33 rfl hl (by decide) rfl (fun ls hl => ?_)
      exact w_J6_numberOfTrailingZeros_0f7a4_34 E   _ _ hG (lv_sub hl [0, 1] rfl) h
  · replace h := fp_ifF q h
    refine lv_iload_n hx hb dJ6_numberOfTrailingZeros_0f7a4_12 rfl (lv_at hl 0 rfl) ?_
    refine lv_bipush (v := (nI 32)) hx hb dJ6_numberOfTrailingZeros_0f7a4_13 (by decide) ?_
    refine lv_iand hx hb dJ6_numberOfTrailingZeros_0f7a4_15 ?_
    exact fp_ireti E hG (Option.some.inj h) rfl dJ6_numberOfTrailingZeros_0f7a4_16
theorem c_J6_numberOfTrailingZeros_0f7a4 (l : Launch) (D : va_G) (G : Nat → ClassId) (B : Nat) {M : fp_Mem}  {p0 : Int32} {r : Int32}  (h : m_J6_numberOfTrailingZeros_0f7a4 M p0 = some r) : Met l yJ6_numberOfTrailingZeros_0f7a4 (Cond.code yJ6_numberOfTrailingZeros_0f7a4 cJ6_numberOfTrailingZeros_0f7a4 2 (some .int) :: fp_T) rm_J6_numberOfTrailingZeros_0f7a4 (va_Pc [.int p0] (fp_GS D G B M)) (fp_Qi D G B r M) 0 0 (fp_A B) :=
  fp_met (own := RJ6) (by decide) rfl (Nat.le_of_ble_eq_true rfl) (fun E hG hl => w_J6_numberOfTrailingZeros_0f7a4_0 E  hG hl h)
abbrev rm_J6_bitCount_0f7a4 : Room := { frames := 0, cells := 0, slots := 0, locals := 0 }
theorem cv_J6_bitCount_0f7a4 : fp_CV yJ6_bitCount_0f7a4 cJ6_bitCount_0f7a4 1 (some .int) 1 := ⟨tw_686, tw_14, by decide, by decide +kernel⟩
set_option maxHeartbeats 2000000 in
theorem w_J6_bitCount_0f7a4_0 {p : Program} {l : Launch} {e : Env} {s : State} {m : MethodId} {args : Array Value} {below : List Frame} {meth : Method} {c : Code} {D : va_G} {G : Nat → ClassId} {B : Nat} {M : fp_Mem} {r : Int32} (E : fp_EV p s m args meth c cJ6_bitCount_0f7a4 1 RJ6 (some .int) D G) {p0 : Int32} {H : Heap} {locs : List Loc} {ls : Array Slot} (hG : fp_H D G B s M H locs) (hl : lv_has ls 1 [(0, .int p0)]) (h : m_J6_bitCount_0f7a4 M p0 = some r) : W p l e rm_J6_bitCount_0f7a4 s m args below meth c H locs 0 0 (MQ below (fp_Qi D G B r M) args s 0 0 (fp_A B)) (F0 m 0 ls []) := by
  have hx := E.1
  have hb := E.2.1
  have hown := E.2.2.2.1
  unfold m_J6_bitCount_0f7a4 at h
  refine lv_iload_n hx hb dJ6_bitCount_0f7a4_0 rfl (lv_at hl 0 rfl) ?_
  refine lv_iload_n hx hb dJ6_bitCount_0f7a4_1 rfl (lv_at hl 0 rfl) ?_
  refine lv_iconst (v := (nI 1)) hx hb dJ6_bitCount_0f7a4_2 (by decide) ?_
  refine lv_iushr hx hb dJ6_bitCount_0f7a4_3 rfl ?_
  refine lv_ldcw (v := (nI 1431655765)) hx hb hown (fp_tabs E tw_687) dJ6_bitCount_0f7a4_4 ?_
  refine lv_iand hx hb dJ6_bitCount_0f7a4_7 ?_
  refine lv_isub hx hb dJ6_bitCount_0f7a4_8 ?_
  obtain ⟨x_1, ex_1, h⟩ := fp_lt_s h
  refine fp_top ex_1 ?_
  refine lv_istore_n (lv' := [(0, .int x_1)]) hx hb dJ6_bitCount_0f7a4_9 rfl hl (by decide) rfl (fun ls hl => ?_)
  refine lv_iload_n hx hb dJ6_bitCount_0f7a4_10 rfl (lv_at hl 0 rfl) ?_
  refine lv_ldcw (v := (nI 858993459)) hx hb hown (fp_tabs E tw_688) dJ6_bitCount_0f7a4_11 ?_
  refine lv_iand hx hb dJ6_bitCount_0f7a4_14 ?_
  refine lv_iload_n hx hb dJ6_bitCount_0f7a4_15 rfl (lv_at hl 0 rfl) ?_
  refine lv_iconst (v := (nI 2)) hx hb dJ6_bitCount_0f7a4_16 (by decide) ?_
  refine lv_iushr hx hb dJ6_bitCount_0f7a4_17 rfl ?_
  refine lv_ldcw (v := (nI 858993459)) hx hb hown (fp_tabs E tw_688) dJ6_bitCount_0f7a4_18 ?_
  refine lv_iand hx hb dJ6_bitCount_0f7a4_21 ?_
  refine lv_iadd hx hb dJ6_bitCount_0f7a4_22 ?_
  obtain ⟨x_2, ex_2, h⟩ := fp_lt_s h
  refine fp_top ex_2 ?_
  refine lv_istore_n (lv' := [(0, .int x_2)]) hx hb dJ6_bitCount_0f7a4_23 rfl hl (by decide) rfl (fun ls hl => ?_)
  refine lv_iload_n hx hb dJ6_bitCount_0f7a4_24 rfl (lv_at hl 0 rfl) ?_
  refine lv_iload_n hx hb dJ6_bitCount_0f7a4_25 rfl (lv_at hl 0 rfl) ?_
  refine lv_iconst (v := (nI 4)) hx hb dJ6_bitCount_0f7a4_26 (by decide) ?_
  refine lv_iushr hx hb dJ6_bitCount_0f7a4_27 rfl ?_
  refine lv_iadd hx hb dJ6_bitCount_0f7a4_28 ?_
  refine lv_ldcw (v := (nI 252645135)) hx hb hown (fp_tabs E tw_689) dJ6_bitCount_0f7a4_29 ?_
  refine lv_iand hx hb dJ6_bitCount_0f7a4_32 ?_
  obtain ⟨x_3, ex_3, h⟩ := fp_lt_s h
  refine fp_top ex_3 ?_
  refine lv_istore_n (lv' := [(0, .int x_3)]) hx hb dJ6_bitCount_0f7a4_33 rfl hl (by decide) rfl (fun ls hl => ?_)
  refine lv_iload_n hx hb dJ6_bitCount_0f7a4_34 rfl (lv_at hl 0 rfl) ?_
  refine lv_iload_n hx hb dJ6_bitCount_0f7a4_35 rfl (lv_at hl 0 rfl) ?_
  refine lv_bipush (v := (nI 8)) hx hb dJ6_bitCount_0f7a4_36 (by decide) ?_
  refine lv_iushr hx hb dJ6_bitCount_0f7a4_38 rfl ?_
  refine lv_iadd hx hb dJ6_bitCount_0f7a4_39 ?_
  obtain ⟨x_4, ex_4, h⟩ := fp_lt_s h
  refine fp_top ex_4 ?_
  refine lv_istore_n (lv' := [(0, .int x_4)]) hx hb dJ6_bitCount_0f7a4_40 rfl hl (by decide) rfl (fun ls hl => ?_)
  refine lv_iload_n hx hb dJ6_bitCount_0f7a4_41 rfl (lv_at hl 0 rfl) ?_
  refine lv_iload_n hx hb dJ6_bitCount_0f7a4_42 rfl (lv_at hl 0 rfl) ?_
  refine lv_bipush (v := (nI 16)) hx hb dJ6_bitCount_0f7a4_43 (by decide) ?_
  refine lv_iushr hx hb dJ6_bitCount_0f7a4_45 rfl ?_
  refine lv_iadd hx hb dJ6_bitCount_0f7a4_46 ?_
  obtain ⟨x_5, ex_5, h⟩ := fp_lt_s h
  refine fp_top ex_5 ?_
  refine lv_istore_n (lv' := [(0, .int x_5)]) hx hb dJ6_bitCount_0f7a4_47 rfl hl (by decide) rfl (fun ls hl => ?_)
  refine lv_iload_n hx hb dJ6_bitCount_0f7a4_48 rfl (lv_at hl 0 rfl) ?_
  refine lv_bipush (v := (nI 63)) hx hb dJ6_bitCount_0f7a4_49 (by decide) ?_
  refine lv_iand hx hb dJ6_bitCount_0f7a4_51 ?_
  exact fp_ireti E hG (Option.some.inj h) rfl dJ6_bitCount_0f7a4_52
theorem c_J6_bitCount_0f7a4 (l : Launch) (D : va_G) (G : Nat → ClassId) (B : Nat) {M : fp_Mem}  {p0 : Int32} {r : Int32}  (h : m_J6_bitCount_0f7a4 M p0 = some r) : Met l yJ6_bitCount_0f7a4 (Cond.code yJ6_bitCount_0f7a4 cJ6_bitCount_0f7a4 1 (some .int) :: fp_T) rm_J6_bitCount_0f7a4 (va_Pc [.int p0] (fp_GS D G B M)) (fp_Qi D G B r M) 0 0 (fp_A B) :=
  fp_met (own := RJ6) (by decide) rfl (Nat.le_of_ble_eq_true rfl) (fun E hG hl => w_J6_bitCount_0f7a4_0 E  hG hl h)

abbrev rm_X4_forget : Room := { frames := 0, cells := 0, slots := 0, locals := 0 }
theorem cv_X4_forget : fp_CV yX4_forget cX4_forget 1 none 0 := ⟨tw_451, tw_11, by decide, by decide +kernel⟩
set_option maxHeartbeats 2000000 in
theorem w_X4_forget_0 {p : Program} {l : Launch} {e : Env} {s : State} {m : MethodId} {args : Array Value} {below : List Frame} {meth : Method} {c : Code} {D : va_G} {G : Nat → ClassId} {B : Nat} {M' : fp_Mem} (E : fp_EV p s m args meth c cX4_forget 1 RX4 none D G) {M : fp_Mem} {H : Heap} {locs : List Loc} {ls : Array Slot} (hG : fp_H D G B s M H locs) (hl : lv_has ls 1 [(0, .ref (B + 48))]) (h : m_X4_forget M = some M') : W p l e rm_X4_forget s m args below meth c H locs 0 0 (MQ below (fp_Qv D G B M') args s 0 0 (fp_A B)) (F0 m 0 ls []) := by
  have hx := E.1
  have hb := E.2.1
  have hown := E.2.2.2.1
  unfold m_X4_forget at h
  refine lv_aload_n hx hb dX4_forget_0 rfl (lv_at hl 0 rfl) ?_
  refine lv_iconst (v := (nI 0)) hx hb dX4_forget_1 (by decide) ?_
  obtain ⟨M_1, eM_1, h⟩ := fp_lt_s h
  refine fp_p4_0 E hG tw_283 dX4_forget_2 (fun H locs hG => ?_)
  replace hG := fp_memH eM_1 hG
  exact fp_retv E hG (Option.some.inj h) dX4_forget_5
theorem c_X4_forget (l : Launch) (D : va_G) (G : Nat → ClassId) (B : Nat) {M : fp_Mem}   {M' : fp_Mem}  (h : m_X4_forget M = some M') : Met l yX4_forget (Cond.code yX4_forget cX4_forget 1 none :: fp_T) rm_X4_forget (va_Pc [.ref (B + 48)] (fp_GS D G B M)) (fp_Qv D G B M') 0 0 (fp_A B) :=
  fp_met (own := RX4) (by decide) rfl (Nat.le_of_ble_eq_true rfl) (fun E hG hl => w_X4_forget_0 E  hG hl h)
abbrev rm_X4_push : Room := { frames := 1, cells := 0, slots := 0, locals := 22 }
theorem cv_X4_push : fp_CV yX4_push cX4_push 2 none 1 := ⟨tw_542, tw_11, by decide, by decide +kernel⟩
set_option maxHeartbeats 2000000 in
theorem w_X4_push_16 {p : Program} {l : Launch} {e : Env} {s : State} {m : MethodId} {args : Array Value} {below : List Frame} {meth : Method} {c : Code} {D : va_G} {G : Nat → ClassId} {B : Nat} {k1 : Nat} {M' : fp_Mem} (E : fp_EV p s m args meth c cX4_push 2 RX4 none D G) (hk1 : fp_is9 k1) (M : fp_Mem) {H : Heap} {locs : List Loc} {ls : Array Slot} (hG : fp_H D G B s M H locs) (hl : lv_has ls 2 []) (h : m_X4_push_16 k1 M = some M') : W p l e rm_X4_push s m args below meth c H locs 0 0 (MQ below (fp_Qv D G B M') args s 0 0 (fp_A B)) (F0 m 16 ls []) := by
  have hx := E.1
  have hb := E.2.1
  have hown := E.2.2.2.1
  unfold m_X4_push_16 at h
  exact fp_retv E hG (Option.some.inj h) dX4_push_16
set_option maxHeartbeats 2000000 in
theorem w_X4_push_0 {p : Program} {l : Launch} {e : Env} {s : State} {m : MethodId} {args : Array Value} {below : List Frame} {meth : Method} {c : Code} {D : va_G} {G : Nat → ClassId} {B : Nat} {k1 : Nat} {M' : fp_Mem} (E : fp_EV p s m args meth c cX4_push 2 RX4 none D G) (hk1 : fp_is9 k1) {M : fp_Mem} {H : Heap} {locs : List Loc} {ls : Array Slot} (hG : fp_H D G B s M H locs) (hl : lv_has ls 2 [(0, .ref (B + 48)), (1, .ref (B + k1))]) (h : m_X4_push M k1 = some M') : W p l e rm_X4_push s m args below meth c H locs 0 0 (MQ below (fp_Qv D G B M') args s 0 0 (fp_A B)) (F0 m 0 ls []) := by
  have hx := E.1
  have hb := E.2.1
  have hown := E.2.2.2.1
  unfold m_X4_push at h
  refine lv_aload_n hx hb dX4_push_0 rfl (lv_at hl 0 rfl) ?_
  refine fp_g4_1 E hG tw_285 dX4_push_1 ?_
  refine lv_if_lt (tgt := 16) hx hb dX4_push_4 (by decide) (fun q => ?_) (fun q => ?_)
  · replace h := fp_ifT q h
    exact w_X4_push_16 E hk1  _ hG (lv_sub hl [] rfl) h
  · replace h := fp_ifF q h
    refine lv_aload_n hx hb dX4_push_7 rfl (lv_at hl 0 rfl) ?_
    refine fp_g4_1 E hG tw_285 dX4_push_8 ?_
    refine lv_bipush (v := (nI 20)) hx hb dX4_push_11 (by decide) ?_
    refine lv_icmp_lt (tgt := 17) hx hb dX4_push_13 (by decide) (fun q => ?_) (fun q => ?_)
    · replace h := fp_ifT q h
      refine lv_aload_n hx hb dX4_push_17 rfl (lv_at hl 0 rfl) ?_
      refine fp_g4_2 E hG tw_286 dX4_push_18 ?_
      refine lv_aload_n hx hb dX4_push_21 rfl (lv_at hl 0 rfl) ?_
      refine fp_g4_1 E hG tw_285 dX4_push_22 ?_
      obtain ⟨g_1, h⟩ := fp_gd_s h
      refine fp_qald24 E hG (fp_in_s g_1) dX4_push_25 ?_
      refine lv_aload_n hx hb dX4_push_26 rfl (lv_at hl 1 rfl) ?_
      obtain ⟨M_2, c_3, h⟩ := fp_b1_s h
      refine fp_callVv (As := [.ref (B + k1)]) (rest := []) E hG (c_X9_becomes l D G B (fp_is9_h (fp_in_lt (fp_in_s g_1))) hk1 c_3) cv_X9_becomes tw_543 tw_544 tw_545 ⟨rfl, rfl⟩ ⟨Nat.le_of_ble_eq_true rfl, Nat.le_of_ble_eq_true rfl⟩ (fp_recv E hG (fp_is9_h (fp_in_lt (fp_in_s g_1))).1.1 (fp_o9 (fp_is9_h (fp_in_lt (fp_in_s g_1))).1 _) rfl) rfl rfl (Nat.le_of_ble_eq_true rfl) hl.1 dX4_push_27 ⟨Nat.zero_le _, Nat.zero_le _⟩ (fun H locs hG => ?_)
      refine lv_aload_n hx hb dX4_push_30 rfl (lv_at hl 0 rfl) ?_
      refine lv_aload_n hx hb dX4_push_31 rfl (lv_at hl 0 rfl) ?_
      refine fp_g4_1 E hG tw_285 dX4_push_32 ?_
      refine lv_iconst (v := (nI 1)) hx hb dX4_push_35 (by decide) ?_
      refine lv_iadd hx hb dX4_push_36 ?_
      refine lv_bipush (v := (nI 20)) hx hb dX4_push_37 (by decide) ?_
      refine lv_irem hx hb dX4_push_39 (by decide) ?_
      obtain ⟨M_4, eM_4, h⟩ := fp_lt_s h
      refine fp_p4_1 E hG tw_285 dX4_push_40 (fun H locs hG => ?_)
      replace hG := fp_memH eM_4 hG
      refine lv_aload_n hx hb dX4_push_43 rfl (lv_at hl 0 rfl) ?_
      refine lv_bipush (v := (nI 20)) hx hb dX4_push_44 (by decide) ?_
      refine lv_aload_n hx hb dX4_push_46 rfl (lv_at hl 0 rfl) ?_
      refine fp_g4_0 E hG tw_283 dX4_push_47 ?_
      refine lv_iconst (v := (nI 1)) hx hb dX4_push_50 (by decide) ?_
      refine lv_iadd hx hb dX4_push_51 ?_
      refine va_mmin hx hb (E.2.2.1.trans hl.1.symm) hown (fp_tabs E tw_547) (fp_tabs E tw_548) (fp_tabs E tw_15) (fp_tabs E tw_549) (Nat.le_of_ble_eq_true rfl) (Nat.le_of_ble_eq_true rfl) (Nat.zero_le _) (Nat.zero_le _) dX4_push_52 ?_
      obtain ⟨M_5, eM_5, h⟩ := fp_lt_s h
      refine fp_p4_0 E hG tw_283 dX4_push_55 (fun H locs hG => ?_)
      replace hG := fp_memH eM_5 hG
      exact fp_retv E hG (Option.some.inj h) dX4_push_58
    · replace h := fp_ifF q h
      exact w_X4_push_16 E hk1  _ hG (lv_sub hl [] rfl) h
theorem c_X4_push (l : Launch) (D : va_G) (G : Nat → ClassId) (B : Nat) {M : fp_Mem} {k1 : Nat}  {M' : fp_Mem} (hk1 : fp_is9 k1) (h : m_X4_push M k1 = some M') : Met l yX4_push (Cond.code yX4_push cX4_push 2 none :: fp_T) rm_X4_push (va_Pc [.ref (B + 48), .ref (B + k1)] (fp_GS D G B M)) (fp_Qv D G B M') 0 0 (fp_A B) :=
  fp_met (own := RX4) (by decide) rfl (Nat.le_of_ble_eq_true rfl) (fun E hG hl => w_X4_push_0 E hk1 hG hl h)
abbrev rm_X4_pop : Room := { frames := 1, cells := 0, slots := 0, locals := 22 }
theorem cv_X4_pop : fp_CV yX4_pop cX4_pop 3 (some .boolean) 1 := ⟨tw_617, tw_11, by decide, by decide +kernel⟩
set_option maxHeartbeats 2000000 in
theorem w_X4_pop_30 {p : Program} {l : Launch} {e : Env} {s : State} {m : MethodId} {args : Array Value} {below : List Frame} {meth : Method} {c : Code} {D : va_G} {G : Nat → ClassId} {B : Nat} {k1 : Nat} {r : Int32} {M' : fp_Mem} (E : fp_EV p s m args meth c cX4_pop 3 RX4 (some .boolean) D G) (hk1 : fp_is9 k1) (M : fp_Mem) {H : Heap} {locs : List Loc} {ls : Array Slot} (hG : fp_H D G B s M H locs) (hl : lv_has ls 3 []) (h : m_X4_pop_30 k1 M = some (r, M')) : W p l e rm_X4_pop s m args below meth c H locs 0 0 (MQ below (fp_Qi D G B r M') args s 0 0 (fp_A B)) (F0 m 30 ls []) := by
  have hx := E.1
  have hb := E.2.1
  have hown := E.2.2.2.1
  unfold m_X4_pop_30 at h
  refine lv_iconst (v := (nI 0)) hx hb dX4_pop_30 (by decide) ?_
  exact fp_iretz E hG rfl (fp_pr1 h) (fp_pr2 h) dX4_pop_31
set_option maxHeartbeats 2000000 in
theorem w_X4_pop_0 {p : Program} {l : Launch} {e : Env} {s : State} {m : MethodId} {args : Array Value} {below : List Frame} {meth : Method} {c : Code} {D : va_G} {G : Nat → ClassId} {B : Nat} {k1 : Nat} {r : Int32} {M' : fp_Mem} (E : fp_EV p s m args meth c cX4_pop 3 RX4 (some .boolean) D G) (hk1 : fp_is9 k1) {M : fp_Mem} {H : Heap} {locs : List Loc} {ls : Array Slot} (hG : fp_H D G B s M H locs) (hl : lv_has ls 3 [(0, .ref (B + 48)), (1, .ref (B + k1))]) (h : m_X4_pop M k1 = some (r, M')) : W p l e rm_X4_pop s m args below meth c H locs 0 0 (MQ below (fp_Qi D G B r M') args s 0 0 (fp_A B)) (F0 m 0 ls []) := by
  have hx := E.1
  have hb := E.2.1
  have hown := E.2.2.2.1
  unfold m_X4_pop at h
  refine lv_aload_n hx hb dX4_pop_0 rfl (lv_at hl 0 rfl) ?_
  refine fp_g4_1 E hG tw_285 dX4_pop_1 ?_
  refine lv_bipush (v := (nI 20)) hx hb dX4_pop_4 (by decide) ?_
  refine lv_iadd hx hb dX4_pop_6 ?_
  refine lv_iconst (v := (nI 1)) hx hb dX4_pop_7 (by decide) ?_
  refine lv_isub hx hb dX4_pop_8 ?_
  refine lv_bipush (v := (nI 20)) hx hb dX4_pop_9 (by decide) ?_
  refine lv_irem hx hb dX4_pop_11 (by decide) ?_
  obtain ⟨x_1, ex_1, h⟩ := fp_lt_s h
  refine fp_top ex_1 ?_
  refine lv_istore_n (lv' := [(2, .int x_1), (0, .ref (B + 48)), (1, .ref (B + k1))]) hx hb dX4_pop_12 rfl hl (by decide) rfl (fun ls hl => ?_)
  refine lv_aload_n hx hb dX4_pop_13 rfl (lv_at hl 1 rfl) ?_
  refine fp_g4_0 E hG tw_283 dX4_pop_14 ?_
  refine lv_if_le (tgt := 30) hx hb dX4_pop_17 (by decide) (fun q => ?_) (fun q => ?_)
  · replace h := fp_ifT q h
    exact w_X4_pop_30 E hk1  _ hG (lv_sub hl [] rfl) h
  · replace h := fp_ifF q h
    refine lv_iload_n hx hb dX4_pop_20 rfl (lv_at hl 0 rfl) ?_
    refine lv_if_lt (tgt := 30) hx hb dX4_pop_21 (by decide) (fun q => ?_) (fun q => ?_)
    · replace h := fp_ifT q h
      exact w_X4_pop_30 E hk1  _ hG (lv_sub hl [] rfl) h
    · replace h := fp_ifF q h
      refine lv_iload_n hx hb dX4_pop_24 rfl (lv_at hl 0 rfl) ?_
      refine lv_bipush (v := (nI 20)) hx hb dX4_pop_25 (by decide) ?_
      refine lv_icmp_lt (tgt := 32) hx hb dX4_pop_27 (by decide) (fun q => ?_) (fun q => ?_)
      · replace h := fp_ifT q h
        refine lv_aload_n hx hb dX4_pop_32 rfl (lv_at hl 2 rfl) ?_
        refine lv_aload_n hx hb dX4_pop_33 rfl (lv_at hl 1 rfl) ?_
        refine fp_g4_2 E hG tw_286 dX4_pop_34 ?_
        refine lv_iload_n hx hb dX4_pop_37 rfl (lv_at hl 0 rfl) ?_
        obtain ⟨g_2, h⟩ := fp_gd_s h
        refine fp_qald24 E hG (fp_in_s g_2) dX4_pop_38 ?_
        obtain ⟨M_3, c_4, h⟩ := fp_b1_s h
        refine fp_callVv (As := [.ref (B + (50 + 3 * Int32.toNatClampNeg x_1))]) (rest := []) E hG (c_X9_becomes l D G B hk1 (fp_is9_h (fp_in_lt (fp_in_s g_2))) c_4) cv_X9_becomes tw_543 tw_544 tw_545 ⟨rfl, rfl⟩ ⟨Nat.le_of_ble_eq_true rfl, Nat.le_of_ble_eq_true rfl⟩ (fp_recv E hG hk1.1.1 (fp_o9 hk1.1 _) rfl) rfl rfl (Nat.le_of_ble_eq_true rfl) hl.1 dX4_pop_39 ⟨Nat.zero_le _, Nat.zero_le _⟩ (fun H locs hG => ?_)
        refine lv_aload_n hx hb dX4_pop_42 rfl (lv_at hl 1 rfl) ?_
        refine lv_iload_n hx hb dX4_pop_43 rfl (lv_at hl 0 rfl) ?_
        obtain ⟨M_5, eM_5, h⟩ := fp_lt_s h
        refine fp_p4_1 E hG tw_285 dX4_pop_44 (fun H locs hG => ?_)
        replace hG := fp_memH eM_5 hG
        refine lv_aload_n hx hb dX4_pop_47 rfl (lv_at hl 1 rfl) ?_
        refine lv_dup hx hb dX4_pop_48 rfl ?_
        refine fp_g4_0 E hG tw_283 dX4_pop_49 ?_
        refine lv_iconst (v := (nI 1)) hx hb dX4_pop_52 (by decide) ?_
        refine lv_isub hx hb dX4_pop_53 ?_
        obtain ⟨M_6, eM_6, h⟩ := fp_lt_s h
        refine fp_p4_0 E hG tw_283 dX4_pop_54 (fun H locs hG => ?_)
        replace hG := fp_memH eM_6 hG
        refine lv_iconst (v := (nI 1)) hx hb dX4_pop_57 (by decide) ?_
        exact fp_iretz E hG rfl (fp_pr1 h) (fp_pr2 h) dX4_pop_58
      · replace h := fp_ifF q h
        exact w_X4_pop_30 E hk1  _ hG (lv_sub hl [] rfl) h
theorem c_X4_pop (l : Launch) (D : va_G) (G : Nat → ClassId) (B : Nat) {M : fp_Mem} {k1 : Nat}  {r : Int32} {M' : fp_Mem} (hk1 : fp_is9 k1) (h : m_X4_pop M k1 = some (r, M')) : Met l yX4_pop (Cond.code yX4_pop cX4_pop 3 (some .boolean) :: fp_T) rm_X4_pop (va_Pc [.ref (B + 48), .ref (B + k1)] (fp_GS D G B M)) (fp_Qi D G B r M') 0 0 (fp_A B) :=
  fp_met (own := RX4) (by decide) rfl (Nat.le_of_ble_eq_true rfl) (fun E hG hl => w_X4_pop_0 E hk1 hG hl h)

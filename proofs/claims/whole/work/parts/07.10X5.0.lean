abbrev rm_X5_has : Room := { frames := 0, cells := 0, slots := 0, locals := 0 }
theorem cv_X5_has : fp_CV yX5_has cX5_has 2 (some .boolean) 1 := ⟨tw_784, tw_12, by decide, by decide +kernel⟩
set_option maxHeartbeats 2000000 in
theorem w_X5_has_14 {p : Program} {l : Launch} {e : Env} {s : State} {m : MethodId} {args : Array Value} {below : List Frame} {meth : Method} {c : Code} {D : va_G} {G : Nat → ClassId} {B : Nat} {M : fp_Mem} {p1 : Int32} {r : Int32} (E : fp_EV p s m args meth c cX5_has 2 RX5 (some .boolean) D G) (s0 : Int32) {H : Heap} {locs : List Loc} {ls : Array Slot} (hG : fp_H D G B s M H locs) (hl : lv_has ls 2 []) (h : m_X5_has_14 M p1 s0 = some r) : W p l e rm_X5_has s m args below meth c H locs 0 0 (MQ below (fp_Qi D G B r M) args s 0 0 (fp_A B)) (F0 m 14 ls [.int s0]) := by
  have hx := E.1
  have hb := E.2.1
  have hown := E.2.2.2.1
  unfold m_X5_has_14 at h
  obtain ⟨g_1, h⟩ := fp_gd_s h
  exact fp_iretz E hG g_1 (Option.some.inj h) rfl dX5_has_14
set_option maxHeartbeats 2000000 in
theorem w_X5_has_13 {p : Program} {l : Launch} {e : Env} {s : State} {m : MethodId} {args : Array Value} {below : List Frame} {meth : Method} {c : Code} {D : va_G} {G : Nat → ClassId} {B : Nat} {M : fp_Mem} {p1 : Int32} {r : Int32} (E : fp_EV p s m args meth c cX5_has 2 RX5 (some .boolean) D G) {H : Heap} {locs : List Loc} {ls : Array Slot} (hG : fp_H D G B s M H locs) (hl : lv_has ls 2 []) (h : m_X5_has_13 M p1 = some r) : W p l e rm_X5_has s m args below meth c H locs 0 0 (MQ below (fp_Qi D G B r M) args s 0 0 (fp_A B)) (F0 m 13 ls []) := by
  have hx := E.1
  have hb := E.2.1
  have hown := E.2.2.2.1
  unfold m_X5_has_13 at h
  refine lv_iconst (v := (nI 0)) hx hb dX5_has_13 (by decide) ?_
  exact w_X5_has_14 E   _ hG (lv_sub hl [] rfl) h
set_option maxHeartbeats 2000000 in
theorem w_X5_has_0 {p : Program} {l : Launch} {e : Env} {s : State} {m : MethodId} {args : Array Value} {below : List Frame} {meth : Method} {c : Code} {D : va_G} {G : Nat → ClassId} {B : Nat} {M : fp_Mem} {p1 : Int32} {r : Int32} (E : fp_EV p s m args meth c cX5_has 2 RX5 (some .boolean) D G) {H : Heap} {locs : List Loc} {ls : Array Slot} (hG : fp_H D G B s M H locs) (hl : lv_has ls 2 [(0, .ref (B + 110)), (1, .int p1)]) (h : m_X5_has M p1 = some r) : W p l e rm_X5_has s m args below meth c H locs 0 0 (MQ below (fp_Qi D G B r M) args s 0 0 (fp_A B)) (F0 m 0 ls []) := by
  have hx := E.1
  have hb := E.2.1
  have hown := E.2.2.2.1
  unfold m_X5_has at h
  refine lv_iload_n hx hb dX5_has_0 rfl (lv_at hl 1 rfl) ?_
  refine lv_if_lt (tgt := 13) hx hb dX5_has_1 (by decide) (fun q => ?_) (fun q => ?_)
  · replace h := fp_ifT q h
    exact w_X5_has_13 E    hG (lv_sub hl [] rfl) h
  · replace h := fp_ifF q h
    refine lv_iload_n hx hb dX5_has_4 rfl (lv_at hl 1 rfl) ?_
    refine lv_iconst (v := (nI 2)) hx hb dX5_has_5 (by decide) ?_
    refine lv_icmp_ge (tgt := 13) hx hb dX5_has_6 (by decide) (fun q => ?_) (fun q => ?_)
    · replace h := fp_ifT q h
      exact w_X5_has_13 E    hG (lv_sub hl [] rfl) h
    · replace h := fp_ifF q h
      refine lv_iconst (v := (nI 1)) hx hb dX5_has_9 (by decide) ?_
      refine lv_goto (tgt := 14) hx hb dX5_has_10 (by decide) ?_
      exact w_X5_has_14 E   _ hG (lv_sub hl [] rfl) h
theorem c_X5_has (l : Launch) (D : va_G) (G : Nat → ClassId) (B : Nat) {M : fp_Mem}  {p1 : Int32} {r : Int32}  (h : m_X5_has M p1 = some r) : Met l yX5_has (Cond.code yX5_has cX5_has 2 (some .boolean) :: fp_T) rm_X5_has (va_Pc [.ref (B + 110), .int p1] (fp_GS D G B M)) (fp_Qi D G B r M) 0 0 (fp_A B) :=
  fp_met (own := RX5) (by decide) rfl (Nat.le_of_ble_eq_true rfl) (fun E hG hl => w_X5_has_0 E  hG hl h)
abbrev rm_X5_forget : Room := { frames := 0, cells := 0, slots := 0, locals := 0 }
theorem cv_X5_forget : fp_CV yX5_forget cX5_forget 2 none 0 := ⟨tw_455, tw_12, by decide, by decide +kernel⟩
set_option maxHeartbeats 2000000 in
theorem w_X5_forget_2 {p : Program} {l : Launch} {e : Env} {s : State} {m : MethodId} {args : Array Value} {below : List Frame} {meth : Method} {c : Code} {D : va_G} {G : Nat → ClassId} {B : Nat} {M' : fp_Mem} (E : fp_EV p s m args meth c cX5_forget 2 RX5 none D G) : ∀ (n : Nat) (v1 : Int32) (M : fp_Mem) {H : Heap} {locs : List Loc} {ls : Array Slot}, fp_H D G B s M H locs → lv_has ls 2 [(0, .ref (B + 110)), (1, .int v1)] → m_X5_forget_2 n v1 M = some M' → W p l e rm_X5_forget s m args below meth c H locs 0 0 (MQ below (fp_Qv D G B M') args s 0 0 (fp_A B)) (F0 m 2 ls []) := by
  have hx := E.1
  have hb := E.2.1
  have hown := E.2.2.2.1
  intro n
  induction n with
  | zero =>
    intro v1 M H locs ls hG hl h
    exact nomatch h
  | succ n ih =>
    have ihK := @ih
    intro v1 M H locs ls hG hl h
    rw [m_X5_forget_2] at h
    refine lv_iload_n hx hb dX5_forget_2 rfl (lv_at hl 1 rfl) ?_
    refine lv_iconst (v := (nI 2)) hx hb dX5_forget_3 (by decide) ?_
    refine lv_icmp_ge (tgt := 20) hx hb dX5_forget_4 (by decide) (fun q => ?_) (fun q => ?_)
    · replace h := fp_ifT q h
      exact fp_retv E hG (Option.some.inj h) dX5_forget_20
    · replace h := fp_ifF q h
      refine lv_aload_n hx hb dX5_forget_7 rfl (lv_at hl 0 rfl) ?_
      refine fp_g5_2 E hG tw_304 dX5_forget_8 ?_
      refine lv_iload_n hx hb dX5_forget_11 rfl (lv_at hl 1 rfl) ?_
      refine lv_iconst (v := (nI 0)) hx hb dX5_forget_12 (by decide) ?_
      obtain ⟨g_1, h⟩ := fp_gd_s h
      obtain ⟨M_2, eM_2, h⟩ := fp_lt_s h
      refine fp_zast E hG fp_cc113.1 (fp_a27 fp_cc113) (fp_in_s g_1) dX5_forget_13 (fun H locs hG => ?_)
      replace hG := fp_memH eM_2 hG
      obtain ⟨x_3, ex_3, h⟩ := fp_lt_s h
      refine lv_iinc (v := x_3) (lv' := [(1, .int x_3), (0, .ref (B + 110))]) hx hb dX5_forget_14 hl (k := 1) rfl (by rw [ex_3]; rfl) (by decide) rfl (fun ls hl => ?_)
      refine lv_goto (tgt := 2) hx hb dX5_forget_17 (by decide) ?_
      exact ih _ _ hG (lv_sub hl [1, 0] rfl) h
set_option maxHeartbeats 2000000 in
theorem w_X5_forget_0 {p : Program} {l : Launch} {e : Env} {s : State} {m : MethodId} {args : Array Value} {below : List Frame} {meth : Method} {c : Code} {D : va_G} {G : Nat → ClassId} {B : Nat} {M' : fp_Mem} (E : fp_EV p s m args meth c cX5_forget 2 RX5 none D G) {M : fp_Mem} {H : Heap} {locs : List Loc} {ls : Array Slot} (hG : fp_H D G B s M H locs) (hl : lv_has ls 2 [(0, .ref (B + 110))]) (h : m_X5_forget M = some M') : W p l e rm_X5_forget s m args below meth c H locs 0 0 (MQ below (fp_Qv D G B M') args s 0 0 (fp_A B)) (F0 m 0 ls []) := by
  have hx := E.1
  have hb := E.2.1
  have hown := E.2.2.2.1
  unfold m_X5_forget at h
  refine lv_iconst (v := (nI 0)) hx hb dX5_forget_0 (by decide) ?_
  refine lv_istore_n (lv' := [(1, .int (nI 0)), (0, .ref (B + 110))]) hx hb dX5_forget_1 rfl hl (by decide) rfl (fun ls hl => ?_)
  exact w_X5_forget_2 E   fp_fu _ _ hG (lv_sub hl [1, 0] rfl) h
theorem c_X5_forget (l : Launch) (D : va_G) (G : Nat → ClassId) (B : Nat) {M : fp_Mem}   {M' : fp_Mem}  (h : m_X5_forget M = some M') : Met l yX5_forget (Cond.code yX5_forget cX5_forget 2 none :: fp_T) rm_X5_forget (va_Pc [.ref (B + 110)] (fp_GS D G B M)) (fp_Qv D G B M') 0 0 (fp_A B) :=
  fp_met (own := RX5) (by decide) rfl (Nat.le_of_ble_eq_true rfl) (fun E hG hl => w_X5_forget_0 E  hG hl h)
abbrev rm_X5_take : Room := { frames := 1, cells := 0, slots := 0, locals := 22 }
theorem cv_X5_take : fp_CV yX5_take cX5_take 4 none 3 := ⟨tw_788, tw_12, by decide, by decide +kernel⟩
set_option maxHeartbeats 2000000 in
theorem w_X5_take_35 {p : Program} {l : Launch} {e : Env} {s : State} {m : MethodId} {args : Array Value} {below : List Frame} {meth : Method} {c : Code} {D : va_G} {G : Nat → ClassId} {B : Nat} {k2 : Nat} {p1 : Int32} {M' : fp_Mem} (E : fp_EV p s m args meth c cX5_take 4 RX5 none D G) (hk2 : fp_is9 k2) (M : fp_Mem) {H : Heap} {locs : List Loc} {ls : Array Slot} (hG : fp_H D G B s M H locs) (hl : lv_has ls 4 []) (h : m_X5_take_35 k2 p1 M = some M') : W p l e rm_X5_take s m args below meth c H locs 0 0 (MQ below (fp_Qv D G B M') args s 0 0 (fp_A B)) (F0 m 35 ls []) := by
  have hx := E.1
  have hb := E.2.1
  have hown := E.2.2.2.1
  unfold m_X5_take_35 at h
  exact fp_retv E hG (Option.some.inj h) dX5_take_35
set_option maxHeartbeats 2000000 in
theorem w_X5_take_0 {p : Program} {l : Launch} {e : Env} {s : State} {m : MethodId} {args : Array Value} {below : List Frame} {meth : Method} {c : Code} {D : va_G} {G : Nat → ClassId} {B : Nat} {k2 : Nat} {p1 : Int32} {M' : fp_Mem} (E : fp_EV p s m args meth c cX5_take 4 RX5 none D G) (hk2 : fp_is9 k2) {M : fp_Mem} {H : Heap} {locs : List Loc} {ls : Array Slot} (hG : fp_H D G B s M H locs) (hl : lv_has ls 4 [(0, .ref (B + 110)), (1, .int p1), (2, .ref (B + k2)), (3, .ref (B + 47))]) (h : m_X5_take M k2 p1 = some M') : W p l e rm_X5_take s m args below meth c H locs 0 0 (MQ below (fp_Qv D G B M') args s 0 0 (fp_A B)) (F0 m 0 ls []) := by
  have hx := E.1
  have hb := E.2.1
  have hown := E.2.2.2.1
  unfold m_X5_take at h
  refine lv_aload_n hx hb dX5_take_0 rfl (lv_at hl 0 rfl) ?_
  refine lv_iload_n hx hb dX5_take_1 rfl (lv_at hl 1 rfl) ?_
  obtain ⟨r_1, c_2, h⟩ := fp_b1_s h
  refine fp_callVi (As := [.int p1]) (rest := []) E hG (c_X5_has l D G B c_2) cv_X5_has tw_789 tw_782 tw_783 ⟨rfl, rfl⟩ ⟨Nat.le_of_ble_eq_true rfl, Nat.le_of_ble_eq_true rfl⟩ (fp_recv E hG (by decide) (fp_o5 _) rfl) rfl rfl (Nat.le_of_ble_eq_true rfl) hl.1 dX5_take_2 ⟨Nat.zero_le _, Nat.zero_le _⟩ (fun H locs hG => ?_)
  refine lv_if_eq (tgt := 35) hx hb dX5_take_5 (by decide) (fun q => ?_) (fun q => ?_)
  · replace h := fp_ifT q h
    exact w_X5_take_35 E hk2  _ hG (lv_sub hl [] rfl) h
  · replace h := fp_ifF q h
    refine lv_aload_n hx hb dX5_take_8 rfl (lv_at hl 0 rfl) ?_
    refine fp_g5_0 E hG tw_302 dX5_take_9 ?_
    refine lv_iload_n hx hb dX5_take_12 rfl (lv_at hl 1 rfl) ?_
    obtain ⟨g_3, h⟩ := fp_gd_s h
    refine fp_qald25 E hG (fp_in_s g_3) dX5_take_13 ?_
    refine lv_aload_n hx hb dX5_take_14 rfl (lv_at hl 2 rfl) ?_
    obtain ⟨M_4, c_5, h⟩ := fp_b1_s h
    refine fp_callVv (As := [.ref (B + k2)]) (rest := []) E hG (c_X9_becomes l D G B (fp_is9_i (fp_in_lt (fp_in_s g_3))) hk2 c_5) cv_X9_becomes tw_790 tw_544 tw_545 ⟨rfl, rfl⟩ ⟨Nat.le_of_ble_eq_true rfl, Nat.le_of_ble_eq_true rfl⟩ (fp_recv E hG (fp_is9_i (fp_in_lt (fp_in_s g_3))).1.1 (fp_o9 (fp_is9_i (fp_in_lt (fp_in_s g_3))).1 _) rfl) rfl rfl (Nat.le_of_ble_eq_true rfl) hl.1 dX5_take_15 ⟨Nat.zero_le _, Nat.zero_le _⟩ (fun H locs hG => ?_)
    refine lv_aload_n hx hb dX5_take_18 rfl (lv_at hl 0 rfl) ?_
    refine fp_g5_1 E hG tw_303 dX5_take_19 ?_
    refine lv_iload_n hx hb dX5_take_22 rfl (lv_at hl 1 rfl) ?_
    refine lv_aload_n hx hb dX5_take_23 rfl (lv_at hl 3 rfl) ?_
    refine fp_g3_0 E hG tw_269 dX5_take_24 ?_
    obtain ⟨g_6, h⟩ := fp_gd_s h
    obtain ⟨M_7, eM_7, h⟩ := fp_lt_s h
    refine fp_iast E hG fp_cc112.1 (fp_a26 fp_cc112) (fp_in_s g_6) dX5_take_27 (fun H locs hG => ?_)
    replace hG := fp_memH eM_7 hG
    refine lv_aload_n hx hb dX5_take_28 rfl (lv_at hl 0 rfl) ?_
    refine fp_g5_2 E hG tw_304 dX5_take_29 ?_
    refine lv_iload_n hx hb dX5_take_32 rfl (lv_at hl 1 rfl) ?_
    refine lv_iconst (v := (nI 1)) hx hb dX5_take_33 (by decide) ?_
    obtain ⟨g_8, h⟩ := fp_gd_s h
    obtain ⟨M_9, eM_9, h⟩ := fp_lt_s h
    refine fp_zast E hG fp_cc113.1 (fp_a27 fp_cc113) (fp_in_s g_8) dX5_take_34 (fun H locs hG => ?_)
    replace hG := fp_memH eM_9 hG
    exact w_X5_take_35 E hk2  _ hG (lv_sub hl [] rfl) h
theorem c_X5_take (l : Launch) (D : va_G) (G : Nat → ClassId) (B : Nat) {M : fp_Mem} {k2 : Nat} {p1 : Int32} {M' : fp_Mem} (hk2 : fp_is9 k2) (h : m_X5_take M k2 p1 = some M') : Met l yX5_take (Cond.code yX5_take cX5_take 4 none :: fp_T) rm_X5_take (va_Pc [.ref (B + 110), .int p1, .ref (B + k2), .ref (B + 47)] (fp_GS D G B M)) (fp_Qv D G B M') 0 0 (fp_A B) :=
  fp_met (own := RX5) (by decide) rfl (Nat.le_of_ble_eq_true rfl) (fun E hG hl => w_X5_take_0 E hk2 hG hl h)
abbrev rm_X5_give : Room := { frames := 1, cells := 0, slots := 0, locals := 22 }
theorem cv_X5_give : fp_CV yX5_give cX5_give 4 (some .boolean) 3 := ⟨tw_798, tw_12, by decide, by decide +kernel⟩
set_option maxHeartbeats 2000000 in
theorem w_X5_give_17 {p : Program} {l : Launch} {e : Env} {s : State} {m : MethodId} {args : Array Value} {below : List Frame} {meth : Method} {c : Code} {D : va_G} {G : Nat → ClassId} {B : Nat} {k2 : Nat} {p1 : Int32} {r : Int32} {M' : fp_Mem} (E : fp_EV p s m args meth c cX5_give 4 RX5 (some .boolean) D G) (hk2 : fp_is9 k2) (M : fp_Mem) {H : Heap} {locs : List Loc} {ls : Array Slot} (hG : fp_H D G B s M H locs) (hl : lv_has ls 4 []) (h : m_X5_give_17 k2 p1 M = some (r, M')) : W p l e rm_X5_give s m args below meth c H locs 0 0 (MQ below (fp_Qi D G B r M') args s 0 0 (fp_A B)) (F0 m 17 ls []) := by
  have hx := E.1
  have hb := E.2.1
  have hown := E.2.2.2.1
  unfold m_X5_give_17 at h
  refine lv_iconst (v := (nI 0)) hx hb dX5_give_17 (by decide) ?_
  exact fp_iretz E hG rfl (fp_pr1 h) (fp_pr2 h) dX5_give_18
set_option maxHeartbeats 2000000 in
theorem w_X5_give_0 {p : Program} {l : Launch} {e : Env} {s : State} {m : MethodId} {args : Array Value} {below : List Frame} {meth : Method} {c : Code} {D : va_G} {G : Nat → ClassId} {B : Nat} {k2 : Nat} {p1 : Int32} {r : Int32} {M' : fp_Mem} (E : fp_EV p s m args meth c cX5_give 4 RX5 (some .boolean) D G) (hk2 : fp_is9 k2) {M : fp_Mem} {H : Heap} {locs : List Loc} {ls : Array Slot} (hG : fp_H D G B s M H locs) (hl : lv_has ls 4 [(0, .ref (B + 110)), (1, .int p1), (2, .ref (B + k2)), (3, .ref (B + 47))]) (h : m_X5_give M k2 p1 = some (r, M')) : W p l e rm_X5_give s m args below meth c H locs 0 0 (MQ below (fp_Qi D G B r M') args s 0 0 (fp_A B)) (F0 m 0 ls []) := by
  have hx := E.1
  have hb := E.2.1
  have hown := E.2.2.2.1
  unfold m_X5_give at h
  refine lv_aload_n hx hb dX5_give_0 rfl (lv_at hl 0 rfl) ?_
  refine lv_iload_n hx hb dX5_give_1 rfl (lv_at hl 1 rfl) ?_
  obtain ⟨r_1, c_2, h⟩ := fp_b1_s h
  refine fp_callVi (As := [.int p1]) (rest := []) E hG (c_X5_has l D G B c_2) cv_X5_has tw_789 tw_782 tw_783 ⟨rfl, rfl⟩ ⟨Nat.le_of_ble_eq_true rfl, Nat.le_of_ble_eq_true rfl⟩ (fp_recv E hG (by decide) (fp_o5 _) rfl) rfl rfl (Nat.le_of_ble_eq_true rfl) hl.1 dX5_give_2 ⟨Nat.zero_le _, Nat.zero_le _⟩ (fun H locs hG => ?_)
  refine lv_if_eq (tgt := 17) hx hb dX5_give_5 (by decide) (fun q => ?_) (fun q => ?_)
  · replace h := fp_ifT q h
    exact w_X5_give_17 E hk2  _ hG (lv_sub hl [] rfl) h
  · replace h := fp_ifF q h
    refine lv_aload_n hx hb dX5_give_8 rfl (lv_at hl 0 rfl) ?_
    refine fp_g5_2 E hG tw_304 dX5_give_9 ?_
    refine lv_iload_n hx hb dX5_give_12 rfl (lv_at hl 1 rfl) ?_
    obtain ⟨g_3, h⟩ := fp_gd_s h
    refine fp_zald E hG fp_cc113.1 (fp_a27 fp_cc113) (fp_in_s g_3) dX5_give_13 ?_
    refine lv_if_ne (tgt := 19) hx hb dX5_give_14 (by decide) (fun q => ?_) (fun q => ?_)
    · replace h := fp_ifF q h
      refine lv_aload_n hx hb dX5_give_19 rfl (lv_at hl 2 rfl) ?_
      refine lv_aload_n hx hb dX5_give_20 rfl (lv_at hl 0 rfl) ?_
      refine fp_g5_0 E hG tw_302 dX5_give_21 ?_
      refine lv_iload_n hx hb dX5_give_24 rfl (lv_at hl 1 rfl) ?_
      obtain ⟨g_4, h⟩ := fp_gd_s h
      refine fp_qald25 E hG (fp_in_s g_4) dX5_give_25 ?_
      obtain ⟨M_5, c_6, h⟩ := fp_b1_s h
      refine fp_callVv (As := [.ref (B + (114 + 3 * Int32.toNatClampNeg p1))]) (rest := []) E hG (c_X9_becomes l D G B hk2 (fp_is9_i (fp_in_lt (fp_in_s g_4))) c_6) cv_X9_becomes tw_790 tw_544 tw_545 ⟨rfl, rfl⟩ ⟨Nat.le_of_ble_eq_true rfl, Nat.le_of_ble_eq_true rfl⟩ (fp_recv E hG hk2.1.1 (fp_o9 hk2.1 _) rfl) rfl rfl (Nat.le_of_ble_eq_true rfl) hl.1 dX5_give_26 ⟨Nat.zero_le _, Nat.zero_le _⟩ (fun H locs hG => ?_)
      refine lv_aload_n hx hb dX5_give_29 rfl (lv_at hl 3 rfl) ?_
      refine lv_aload_n hx hb dX5_give_30 rfl (lv_at hl 0 rfl) ?_
      refine fp_g5_1 E hG tw_303 dX5_give_31 ?_
      refine lv_iload_n hx hb dX5_give_34 rfl (lv_at hl 1 rfl) ?_
      obtain ⟨g_7, h⟩ := fp_gd_s h
      refine fp_iald E hG fp_cc112.1 (fp_a26 fp_cc112) (fp_in_s g_7) dX5_give_35 ?_
      obtain ⟨M_8, eM_8, h⟩ := fp_lt_s h
      refine fp_p3_0 E hG tw_269 dX5_give_36 (fun H locs hG => ?_)
      replace hG := fp_memH eM_8 hG
      refine lv_iconst (v := (nI 1)) hx hb dX5_give_39 (by decide) ?_
      exact fp_iretz E hG rfl (fp_pr1 h) (fp_pr2 h) dX5_give_40
    · replace h := fp_ifT q h
      exact w_X5_give_17 E hk2  _ hG (lv_sub hl [] rfl) h
theorem c_X5_give (l : Launch) (D : va_G) (G : Nat → ClassId) (B : Nat) {M : fp_Mem} {k2 : Nat} {p1 : Int32} {r : Int32} {M' : fp_Mem} (hk2 : fp_is9 k2) (h : m_X5_give M k2 p1 = some (r, M')) : Met l yX5_give (Cond.code yX5_give cX5_give 4 (some .boolean) :: fp_T) rm_X5_give (va_Pc [.ref (B + 110), .int p1, .ref (B + k2), .ref (B + 47)] (fp_GS D G B M)) (fp_Qi D G B r M') 0 0 (fp_A B) :=
  fp_met (own := RX5) (by decide) rfl (Nat.le_of_ble_eq_true rfl) (fun E hG hl => w_X5_give_0 E hk2 hG hl h)

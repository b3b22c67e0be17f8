abbrev rm_X3_draw : Room := { frames := 0, cells := 0, slots := 0, locals := 0 }
theorem cv_X3_draw : fp_CV yX3_draw cX3_draw 2 (some .int) 1 := ⟨tw_604, tw_10, by decide, by decide +kernel⟩
set_option maxHeartbeats 2000000 in
theorem w_X3_draw_39 {p : Program} {l : Launch} {e : Env} {s : State} {m : MethodId} {args : Array Value} {below : List Frame} {meth : Method} {c : Code} {D : va_G} {G : Nat → ClassId} {B : Nat} {p1 : Int32} {r : Int32} {M' : fp_Mem} (E : fp_EV p s m args meth c cX3_draw 2 RX3 (some .int) D G) (s0 : Int32) (M : fp_Mem) {H : Heap} {locs : List Loc} {ls : Array Slot} (hG : fp_H D G B s M H locs) (hl : lv_has ls 2 []) (h : m_X3_draw_39 p1 s0 M = some (r, M')) : W p l e rm_X3_draw s m args below meth c H locs 0 0 (MQ below (fp_Qi D G B r M') args s 0 0 (fp_A B)) (F0 m 39 ls [.int s0]) := by
  have hx := E.1
  have hb := E.2.1
  have hown := E.2.2.2.1
  unfold m_X3_draw_39 at h
  exact fp_ireti E hG (fp_pr1 h) (fp_pr2 h) dX3_draw_39
set_option maxHeartbeats 2000000 in
theorem w_X3_draw_0 {p : Program} {l : Launch} {e : Env} {s : State} {m : MethodId} {args : Array Value} {below : List Frame} {meth : Method} {c : Code} {D : va_G} {G : Nat → ClassId} {B : Nat} {p1 : Int32} {r : Int32} {M' : fp_Mem} (E : fp_EV p s m args meth c cX3_draw 2 RX3 (some .int) D G) {M : fp_Mem} {H : Heap} {locs : List Loc} {ls : Array Slot} (hG : fp_H D G B s M H locs) (hl : lv_has ls 2 [(0, .ref (B + 47)), (1, .int p1)]) (h : m_X3_draw M p1 = some (r, M')) : W p l e rm_X3_draw s m args below meth c H locs 0 0 (MQ below (fp_Qi D G B r M') args s 0 0 (fp_A B)) (F0 m 0 ls []) := by
  have hx := E.1
  have hb := E.2.1
  have hown := E.2.2.2.1
  unfold m_X3_draw at h
  refine lv_aload_n hx hb dX3_draw_0 rfl (lv_at hl 0 rfl) ?_
  refine lv_aload_n hx hb dX3_draw_1 rfl (lv_at hl 0 rfl) ?_
  refine fp_g3_0 E hG tw_268 dX3_draw_2 ?_
  refine lv_i2l hx hb dX3_draw_5 rfl ?_
  refine lv_ldc2 (v := (lN 1103515245)) hx hb hown (fp_tabs E tw_605) dX3_draw_6 ?_
  refine lv_lmul hx hb dX3_draw_9 ?_
  refine lv_ldc2 (v := (lN 12345)) hx hb hown (fp_tabs E tw_606) dX3_draw_10 ?_
  refine lv_ladd hx hb dX3_draw_13 ?_
  refine lv_ldc2 (v := (lN 2147483647)) hx hb hown (fp_tabs E tw_607) dX3_draw_14 ?_
  refine lv_land hx hb dX3_draw_17 ?_
  refine lv_l2i hx hb dX3_draw_18 rfl ?_
  obtain ⟨M_1, eM_1, h⟩ := fp_lt_s h
  refine fp_p3_0 E hG tw_268 dX3_draw_19 (fun H locs hG => ?_)
  replace hG := fp_memH eM_1 hG
  refine lv_iload_n hx hb dX3_draw_22 rfl (lv_at hl 1 rfl) ?_
  refine lv_if_le (tgt := 38) hx hb dX3_draw_23 (by decide) (fun q => ?_) (fun q => ?_)
  · replace h := fp_ifT q h
    refine lv_iconst (v := (nI 0)) hx hb dX3_draw_38 (by decide) ?_
    exact w_X3_draw_39 E   _ _ hG (lv_sub hl [] rfl) h
  · replace h := fp_ifF q h
    refine lv_aload_n hx hb dX3_draw_26 rfl (lv_at hl 0 rfl) ?_
    refine fp_g3_0 E hG tw_268 dX3_draw_27 ?_
    refine lv_ldc (v := (nI 65536)) hx hb hown (fp_tabs E tw_608) dX3_draw_30 ?_
    refine lv_idiv hx hb dX3_draw_32 (by decide) ?_
    refine lv_iload_n hx hb dX3_draw_33 rfl (lv_at hl 1 rfl) ?_
    obtain ⟨g_2, h⟩ := fp_gd_s h
    refine lv_irem hx hb dX3_draw_34 (of_decide_eq_true g_2) ?_
    refine lv_goto (tgt := 39) hx hb dX3_draw_35 (by decide) ?_
    exact w_X3_draw_39 E   _ _ hG (lv_sub hl [] rfl) h
theorem c_X3_draw (l : Launch) (D : va_G) (G : Nat → ClassId) (B : Nat) {M : fp_Mem}  {p1 : Int32} {r : Int32} {M' : fp_Mem}  (h : m_X3_draw M p1 = some (r, M')) : Met l yX3_draw (Cond.code yX3_draw cX3_draw 2 (some .int) :: fp_T) rm_X3_draw (va_Pc [.ref (B + 47), .int p1] (fp_GS D G B M)) (fp_Qi D G B r M') 0 0 (fp_A B) :=
  fp_met (own := RX3) (by decide) rfl (Nat.le_of_ble_eq_true rfl) (fun E hG hl => w_X3_draw_0 E  hG hl h)

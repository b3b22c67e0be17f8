abbrev rm_X1_forget : Room := { frames := 0, cells := 0, slots := 0, locals := 0 }
theorem cv_X1_forget : fp_CV yX1_forget cX1_forget 1 none 0 := ⟨tw_447, tw_9, by decide, by decide +kernel⟩
set_option maxHeartbeats 2000000 in
theorem w_X1_forget_0 {p : Program} {l : Launch} {e : Env} {s : State} {m : MethodId} {args : Array Value} {below : List Frame} {meth : Method} {c : Code} {D : va_G} {G : Nat → ClassId} {B : Nat} {M' : fp_Mem} (E : fp_EV p s m args meth c cX1_forget 1 RX1 none D G) {M : fp_Mem} {H : Heap} {locs : List Loc} {ls : Array Slot} (hG : fp_H D G B s M H locs) (hl : lv_has ls 1 [(0, .ref (B + 44))]) (h : m_X1_forget M = some M') : W p l e rm_X1_forget s m args below meth c H locs 0 0 (MQ below (fp_Qv D G B M') args s 0 0 (fp_A B)) (F0 m 0 ls []) := by
  have hx := E.1
  have hb := E.2.1
  have hown := E.2.2.2.1
  unfold m_X1_forget at h
  refine lv_aload_n hx hb dX1_forget_0 rfl (lv_at hl 0 rfl) ?_
  refine lv_iconst (v := (nI 0)) hx hb dX1_forget_1 (by decide) ?_
  obtain ⟨M_1, eM_1, h⟩ := fp_lt_s h
  refine fp_p1_0 E hG tw_251 dX1_forget_2 (fun H locs hG => ?_)
  replace hG := fp_memH eM_1 hG
  exact fp_retv E hG (Option.some.inj h) dX1_forget_5
theorem c_X1_forget (l : Launch) (D : va_G) (G : Nat → ClassId) (B : Nat) {M : fp_Mem}   {M' : fp_Mem}  (h : m_X1_forget M = some M') : Met l yX1_forget (Cond.code yX1_forget cX1_forget 1 none :: fp_T) rm_X1_forget (va_Pc [.ref (B + 44)] (fp_GS D G B M)) (fp_Qv D G B M') 0 0 (fp_A B) :=
  fp_met (own := RX1) (by decide) rfl (Nat.le_of_ble_eq_true rfl) (fun E hG hl => w_X1_forget_0 E  hG hl h)
abbrev rm_X1_add : Room := { frames := 0, cells := 0, slots := 0, locals := 0 }
theorem cv_X1_add : fp_CV yX1_add cX1_add 3 (some .boolean) 2 := ⟨tw_760, tw_9, by decide, by decide +kernel⟩
set_option maxHeartbeats 2000000 in
theorem w_X1_add_16 {p : Program} {l : Launch} {e : Env} {s : State} {m : MethodId} {args : Array Value} {below : List Frame} {meth : Method} {c : Code} {D : va_G} {G : Nat → ClassId} {B : Nat} {p1 : Int32} {p2 : Int32} {r : Int32} {M' : fp_Mem} (E : fp_EV p s m args meth c cX1_add 3 RX1 (some .boolean) D G) (M : fp_Mem) {H : Heap} {locs : List Loc} {ls : Array Slot} (hG : fp_H D G B s M H locs) (hl : lv_has ls 3 []) (h : m_X1_add_16 p1 p2 M = some (r, M')) : W p l e rm_X1_add s m args below meth c H locs 0 0 (MQ below (fp_Qi D G B r M') args s 0 0 (fp_A B)) (F0 m 16 ls []) := by
  have hx := E.1
  have hb := E.2.1
  have hown := E.2.2.2.1
  unfold m_X1_add_16 at h
  refine lv_iconst (v := (nI 0)) hx hb dX1_add_16 (by decide) ?_
  exact fp_iretz E hG rfl (fp_pr1 h) (fp_pr2 h) dX1_add_17
set_option maxHeartbeats 2000000 in
theorem w_X1_add_0 {p : Program} {l : Launch} {e : Env} {s : State} {m : MethodId} {args : Array Value} {below : List Frame} {meth : Method} {c : Code} {D : va_G} {G : Nat → ClassId} {B : Nat} {p1 : Int32} {p2 : Int32} {r : Int32} {M' : fp_Mem} (E : fp_EV p s m args meth c cX1_add 3 RX1 (some .boolean) D G) {M : fp_Mem} {H : Heap} {locs : List Loc} {ls : Array Slot} (hG : fp_H D G B s M H locs) (hl : lv_has ls 3 [(0, .ref (B + 44)), (1, .int p1), (2, .int p2)]) (h : m_X1_add M p1 p2 = some (r, M')) : W p l e rm_X1_add s m args below meth c H locs 0 0 (MQ below (fp_Qi D G B r M') args s 0 0 (fp_A B)) (F0 m 0 ls []) := by
  have hx := E.1
  have hb := E.2.1
  have hown := E.2.2.2.1
  unfold m_X1_add at h
  refine lv_aload_n hx hb dX1_add_0 rfl (lv_at hl 0 rfl) ?_
  refine fp_g1_0 E hG tw_251 dX1_add_1 ?_
  refine lv_if_lt (tgt := 16) hx hb dX1_add_4 (by decide) (fun q => ?_) (fun q => ?_)
  · replace h := fp_ifT q h
    exact w_X1_add_16 E   _ hG (lv_sub hl [] rfl) h
  · replace h := fp_ifF q h
    refine lv_aload_n hx hb dX1_add_7 rfl (lv_at hl 0 rfl) ?_
    refine fp_g1_0 E hG tw_251 dX1_add_8 ?_
    refine lv_bipush (v := (nI 15)) hx hb dX1_add_11 (by decide) ?_
    refine lv_icmp_lt (tgt := 18) hx hb dX1_add_13 (by decide) (fun q => ?_) (fun q => ?_)
    · replace h := fp_ifT q h
      refine lv_aload_n hx hb dX1_add_18 rfl (lv_at hl 0 rfl) ?_
      refine fp_g1_1 E hG tw_253 dX1_add_19 ?_
      refine lv_aload_n hx hb dX1_add_22 rfl (lv_at hl 0 rfl) ?_
      refine fp_g1_0 E hG tw_251 dX1_add_23 ?_
      refine lv_iload_n hx hb dX1_add_26 rfl (lv_at hl 1 rfl) ?_
      obtain ⟨g_1, h⟩ := fp_gd_s h
      obtain ⟨M_2, eM_2, h⟩ := fp_lt_s h
      refine fp_iast E hG fp_cc45.1 (fp_a23 fp_cc45) (fp_in_s g_1) dX1_add_27 (fun H locs hG => ?_)
      replace hG := fp_memH eM_2 hG
      refine lv_aload_n hx hb dX1_add_28 rfl (lv_at hl 0 rfl) ?_
      refine fp_g1_2 E hG tw_254 dX1_add_29 ?_
      refine lv_aload_n hx hb dX1_add_32 rfl (lv_at hl 0 rfl) ?_
      refine fp_g1_0 E hG tw_251 dX1_add_33 ?_
      refine lv_iload_n hx hb dX1_add_36 rfl (lv_at hl 2 rfl) ?_
      obtain ⟨g_3, h⟩ := fp_gd_s h
      obtain ⟨M_4, eM_4, h⟩ := fp_lt_s h
      refine fp_iast E hG fp_cc46.1 (fp_a23 fp_cc46) (fp_in_s g_3) dX1_add_37 (fun H locs hG => ?_)
      replace hG := fp_memH eM_4 hG
      refine lv_aload_n hx hb dX1_add_38 rfl (lv_at hl 0 rfl) ?_
      refine lv_dup hx hb dX1_add_39 rfl ?_
      refine fp_g1_0 E hG tw_251 dX1_add_40 ?_
      refine lv_iconst (v := (nI 1)) hx hb dX1_add_43 (by decide) ?_
      refine lv_iadd hx hb dX1_add_44 ?_
      obtain ⟨M_5, eM_5, h⟩ := fp_lt_s h
      refine fp_p1_0 E hG tw_251 dX1_add_45 (fun H locs hG => ?_)
      replace hG := fp_memH eM_5 hG
      refine lv_iconst (v := (nI 1)) hx hb dX1_add_48 (by decide) ?_
      exact fp_iretz E hG rfl (fp_pr1 h) (fp_pr2 h) dX1_add_49
    · replace h := fp_ifF q h
      exact w_X1_add_16 E   _ hG (lv_sub hl [] rfl) h
theorem c_X1_add (l : Launch) (D : va_G) (G : Nat → ClassId) (B : Nat) {M : fp_Mem}  {p1 : Int32} {p2 : Int32} {r : Int32} {M' : fp_Mem}  (h : m_X1_add M p1 p2 = some (r, M')) : Met l yX1_add (Cond.code yX1_add cX1_add 3 (some .boolean) :: fp_T) rm_X1_add (va_Pc [.ref (B + 44), .int p1, .int p2] (fp_GS D G B M)) (fp_Qi D G B r M') 0 0 (fp_A B) :=
  fp_met (own := RX1) (by decide) rfl (Nat.le_of_ble_eq_true rfl) (fun E hG hl => w_X1_add_0 E  hG hl h)
abbrev rm_X1_firstWrong : Room := { frames := 0, cells := 0, slots := 0, locals := 0 }
theorem cv_X1_firstWrong : fp_CV yX1_firstWrong cX1_firstWrong 4 (some .int) 1 := ⟨tw_772, tw_9, by decide, by decide +kernel⟩
set_option maxHeartbeats 2000000 in
theorem w_X1_firstWrong_44 {p : Program} {l : Launch} {e : Env} {s : State} {m : MethodId} {args : Array Value} {below : List Frame} {meth : Method} {c : Code} {D : va_G} {G : Nat → ClassId} {B : Nat} {M : fp_Mem} {k1 : Nat} {K2 : Int32 → Option (Int32)} {r : Int32} (E : fp_EV p s m args meth c cX1_firstWrong 4 RX1 (some .int) D G) (hk1 : fp_is9 k1) (HK2 : ∀ (wv2 : Int32) {H : Heap} {locs : List Loc} {ls : Array Slot}, fp_H D G B s M H locs → lv_has ls 4 [(0, .ref (B + 44)), (1, .ref (B + k1)), (2, .int wv2)] → K2 wv2 = some r → W p l e rm_X1_firstWrong s m args below meth c H locs 0 0 (MQ below (fp_Qi D G B r M) args s 0 0 (fp_A B)) (F0 m 2 ls [])) (v2 : Int32) {H : Heap} {locs : List Loc} {ls : Array Slot} (hG : fp_H D G B s M H locs) (hl : lv_has ls 4 [(0, .ref (B + 44)), (1, .ref (B + k1)), (2, .int v2)]) (h : m_X1_firstWrong_44 M k1 K2 v2 = some r) : W p l e rm_X1_firstWrong s m args below meth c H locs 0 0 (MQ below (fp_Qi D G B r M) args s 0 0 (fp_A B)) (F0 m 44 ls []) := by
  have hx := E.1
  have hb := E.2.1
  have hown := E.2.2.2.1
  unfold m_X1_firstWrong_44 at h
  obtain ⟨x_1, ex_1, h⟩ := fp_lt_s h
  refine lv_iinc (v := x_1) (lv' := [(2, .int x_1), (0, .ref (B + 44)), (1, .ref (B + k1))]) hx hb dX1_firstWrong_44 hl (k := 2) rfl (by rw [ex_1]; rfl) (by decide) rfl (fun ls hl => ?_)
  refine lv_goto (tgt := 2) hx hb dX1_firstWrong_47 (by decide) ?_
  exact HK2 _ hG (lv_sub hl [1, 2, 0] rfl) h
set_option maxHeartbeats 2000000 in
theorem w_X1_firstWrong_2 {p : Program} {l : Launch} {e : Env} {s : State} {m : MethodId} {args : Array Value} {below : List Frame} {meth : Method} {c : Code} {D : va_G} {G : Nat → ClassId} {B : Nat} {M : fp_Mem} {k1 : Nat} {r : Int32} (E : fp_EV p s m args meth c cX1_firstWrong 4 RX1 (some .int) D G) (hk1 : fp_is9 k1) : ∀ (n : Nat) (v2 : Int32) {H : Heap} {locs : List Loc} {ls : Array Slot}, fp_H D G B s M H locs → lv_has ls 4 [(0, .ref (B + 44)), (1, .ref (B + k1)), (2, .int v2)] → m_X1_firstWrong_2 M k1 n v2 = some r → W p l e rm_X1_firstWrong s m args below meth c H locs 0 0 (MQ below (fp_Qi D G B r M) args s 0 0 (fp_A B)) (F0 m 2 ls []) := by
  have hx := E.1
  have hb := E.2.1
  have hown := E.2.2.2.1
  intro n
  induction n with
  | zero =>
    intro v2 H locs ls hG hl h
    exact nomatch h
  | succ n ih =>
    have ihK := @ih
    intro v2 H locs ls hG hl h
    rw [m_X1_firstWrong_2] at h
    refine lv_iload_n hx hb dX1_firstWrong_2 rfl (lv_at hl 2 rfl) ?_
    refine lv_aload_n hx hb dX1_firstWrong_3 rfl (lv_at hl 0 rfl) ?_
    refine fp_g1_0 E hG tw_251 dX1_firstWrong_4 ?_
    refine lv_icmp_ge (tgt := 50) hx hb dX1_firstWrong_7 (by decide) (fun q => ?_) (fun q => ?_)
    · replace h := fp_ifT q h
      refine lv_iconst (v := (-1 : Int32)) hx hb dX1_firstWrong_50 (by decide) ?_
      exact fp_ireti E hG (Option.some.inj h) rfl dX1_firstWrong_51
    · replace h := fp_ifF q h
      refine lv_aload_n hx hb dX1_firstWrong_10 rfl (lv_at hl 0 rfl) ?_
      refine fp_g1_1 E hG tw_253 dX1_firstWrong_11 ?_
      refine lv_iload_n hx hb dX1_firstWrong_14 rfl (lv_at hl 2 rfl) ?_
      obtain ⟨g_2, h⟩ := fp_gd_s h
      refine fp_iald E hG fp_cc45.1 (fp_a23 fp_cc45) (fp_in_s g_2) dX1_firstWrong_15 ?_
      obtain ⟨x_3, ex_3, h⟩ := fp_lt_s h
      refine fp_top ex_3 ?_
      refine lv_istore_n (lv' := [(3, .int x_3), (0, .ref (B + 44)), (1, .ref (B + k1)), (2, .int v2)]) hx hb dX1_firstWrong_16 rfl hl (by decide) rfl (fun ls hl => ?_)
      refine lv_iload_n hx hb dX1_firstWrong_17 rfl (lv_at hl 0 rfl) ?_
      refine lv_if_lt (tgt := 44) hx hb dX1_firstWrong_18 (by decide) (fun q => ?_) (fun q => ?_)
      · replace h := fp_ifT q h
        exact w_X1_firstWrong_44 E hk1 ihK _ hG (lv_sub hl [1, 2, 3] rfl) h
      · replace h := fp_ifF q h
        refine lv_iload_n hx hb dX1_firstWrong_21 rfl (lv_at hl 0 rfl) ?_
        refine lv_bipush (v := (nI 9)) hx hb dX1_firstWrong_22 (by decide) ?_
        refine lv_icmp_ge (tgt := 44) hx hb dX1_firstWrong_24 (by decide) (fun q => ?_) (fun q => ?_)
        · replace h := fp_ifT q h
          exact w_X1_firstWrong_44 E hk1 ihK _ hG (lv_sub hl [1, 2, 3] rfl) h
        · replace h := fp_ifF q h
          refine lv_aload_n hx hb dX1_firstWrong_27 rfl (lv_at hl 2 rfl) ?_
          refine fp_g9_1 E hG hk1.1 tw_126 dX1_firstWrong_28 ?_
          refine lv_iload_n hx hb dX1_firstWrong_31 rfl (lv_at hl 0 rfl) ?_
          obtain ⟨g_4, h⟩ := fp_gd_s h
          refine fp_iald E hG (hk1.2.2).1 (fp_a20 (hk1.2.2)) (fp_in_s g_4) dX1_firstWrong_32 ?_
          refine lv_aload_n hx hb dX1_firstWrong_33 rfl (lv_at hl 1 rfl) ?_
          refine fp_g1_2 E hG tw_254 dX1_firstWrong_34 ?_
          refine lv_iload_n hx hb dX1_firstWrong_37 rfl (lv_at hl 3 rfl) ?_
          obtain ⟨g_5, h⟩ := fp_gd_s h
          refine fp_iald E hG fp_cc46.1 (fp_a23 fp_cc46) (fp_in_s g_5) dX1_firstWrong_38 ?_
          refine lv_icmp_eq (tgt := 44) hx hb dX1_firstWrong_39 (by decide) (fun q => ?_) (fun q => ?_)
          · replace h := fp_ifT q h
            exact w_X1_firstWrong_44 E hk1 ihK _ hG (lv_sub hl [1, 2, 3] rfl) h
          · replace h := fp_ifF q h
            refine lv_iload_n hx hb dX1_firstWrong_42 rfl (lv_at hl 3 rfl) ?_
            exact fp_ireti E hG (Option.some.inj h) rfl dX1_firstWrong_43
set_option maxHeartbeats 2000000 in
theorem w_X1_firstWrong_0 {p : Program} {l : Launch} {e : Env} {s : State} {m : MethodId} {args : Array Value} {below : List Frame} {meth : Method} {c : Code} {D : va_G} {G : Nat → ClassId} {B : Nat} {M : fp_Mem} {k1 : Nat} {r : Int32} (E : fp_EV p s m args meth c cX1_firstWrong 4 RX1 (some .int) D G) (hk1 : fp_is9 k1) {H : Heap} {locs : List Loc} {ls : Array Slot} (hG : fp_H D G B s M H locs) (hl : lv_has ls 4 [(0, .ref (B + 44)), (1, .ref (B + k1))]) (h : m_X1_firstWrong M k1 = some r) : W p l e rm_X1_firstWrong s m args below meth c H locs 0 0 (MQ below (fp_Qi D G B r M) args s 0 0 (fp_A B)) (F0 m 0 ls []) := by
  have hx := E.1
  have hb := E.2.1
  have hown := E.2.2.2.1
  unfold m_X1_firstWrong at h
  refine lv_iconst (v := (nI 0)) hx hb dX1_firstWrong_0 (by decide) ?_
  refine lv_istore_n (lv' := [(2, .int (nI 0)), (0, .ref (B + 44)), (1, .ref (B + k1))]) hx hb dX1_firstWrong_1 rfl hl (by decide) rfl (fun ls hl => ?_)
  exact w_X1_firstWrong_2 E hk1  fp_fu _ hG (lv_sub hl [1, 2, 0] rfl) h
theorem c_X1_firstWrong (l : Launch) (D : va_G) (G : Nat → ClassId) (B : Nat) {M : fp_Mem} {k1 : Nat}  {r : Int32} (hk1 : fp_is9 k1) (h : m_X1_firstWrong M k1 = some r) : Met l yX1_firstWrong (Cond.code yX1_firstWrong cX1_firstWrong 4 (some .int) :: fp_T) rm_X1_firstWrong (va_Pc [.ref (B + 44), .ref (B + k1)] (fp_GS D G B M)) (fp_Qi D G B r M) 0 0 (fp_A B) :=
  fp_met (own := RX1) (by decide) rfl (Nat.le_of_ble_eq_true rfl) (fun E hG hl => w_X1_firstWrong_0 E hk1 hG hl h)

abbrev rm_X8_forget : Room := { frames := 0, cells := 0, slots := 0, locals := 0 }
theorem cv_X8_forget : fp_CV yX8_forget cX8_forget 1 none 0 := ⟨tw_443, tw_8, by decide, by decide +kernel⟩
set_option maxHeartbeats 2000000 in
theorem w_X8_forget_0 {p : Program} {l : Launch} {e : Env} {s : State} {m : MethodId} {args : Array Value} {below : List Frame} {meth : Method} {c : Code} {D : va_G} {G : Nat → ClassId} {B : Nat} {M' : fp_Mem} (E : fp_EV p s m args meth c cX8_forget 1 RX8 none D G) {M : fp_Mem} {H : Heap} {locs : List Loc} {ls : Array Slot} (hG : fp_H D G B s M H locs) (hl : lv_has ls 1 [(0, .ref (B + 43))]) (h : m_X8_forget M = some M') : W p l e rm_X8_forget s m args below meth c H locs 0 0 (MQ below (fp_Qv D G B M') args s 0 0 (fp_A B)) (F0 m 0 ls []) := by
  have hx := E.1
  have hb := E.2.1
  have hown := E.2.2.2.1
  unfold m_X8_forget at h
  refine lv_aload_n hx hb dX8_forget_0 rfl (lv_at hl 0 rfl) ?_
  refine lv_iconst (v := (nI 0)) hx hb dX8_forget_1 (by decide) ?_
  obtain ⟨M_1, eM_1, h⟩ := fp_lt_s h
  refine fp_p8_0 E hG tw_234 dX8_forget_2 (fun H locs hG => ?_)
  replace hG := fp_memH eM_1 hG
  refine lv_aload_n hx hb dX8_forget_5 rfl (lv_at hl 0 rfl) ?_
  refine lv_iconst (v := (nI 0)) hx hb dX8_forget_6 (by decide) ?_
  obtain ⟨M_2, eM_2, h⟩ := fp_lt_s h
  refine fp_p8_1 E hG tw_236 dX8_forget_7 (fun H locs hG => ?_)
  replace hG := fp_memH eM_2 hG
  refine lv_aload_n hx hb dX8_forget_10 rfl (lv_at hl 0 rfl) ?_
  refine lv_iconst (v := (nI 0)) hx hb dX8_forget_11 (by decide) ?_
  obtain ⟨M_3, eM_3, h⟩ := fp_lt_s h
  refine fp_p8_2 E hG tw_237 dX8_forget_12 (fun H locs hG => ?_)
  replace hG := fp_memH eM_3 hG
  exact fp_retv E hG (Option.some.inj h) dX8_forget_15
theorem c_X8_forget (l : Launch) (D : va_G) (G : Nat → ClassId) (B : Nat) {M : fp_Mem}   {M' : fp_Mem}  (h : m_X8_forget M = some M') : Met l yX8_forget (Cond.code yX8_forget cX8_forget 1 none :: fp_T) rm_X8_forget (va_Pc [.ref (B + 43)] (fp_GS D G B M)) (fp_Qv D G B M') 0 0 (fp_A B) :=
  fp_met (own := RX8) (by decide) rfl (Nat.le_of_ble_eq_true rfl) (fun E hG hl => w_X8_forget_0 E  hG hl h)
abbrev rm_X8_add : Room := { frames := 0, cells := 0, slots := 0, locals := 0 }
theorem cv_X8_add : fp_CV yX8_add cX8_add 3 none 2 := ⟨tw_725, tw_8, by decide, by decide +kernel⟩
set_option maxHeartbeats 2000000 in
theorem w_X8_add_31 {p : Program} {l : Launch} {e : Env} {s : State} {m : MethodId} {args : Array Value} {below : List Frame} {meth : Method} {c : Code} {D : va_G} {G : Nat → ClassId} {B : Nat} {p1 : Int32} {p2 : Int32} {M' : fp_Mem} (E : fp_EV p s m args meth c cX8_add 3 RX8 none D G) (M : fp_Mem) {H : Heap} {locs : List Loc} {ls : Array Slot} (hG : fp_H D G B s M H locs) (hl : lv_has ls 3 [(0, .ref (B + 43))]) (h : m_X8_add_31 p1 p2 M = some M') : W p l e rm_X8_add s m args below meth c H locs 0 0 (MQ below (fp_Qv D G B M') args s 0 0 (fp_A B)) (F0 m 31 ls []) := by
  have hx := E.1
  have hb := E.2.1
  have hown := E.2.2.2.1
  unfold m_X8_add_31 at h
  refine lv_aload_n hx hb dX8_add_31 rfl (lv_at hl 0 rfl) ?_
  refine lv_dup hx hb dX8_add_32 rfl ?_
  refine fp_g8_0 E hG tw_234 dX8_add_33 ?_
  refine lv_iconst (v := (nI 1)) hx hb dX8_add_36 (by decide) ?_
  refine lv_iadd hx hb dX8_add_37 ?_
  obtain ⟨M_1, eM_1, h⟩ := fp_lt_s h
  refine fp_p8_0 E hG tw_234 dX8_add_38 (fun H locs hG => ?_)
  replace hG := fp_memH eM_1 hG
  exact fp_retv E hG (Option.some.inj h) dX8_add_41
set_option maxHeartbeats 2000000 in
theorem w_X8_add_0 {p : Program} {l : Launch} {e : Env} {s : State} {m : MethodId} {args : Array Value} {below : List Frame} {meth : Method} {c : Code} {D : va_G} {G : Nat → ClassId} {B : Nat} {p1 : Int32} {p2 : Int32} {M' : fp_Mem} (E : fp_EV p s m args meth c cX8_add 3 RX8 none D G) {M : fp_Mem} {H : Heap} {locs : List Loc} {ls : Array Slot} (hG : fp_H D G B s M H locs) (hl : lv_has ls 3 [(0, .ref (B + 43)), (1, .int p1), (2, .int p2)]) (h : m_X8_add M p1 p2 = some M') : W p l e rm_X8_add s m args below meth c H locs 0 0 (MQ below (fp_Qv D G B M') args s 0 0 (fp_A B)) (F0 m 0 ls []) := by
  have hx := E.1
  have hb := E.2.1
  have hown := E.2.2.2.1
  unfold m_X8_add at h
  refine lv_iload_n hx hb dX8_add_0 rfl (lv_at hl 2 rfl) ?_
  refine lv_if_eq (tgt := 19) hx hb dX8_add_1 (by decide) (fun q => ?_) (fun q => ?_)
  · replace h := fp_ifT q h
    refine lv_aload_n hx hb dX8_add_19 rfl (lv_at hl 0 rfl) ?_
    refine lv_dup hx hb dX8_add_20 rfl ?_
    refine fp_g8_2 E hG tw_237 dX8_add_21 ?_
    refine lv_iconst (v := (nI 1)) hx hb dX8_add_24 (by decide) ?_
    refine lv_iload_n hx hb dX8_add_25 rfl (lv_at hl 1 rfl) ?_
    refine lv_ishl hx hb dX8_add_26 ?_
    refine lv_ior hx hb dX8_add_27 ?_
    obtain ⟨M_2, eM_2, h⟩ := fp_lt_s h
    refine fp_p8_2 E hG tw_237 dX8_add_28 (fun H locs hG => ?_)
    replace hG := fp_memH eM_2 hG
    exact w_X8_add_31 E   _ hG (lv_sub hl [0] rfl) h
  · replace h := fp_ifF q h
    refine lv_aload_n hx hb dX8_add_4 rfl (lv_at hl 0 rfl) ?_
    refine lv_dup hx hb dX8_add_5 rfl ?_
    refine fp_g8_1 E hG tw_236 dX8_add_6 ?_
    refine lv_iconst (v := (nI 1)) hx hb dX8_add_9 (by decide) ?_
    refine lv_iload_n hx hb dX8_add_10 rfl (lv_at hl 1 rfl) ?_
    refine lv_ishl hx hb dX8_add_11 ?_
    refine lv_ior hx hb dX8_add_12 ?_
    obtain ⟨M_3, eM_3, h⟩ := fp_lt_s h
    refine fp_p8_1 E hG tw_236 dX8_add_13 (fun H locs hG => ?_)
    replace hG := fp_memH eM_3 hG
    refine lv_goto (tgt := 31) hx hb dX8_add_16 (by decide) ?_
    exact w_X8_add_31 E   _ hG (lv_sub hl [0] rfl) h
theorem c_X8_add (l : Launch) (D : va_G) (G : Nat → ClassId) (B : Nat) {M : fp_Mem}  {p1 : Int32} {p2 : Int32} {M' : fp_Mem}  (h : m_X8_add M p1 p2 = some M') : Met l yX8_add (Cond.code yX8_add cX8_add 3 none :: fp_T) rm_X8_add (va_Pc [.ref (B + 43), .int p1, .int p2] (fp_GS D G B M)) (fp_Qv D G B M') 0 0 (fp_A B) :=
  fp_met (own := RX8) (by decide) rfl (Nat.le_of_ble_eq_true rfl) (fun E hG hl => w_X8_add_0 E  hG hl h)
abbrev rm_X8_fitting : Room := { frames := 1, cells := 0, slots := 0, locals := 21 }
theorem cv_X8_fitting : fp_CV yX8_fitting cX8_fitting 5 (some .int) 1 := ⟨tw_733, tw_8, by decide, by decide +kernel⟩
set_option maxHeartbeats 2000000 in
theorem w_X8_fitting_56 {p : Program} {l : Launch} {e : Env} {s : State} {m : MethodId} {args : Array Value} {below : List Frame} {meth : Method} {c : Code} {D : va_G} {G : Nat → ClassId} {B : Nat} {M : fp_Mem} {k1 : Nat} {K4 : Int32 → Int32 → Option (Int32)} {r : Int32} (E : fp_EV p s m args meth c cX8_fitting 5 RX8 (some .int) D G) (hk1 : fp_is2 k1) (HK4 : ∀ (wv2 : Int32) (wv3 : Int32) {H : Heap} {locs : List Loc} {ls : Array Slot}, fp_H D G B s M H locs → lv_has ls 5 [(0, .ref (B + 43)), (1, .ref (B + k1)), (2, .int wv2), (3, .int wv3)] → K4 wv2 wv3 = some r → W p l e rm_X8_fitting s m args below meth c H locs 0 0 (MQ below (fp_Qi D G B r M) args s 0 0 (fp_A B)) (F0 m 4 ls [])) (v2 : Int32) (v3 : Int32) {H : Heap} {locs : List Loc} {ls : Array Slot} (hG : fp_H D G B s M H locs) (hl : lv_has ls 5 [(0, .ref (B + 43)), (1, .ref (B + k1)), (2, .int v2), (3, .int v3)]) (h : m_X8_fitting_56 M k1 K4 v2 v3 = some r) : W p l e rm_X8_fitting s m args below meth c H locs 0 0 (MQ below (fp_Qi D G B r M) args s 0 0 (fp_A B)) (F0 m 56 ls []) := by
  have hx := E.1
  have hb := E.2.1
  have hown := E.2.2.2.1
  unfold m_X8_fitting_56 at h
  obtain ⟨x_1, ex_1, h⟩ := fp_lt_s h
  refine lv_iinc (v := x_1) (lv' := [(3, .int x_1), (0, .ref (B + 43)), (1, .ref (B + k1)), (2, .int v2)]) hx hb dX8_fitting_56 hl (k := 3) rfl (by rw [ex_1]; rfl) (by decide) rfl (fun ls hl => ?_)
  refine lv_goto (tgt := 4) hx hb dX8_fitting_59 (by decide) ?_
  exact HK4 _ _ hG (lv_sub hl [1, 2, 3, 0] rfl) h
set_option maxHeartbeats 2000000 in
theorem w_X8_fitting_4 {p : Program} {l : Launch} {e : Env} {s : State} {m : MethodId} {args : Array Value} {below : List Frame} {meth : Method} {c : Code} {D : va_G} {G : Nat → ClassId} {B : Nat} {M : fp_Mem} {k1 : Nat} {r : Int32} (E : fp_EV p s m args meth c cX8_fitting 5 RX8 (some .int) D G) (hk1 : fp_is2 k1) : ∀ (n : Nat) (v2 : Int32) (v3 : Int32) {H : Heap} {locs : List Loc} {ls : Array Slot}, fp_H D G B s M H locs → lv_has ls 5 [(0, .ref (B + 43)), (1, .ref (B + k1)), (2, .int v2), (3, .int v3)] → m_X8_fitting_4 M k1 n v2 v3 = some r → W p l e rm_X8_fitting s m args below meth c H locs 0 0 (MQ below (fp_Qi D G B r M) args s 0 0 (fp_A B)) (F0 m 4 ls []) := by
  have hx := E.1
  have hb := E.2.1
  have hown := E.2.2.2.1
  intro n
  induction n with
  | zero =>
    intro v2 v3 H locs ls hG hl h
    exact nomatch h
  | succ n ih =>
    have ihK := @ih
    intro v2 v3 H locs ls hG hl h
    rw [m_X8_fitting_4] at h
    refine lv_iload_n hx hb dX8_fitting_4 rfl (lv_at hl 3 rfl) ?_
    refine lv_aload_n hx hb dX8_fitting_5 rfl (lv_at hl 1 rfl) ?_
    refine fp_g2_0 E hG hk1.1 tw_175 dX8_fitting_6 ?_
    refine lv_icmp_ge (tgt := 62) hx hb dX8_fitting_9 (by decide) (fun q => ?_) (fun q => ?_)
    · replace h := fp_ifT q h
      refine lv_iload_n hx hb dX8_fitting_62 rfl (lv_at hl 2 rfl) ?_
      exact fp_ireti E hG (Option.some.inj h) rfl dX8_fitting_63
    · replace h := fp_ifF q h
      refine lv_aload_n hx hb dX8_fitting_12 rfl (lv_at hl 1 rfl) ?_
      refine lv_iload_n hx hb dX8_fitting_13 rfl (lv_at hl 3 rfl) ?_
      obtain ⟨r_2, c_3, h⟩ := fp_b1_s h
      refine fp_callVi (As := [.int v3]) (rest := []) E hG (c_X2_moversFrom l D G B hk1 c_3) cv_X2_moversFrom tw_734 tw_735 tw_736 ⟨rfl, rfl⟩ ⟨Nat.le_of_ble_eq_true rfl, Nat.le_of_ble_eq_true rfl⟩ (fp_recv E hG hk1.1.1 (fp_o2 hk1.1 _) rfl) rfl rfl (Nat.le_of_ble_eq_true rfl) hl.1 dX8_fitting_14 ⟨Nat.zero_le _, Nat.zero_le _⟩ (fun H locs hG => ?_)
      refine lv_istore (lv' := [(4, .int r_2), (0, .ref (B + 43)), (1, .ref (B + k1)), (2, .int v2), (3, .int v3)]) hx hb dX8_fitting_17 hl (by decide) rfl (fun ls hl => ?_)
      refine lv_aload_n hx hb dX8_fitting_19 rfl (lv_at hl 2 rfl) ?_
      refine lv_iload_n hx hb dX8_fitting_20 rfl (lv_at hl 4 rfl) ?_
      obtain ⟨r_4, c_5, h⟩ := fp_b1_s h
      refine fp_callVi (As := [.int v3]) (rest := []) E hG (c_X2_movesFrom l D G B hk1 c_5) cv_X2_movesFrom tw_738 tw_556 tw_557 ⟨rfl, rfl⟩ ⟨Nat.le_of_ble_eq_true rfl, Nat.le_of_ble_eq_true rfl⟩ (fp_recv E hG hk1.1.1 (fp_o2 hk1.1 _) rfl) rfl rfl (Nat.le_of_ble_eq_true rfl) hl.1 dX8_fitting_21 ⟨Nat.zero_le _, Nat.zero_le _⟩ (fun H locs hG => ?_)
      refine lv_iconst (v := (-1 : Int32)) hx hb dX8_fitting_24 (by decide) ?_
      refine lv_icmp_eq (tgt := 56) hx hb dX8_fitting_25 (by decide) (fun q => ?_) (fun q => ?_)
      · replace h := fp_ifT q h
        exact w_X8_fitting_56 E hk1 ihK _ _ hG (lv_sub hl [1, 2, 3, 4] rfl) h
      · replace h := fp_ifF q h
        refine lv_aload_n hx hb dX8_fitting_28 rfl (lv_at hl 1 rfl) ?_
        refine fp_g8_1 E hG tw_236 dX8_fitting_29 ?_
        refine lv_iload hx hb dX8_fitting_32 (lv_at hl 0 rfl) ?_
        refine lv_iconst (v := (-1 : Int32)) hx hb dX8_fitting_34 (by decide) ?_
        refine lv_ixor hx hb dX8_fitting_35 ?_
        refine lv_iand hx hb dX8_fitting_36 ?_
        refine lv_if_ne (tgt := 56) hx hb dX8_fitting_37 (by decide) (fun q => ?_) (fun q => ?_)
        · replace h := fp_ifF q h
          exact w_X8_fitting_56 E hk1 ihK _ _ hG (lv_sub hl [1, 2, 3, 4] rfl) h
        · replace h := fp_ifT q h
          refine lv_aload_n hx hb dX8_fitting_40 rfl (lv_at hl 1 rfl) ?_
          refine fp_g8_2 E hG tw_237 dX8_fitting_41 ?_
          refine lv_iload hx hb dX8_fitting_44 (lv_at hl 0 rfl) ?_
          refine lv_iand hx hb dX8_fitting_46 ?_
          refine lv_if_ne (tgt := 56) hx hb dX8_fitting_47 (by decide) (fun q => ?_) (fun q => ?_)
          · replace h := fp_ifF q h
            exact w_X8_fitting_56 E hk1 ihK _ _ hG (lv_sub hl [1, 2, 3, 4] rfl) h
          · replace h := fp_ifT q h
            refine lv_iload_n hx hb dX8_fitting_50 rfl (lv_at hl 3 rfl) ?_
            refine lv_iconst (v := (nI 1)) hx hb dX8_fitting_51 (by decide) ?_
            refine lv_iload_n hx hb dX8_fitting_52 rfl (lv_at hl 4 rfl) ?_
            refine lv_ishl hx hb dX8_fitting_53 ?_
            refine lv_ior hx hb dX8_fitting_54 ?_
            obtain ⟨x_6, ex_6, h⟩ := fp_lt_s h
            refine fp_top ex_6 ?_
            refine lv_istore_n (lv' := [(2, .int x_6), (4, .int r_2), (0, .ref (B + 43)), (1, .ref (B + k1)), (3, .int v3)]) hx hb dX8_fitting_55 rfl hl (by decide) rfl (fun ls hl => ?_)
            exact w_X8_fitting_56 E hk1 ihK _ _ hG (lv_sub hl [2, 3, 0, 4] rfl) h
set_option maxHeartbeats 2000000 in
theorem w_X8_fitting_0 {p : Program} {l : Launch} {e : Env} {s : State} {m : MethodId} {args : Array Value} {below : List Frame} {meth : Method} {c : Code} {D : va_G} {G : Nat → ClassId} {B : Nat} {M : fp_Mem} {k1 : Nat} {r : Int32} (E : fp_EV p s m args meth c cX8_fitting 5 RX8 (some .int) D G) (hk1 : fp_is2 k1) {H : Heap} {locs : List Loc} {ls : Array Slot} (hG : fp_H D G B s M H locs) (hl : lv_has ls 5 [(0, .ref (B + 43)), (1, .ref (B + k1))]) (h : m_X8_fitting M k1 = some r) : W p l e rm_X8_fitting s m args below meth c H locs 0 0 (MQ below (fp_Qi D G B r M) args s 0 0 (fp_A B)) (F0 m 0 ls []) := by
  have hx := E.1
  have hb := E.2.1
  have hown := E.2.2.2.1
  unfold m_X8_fitting at h
  refine lv_iconst (v := (nI 0)) hx hb dX8_fitting_0 (by decide) ?_
  refine lv_istore_n (lv' := [(2, .int (nI 0)), (0, .ref (B + 43)), (1, .ref (B + k1))]) hx hb dX8_fitting_1 rfl hl (by decide) rfl (fun ls hl => ?_)
  refine lv_iconst (v := (nI 0)) hx hb dX8_fitting_2 (by decide) ?_
  refine lv_istore_n (lv' := [(3, .int (nI 0)), (2, .int (nI 0)), (0, .ref (B + 43)), (1, .ref (B + k1))]) hx hb dX8_fitting_3 rfl hl (by decide) rfl (fun ls hl => ?_)
  exact w_X8_fitting_4 E hk1  fp_fu _ _ hG (lv_sub hl [2, 3, 1, 0] rfl) h
theorem c_X8_fitting (l : Launch) (D : va_G) (G : Nat → ClassId) (B : Nat) {M : fp_Mem} {k1 : Nat}  {r : Int32} (hk1 : fp_is2 k1) (h : m_X8_fitting M k1 = some r) : Met l yX8_fitting (Cond.code yX8_fitting cX8_fitting 5 (some .int) :: fp_T) rm_X8_fitting (va_Pc [.ref (B + 43), .ref (B + k1)] (fp_GS D G B M)) (fp_Qi D G B r M) 0 0 (fp_A B) :=
  fp_met (own := RX8) (by decide) rfl (Nat.le_of_ble_eq_true rfl) (fun E hG hl => w_X8_fitting_0 E hk1 hG hl h)
abbrev rm_X8_greatestPart : Room := { frames := 1, cells := 0, slots := 0, locals := 21 }
theorem cv_X8_greatestPart : fp_CV yX8_greatestPart cX8_greatestPart 6 (some .int) 3 := ⟨tw_751, tw_8, by decide, by decide +kernel⟩
set_option maxHeartbeats 2000000 in
theorem w_X8_greatestPart_42 {p : Program} {l : Launch} {e : Env} {s : State} {m : MethodId} {args : Array Value} {below : List Frame} {meth : Method} {c : Code} {D : va_G} {G : Nat → ClassId} {B : Nat} {M : fp_Mem} {k0 : Nat} {p1 : Int32} {p2 : Int32} {K8 : Int32 → Int32 → Int32 → Option (Int32)} {r : Int32} (E : fp_EV p s m args meth c cX8_greatestPart 6 RX8 (some .int) D G) (hk0 : fp_is2 k0) (HK8 : ∀ (wv3 : Int32) (wv4 : Int32) (wv5 : Int32) {H : Heap} {locs : List Loc} {ls : Array Slot}, fp_H D G B s M H locs → lv_has ls 6 [(0, .ref (B + k0)), (1, .int p1), (2, .int p2), (3, .int wv3), (4, .int wv4), (5, .int wv5)] → K8 wv3 wv4 wv5 = some r → W p l e rm_X8_greatestPart s m args below meth c H locs 0 0 (MQ below (fp_Qi D G B r M) args s 0 0 (fp_A B)) (F0 m 8 ls [])) (v3 : Int32) (v4 : Int32) (v5 : Int32) {H : Heap} {locs : List Loc} {ls : Array Slot} (hG : fp_H D G B s M H locs) (hl : lv_has ls 6 [(0, .ref (B + k0)), (1, .int p1), (2, .int p2), (3, .int v3), (4, .int v4), (5, .int v5)]) (h : m_X8_greatestPart_42 M k0 p1 p2 K8 v3 v4 v5 = some r) : W p l e rm_X8_greatestPart s m args below meth c H locs 0 0 (MQ below (fp_Qi D G B r M) args s 0 0 (fp_A B)) (F0 m 42 ls []) := by
  have hx := E.1
  have hb := E.2.1
  have hown := E.2.2.2.1
  unfold m_X8_greatestPart_42 at h
  obtain ⟨x_1, ex_1, h⟩ := fp_lt_s h
  refine lv_iinc (v := x_1) (lv' := [(5, .int x_1), (0, .ref (B + k0)), (1, .int p1), (2, .int p2), (3, .int v3), (4, .int v4)]) hx hb dX8_greatestPart_42 hl (k := 5) rfl (by rw [ex_1]; rfl) (by decide) rfl (fun ls hl => ?_)
  refine lv_goto (tgt := 8) hx hb dX8_greatestPart_45 (by decide) ?_
  exact HK8 _ _ _ hG (lv_sub hl [1, 2, 3, 4, 5, 0] rfl) h
set_option maxHeartbeats 2000000 in
theorem w_X8_greatestPart_8 {p : Program} {l : Launch} {e : Env} {s : State} {m : MethodId} {args : Array Value} {below : List Frame} {meth : Method} {c : Code} {D : va_G} {G : Nat → ClassId} {B : Nat} {M : fp_Mem} {k0 : Nat} {p1 : Int32} {p2 : Int32} {r : Int32} (E : fp_EV p s m args meth c cX8_greatestPart 6 RX8 (some .int) D G) (hk0 : fp_is2 k0) : ∀ (n : Nat) (v3 : Int32) (v4 : Int32) (v5 : Int32) {H : Heap} {locs : List Loc} {ls : Array Slot}, fp_H D G B s M H locs → lv_has ls 6 [(0, .ref (B + k0)), (1, .int p1), (2, .int p2), (3, .int v3), (4, .int v4), (5, .int v5)] → m_X8_greatestPart_8 M k0 p1 p2 n v3 v4 v5 = some r → W p l e rm_X8_greatestPart s m args below meth c H locs 0 0 (MQ below (fp_Qi D G B r M) args s 0 0 (fp_A B)) (F0 m 8 ls []) := by
  have hx := E.1
  have hb := E.2.1
  have hown := E.2.2.2.1
  intro n
  induction n with
  | zero =>
    intro v3 v4 v5 H locs ls hG hl h
    exact nomatch h
  | succ n ih =>
    have ihK := @ih
    intro v3 v4 v5 H locs ls hG hl h
    rw [m_X8_greatestPart_8] at h
    refine lv_iload hx hb dX8_greatestPart_8 (lv_at hl 5 rfl) ?_
    refine lv_aload_n hx hb dX8_greatestPart_10 rfl (lv_at hl 0 rfl) ?_
    refine fp_g2_0 E hG hk0.1 tw_175 dX8_greatestPart_11 ?_
    refine lv_icmp_ge (tgt := 48) hx hb dX8_greatestPart_14 (by decide) (fun q => ?_) (fun q => ?_)
    · replace h := fp_ifT q h
      refine lv_iload_n hx hb dX8_greatestPart_48 rfl (lv_at hl 3 rfl) ?_
      refine lv_iload hx hb dX8_greatestPart_49 (lv_at hl 4 rfl) ?_
      refine lv_iload_n hx hb dX8_greatestPart_51 rfl (lv_at hl 3 rfl) ?_
      refine lv_isub hx hb dX8_greatestPart_52 ?_
      refine va_mmax hx hb (E.2.2.1.trans hl.1.symm) hown (fp_tabs E tw_752) (fp_tabs E tw_643) (fp_tabs E tw_15) (fp_tabs E tw_644) (Nat.le_of_ble_eq_true rfl) (Nat.le_of_ble_eq_true rfl) (Nat.zero_le _) (Nat.zero_le _) dX8_greatestPart_53 ?_
      exact fp_ireti E hG (Option.some.inj h) rfl dX8_greatestPart_56
    · replace h := fp_ifF q h
      refine lv_iload_n hx hb dX8_greatestPart_17 rfl (lv_at hl 1 rfl) ?_
      refine lv_iload hx hb dX8_greatestPart_18 (lv_at hl 5 rfl) ?_
      refine lv_ishr hx hb dX8_greatestPart_20 ?_
      refine lv_iconst (v := (nI 1)) hx hb dX8_greatestPart_21 (by decide) ?_
      refine lv_iand hx hb dX8_greatestPart_22 ?_
      refine lv_if_eq (tgt := 42) hx hb dX8_greatestPart_23 (by decide) (fun q => ?_) (fun q => ?_)
      · replace h := fp_ifT q h
        exact w_X8_greatestPart_42 E hk0 ihK _ _ _ hG (lv_sub hl [0, 1, 2, 3, 4, 5] rfl) h
      · replace h := fp_ifF q h
        obtain ⟨x_2, ex_2, h⟩ := fp_lt_s h
        refine lv_iinc (v := x_2) (lv' := [(4, .int x_2), (0, .ref (B + k0)), (1, .int p1), (2, .int p2), (3, .int v3), (5, .int v5)]) hx hb dX8_greatestPart_26 hl (k := 4) rfl (by rw [ex_2]; rfl) (by decide) rfl (fun ls hl => ?_)
        refine lv_iload_n hx hb dX8_greatestPart_29 rfl (lv_at hl 4 rfl) ?_
        refine lv_aload_n hx hb dX8_greatestPart_30 rfl (lv_at hl 1 rfl) ?_
        refine lv_iload hx hb dX8_greatestPart_31 (lv_at hl 5 rfl) ?_
        obtain ⟨r_3, c_4, h⟩ := fp_b1_s h
        refine fp_callVi (As := [.int v5]) (rest := [.int v3]) E hG (c_X2_moversFrom l D G B hk0 c_4) cv_X2_moversFrom tw_734 tw_735 tw_736 ⟨rfl, rfl⟩ ⟨Nat.le_of_ble_eq_true rfl, Nat.le_of_ble_eq_true rfl⟩ (fp_recv E hG hk0.1.1 (fp_o2 hk0.1 _) rfl) rfl rfl (Nat.le_of_ble_eq_true rfl) hl.1 dX8_greatestPart_33 ⟨Nat.zero_le _, Nat.zero_le _⟩ (fun H locs hG => ?_)
        refine lv_iload_n hx hb dX8_greatestPart_36 rfl (lv_at hl 3 rfl) ?_
        refine lv_ishr hx hb dX8_greatestPart_37 ?_
        refine lv_iconst (v := (nI 1)) hx hb dX8_greatestPart_38 (by decide) ?_
        refine lv_iand hx hb dX8_greatestPart_39 ?_
        refine lv_iadd hx hb dX8_greatestPart_40 ?_
        obtain ⟨x_5, ex_5, h⟩ := fp_lt_s h
        refine fp_top ex_5 ?_
        refine lv_istore_n (lv' := [(3, .int x_5), (4, .int x_2), (0, .ref (B + k0)), (1, .int p1), (2, .int p2), (5, .int v5)]) hx hb dX8_greatestPart_41 rfl hl (by decide) rfl (fun ls hl => ?_)
        exact w_X8_greatestPart_42 E hk0 ihK _ _ _ hG (lv_sub hl [2, 3, 4, 0, 1, 5] rfl) h
set_option maxHeartbeats 2000000 in
theorem w_X8_greatestPart_0 {p : Program} {l : Launch} {e : Env} {s : State} {m : MethodId} {args : Array Value} {below : List Frame} {meth : Method} {c : Code} {D : va_G} {G : Nat → ClassId} {B : Nat} {M : fp_Mem} {k0 : Nat} {p1 : Int32} {p2 : Int32} {r : Int32} (E : fp_EV p s m args meth c cX8_greatestPart 6 RX8 (some .int) D G) (hk0 : fp_is2 k0) {H : Heap} {locs : List Loc} {ls : Array Slot} (hG : fp_H D G B s M H locs) (hl : lv_has ls 6 [(0, .ref (B + k0)), (1, .int p1), (2, .int p2)]) (h : m_X8_greatestPart M k0 p1 p2 = some r) : W p l e rm_X8_greatestPart s m args below meth c H locs 0 0 (MQ below (fp_Qi D G B r M) args s 0 0 (fp_A B)) (F0 m 0 ls []) := by
  have hx := E.1
  have hb := E.2.1
  have hown := E.2.2.2.1
  unfold m_X8_greatestPart at h
  refine lv_iconst (v := (nI 0)) hx hb dX8_greatestPart_0 (by decide) ?_
  refine lv_istore_n (lv' := [(3, .int (nI 0)), (0, .ref (B + k0)), (1, .int p1), (2, .int p2)]) hx hb dX8_greatestPart_1 rfl hl (by decide) rfl (fun ls hl => ?_)
  refine lv_iconst (v := (nI 0)) hx hb dX8_greatestPart_2 (by decide) ?_
  refine lv_istore (lv' := [(4, .int (nI 0)), (3, .int (nI 0)), (0, .ref (B + k0)), (1, .int p1), (2, .int p2)]) hx hb dX8_greatestPart_3 hl (by decide) rfl (fun ls hl => ?_)
  refine lv_iconst (v := (nI 0)) hx hb dX8_greatestPart_5 (by decide) ?_
  refine lv_istore (lv' := [(5, .int (nI 0)), (4, .int (nI 0)), (3, .int (nI 0)), (0, .ref (B + k0)), (1, .int p1), (2, .int p2)]) hx hb dX8_greatestPart_6 hl (by decide) rfl (fun ls hl => ?_)
  exact w_X8_greatestPart_8 E hk0  fp_fu _ _ _ hG (lv_sub hl [3, 4, 5, 2, 1, 0] rfl) h
theorem c_X8_greatestPart (l : Launch) (D : va_G) (G : Nat → ClassId) (B : Nat) {M : fp_Mem} {k0 : Nat} {p1 : Int32} {p2 : Int32} {r : Int32} (hk0 : fp_is2 k0) (h : m_X8_greatestPart M k0 p1 p2 = some r) : Met l yX8_greatestPart (Cond.code yX8_greatestPart cX8_greatestPart 6 (some .int) :: fp_T) rm_X8_greatestPart (va_Pc [.ref (B + k0), .int p1, .int p2] (fp_GS D G B M)) (fp_Qi D G B r M) 0 0 (fp_A B) :=
  fp_met (own := RX8) (by decide) rfl (Nat.le_of_ble_eq_true rfl) (fun E hG hl => w_X8_greatestPart_0 E hk0 hG hl h)
abbrev rm_X8_best : Room := { frames := 2, cells := 0, slots := 0, locals := 46 }
theorem cv_X8_best : fp_CV yX8_best cX8_best 7 (some .int) 1 := ⟨tw_746, tw_8, by decide, by decide +kernel⟩
set_option maxHeartbeats 2000000 in
theorem w_X8_best_49 {p : Program} {l : Launch} {e : Env} {s : State} {m : MethodId} {args : Array Value} {below : List Frame} {meth : Method} {c : Code} {D : va_G} {G : Nat → ClassId} {B : Nat} {M : fp_Mem} {k1 : Nat} {K17 : Int32 → Int32 → Int32 → Int32 → Option (Int32)} {r : Int32} (E : fp_EV p s m args meth c cX8_best 7 RX8 (some .int) D G) (hk1 : fp_is2 k1) (HK17 : ∀ (wv2 : Int32) (wv3 : Int32) (wv4 : Int32) (wv5 : Int32) {H : Heap} {locs : List Loc} {ls : Array Slot}, fp_H D G B s M H locs → lv_has ls 7 [(1, .ref (B + k1)), (2, .int wv2), (3, .int wv3), (4, .int wv4), (5, .int wv5)] → K17 wv2 wv3 wv4 wv5 = some r → W p l e rm_X8_best s m args below meth c H locs 0 0 (MQ below (fp_Qi D G B r M) args s 0 0 (fp_A B)) (F0 m 17 ls [])) (v2 : Int32) (v3 : Int32) (v4 : Int32) (v5 : Int32) {H : Heap} {locs : List Loc} {ls : Array Slot} (hG : fp_H D G B s M H locs) (hl : lv_has ls 7 [(1, .ref (B + k1)), (2, .int v2), (3, .int v3), (4, .int v4), (5, .int v5)]) (h : m_X8_best_49 M k1 K17 v2 v3 v4 v5 = some r) : W p l e rm_X8_best s m args below meth c H locs 0 0 (MQ below (fp_Qi D G B r M) args s 0 0 (fp_A B)) (F0 m 49 ls []) := by
  have hx := E.1
  have hb := E.2.1
  have hown := E.2.2.2.1
  unfold m_X8_best_49 at h
  obtain ⟨x_1, ex_1, h⟩ := fp_lt_s h
  refine lv_iinc (v := x_1) (lv' := [(5, .int x_1), (1, .ref (B + k1)), (2, .int v2), (3, .int v3), (4, .int v4)]) hx hb dX8_best_49 hl (k := 4) rfl (by rw [ex_1]; rfl) (by decide) rfl (fun ls hl => ?_)
  refine lv_goto (tgt := 17) hx hb dX8_best_52 (by decide) ?_
  exact HK17 _ _ _ _ hG (lv_sub hl [1, 2, 3, 4, 0] rfl) h
set_option maxHeartbeats 2000000 in
theorem w_X8_best_17 {p : Program} {l : Launch} {e : Env} {s : State} {m : MethodId} {args : Array Value} {below : List Frame} {meth : Method} {c : Code} {D : va_G} {G : Nat → ClassId} {B : Nat} {M : fp_Mem} {k1 : Nat} {r : Int32} (E : fp_EV p s m args meth c cX8_best 7 RX8 (some .int) D G) (hk1 : fp_is2 k1) : ∀ (n : Nat) (v2 : Int32) (v3 : Int32) (v4 : Int32) (v5 : Int32) {H : Heap} {locs : List Loc} {ls : Array Slot}, fp_H D G B s M H locs → lv_has ls 7 [(1, .ref (B + k1)), (2, .int v2), (3, .int v3), (4, .int v4), (5, .int v5)] → m_X8_best_17 M k1 n v2 v3 v4 v5 = some r → W p l e rm_X8_best s m args below meth c H locs 0 0 (MQ below (fp_Qi D G B r M) args s 0 0 (fp_A B)) (F0 m 17 ls []) := by
  have hx := E.1
  have hb := E.2.1
  have hown := E.2.2.2.1
  intro n
  induction n with
  | zero =>
    intro v2 v3 v4 v5 H locs ls hG hl h
    exact nomatch h
  | succ n ih =>
    have ihK := @ih
    intro v2 v3 v4 v5 H locs ls hG hl h
    rw [m_X8_best_17] at h
    refine lv_iload hx hb dX8_best_17 (lv_at hl 4 rfl) ?_
    refine lv_aload_n hx hb dX8_best_19 rfl (lv_at hl 0 rfl) ?_
    refine fp_g2_0 E hG hk1.1 tw_175 dX8_best_20 ?_
    refine lv_icmp_ge (tgt := 55) hx hb dX8_best_23 (by decide) (fun q => ?_) (fun q => ?_)
    · replace h := fp_ifT q h
      refine lv_iload_n hx hb dX8_best_55 rfl (lv_at hl 2 rfl) ?_
      exact fp_ireti E hG (Option.some.inj h) rfl dX8_best_56
    · replace h := fp_ifF q h
      refine lv_aload_n hx hb dX8_best_26 rfl (lv_at hl 0 rfl) ?_
      refine lv_iload_n hx hb dX8_best_27 rfl (lv_at hl 1 rfl) ?_
      refine lv_iload hx hb dX8_best_28 (lv_at hl 4 rfl) ?_
      obtain ⟨r_2, c_3, h⟩ := fp_b1_s h
      refine fp_callSi (As := [.ref (B + k1), .int v2, .int v5]) (rest := []) E hG (c_X8_greatestPart l D G B hk1 c_3) cv_X8_greatestPart tw_749 tw_750 ⟨rfl, rfl⟩ ⟨Nat.le_of_ble_eq_true rfl, Nat.le_of_ble_eq_true rfl⟩ rfl rfl (Nat.le_of_ble_eq_true rfl) hl.1 dX8_best_30 ⟨Nat.zero_le _, Nat.zero_le _⟩ (fun H locs hG => ?_)
      refine lv_istore (lv' := [(6, .int r_2), (1, .ref (B + k1)), (2, .int v2), (3, .int v3), (4, .int v4), (5, .int v5)]) hx hb dX8_best_33 hl (by decide) rfl (fun ls hl => ?_)
      refine lv_iload hx hb dX8_best_35 (lv_at hl 0 rfl) ?_
      refine lv_iload hx hb dX8_best_37 (lv_at hl 4 rfl) ?_
      refine lv_icmp_ge (tgt := 49) hx hb dX8_best_39 (by decide) (fun q => ?_) (fun q => ?_)
      · replace h := fp_ifT q h
        exact w_X8_best_49 E hk1 ihK _ _ _ _ hG (lv_sub hl [1, 2, 3, 4, 5] rfl) h
      · replace h := fp_ifF q h
        refine lv_iload hx hb dX8_best_42 (lv_at hl 0 rfl) ?_
        refine lv_istore (lv' := [(4, .int r_2), (6, .int r_2), (1, .ref (B + k1)), (2, .int v2), (3, .int v3), (5, .int v5)]) hx hb dX8_best_44 hl (by decide) rfl (fun ls hl => ?_)
        refine lv_iload hx hb dX8_best_46 (lv_at hl 5 rfl) ?_
        refine lv_istore_n (lv' := [(3, .int v5), (4, .int r_2), (6, .int r_2), (1, .ref (B + k1)), (2, .int v2), (5, .int v5)]) hx hb dX8_best_48 rfl hl (by decide) rfl (fun ls hl => ?_)
        exact w_X8_best_49 E hk1 ihK _ _ _ _ hG (lv_sub hl [3, 4, 0, 1, 5] rfl) h
set_option maxHeartbeats 2000000 in
theorem w_X8_best_0 {p : Program} {l : Launch} {e : Env} {s : State} {m : MethodId} {args : Array Value} {below : List Frame} {meth : Method} {c : Code} {D : va_G} {G : Nat → ClassId} {B : Nat} {M : fp_Mem} {k1 : Nat} {r : Int32} (E : fp_EV p s m args meth c cX8_best 7 RX8 (some .int) D G) (hk1 : fp_is2 k1) {H : Heap} {locs : List Loc} {ls : Array Slot} (hG : fp_H D G B s M H locs) (hl : lv_has ls 7 [(0, .ref (B + 43)), (1, .ref (B + k1))]) (h : m_X8_best M k1 = some r) : W p l e rm_X8_best s m args below meth c H locs 0 0 (MQ below (fp_Qi D G B r M) args s 0 0 (fp_A B)) (F0 m 0 ls []) := by
  have hx := E.1
  have hb := E.2.1
  have hown := E.2.2.2.1
  unfold m_X8_best at h
  refine lv_aload_n hx hb dX8_best_0 rfl (lv_at hl 0 rfl) ?_
  refine lv_aload_n hx hb dX8_best_1 rfl (lv_at hl 1 rfl) ?_
  obtain ⟨r_4, c_5, h⟩ := fp_b1_s h
  refine fp_callVi (As := [.ref (B + k1)]) (rest := []) E hG (c_X8_fitting l D G B hk1 c_5) cv_X8_fitting tw_747 tw_731 tw_732 ⟨rfl, rfl⟩ ⟨Nat.le_of_ble_eq_true rfl, Nat.le_of_ble_eq_true rfl⟩ (fp_recv E hG (by decide) (fp_o8 _) rfl) rfl rfl (Nat.le_of_ble_eq_true rfl) hl.1 dX8_best_2 ⟨Nat.zero_le _, Nat.zero_le _⟩ (fun H locs hG => ?_)
  refine lv_istore_n (lv' := [(2, .int r_4), (0, .ref (B + 43)), (1, .ref (B + k1))]) hx hb dX8_best_5 rfl hl (by decide) rfl (fun ls hl => ?_)
  refine lv_iconst (v := (-1 : Int32)) hx hb dX8_best_6 (by decide) ?_
  refine lv_istore_n (lv' := [(3, .int (-1 : Int32)), (2, .int r_4), (0, .ref (B + 43)), (1, .ref (B + k1))]) hx hb dX8_best_7 rfl hl (by decide) rfl (fun ls hl => ?_)
  refine lv_iload_n hx hb dX8_best_8 rfl (lv_at hl 1 rfl) ?_
  obtain ⟨r_6, c_7, h⟩ := fp_b1_s h
  refine fp_callSi (As := [.int r_4]) (rest := []) E hG (c_J6_bitCount_0f7a4 l D G B c_7) cv_J6_bitCount_0f7a4 tw_748 tw_685 ⟨rfl, rfl⟩ ⟨Nat.le_of_ble_eq_true rfl, Nat.le_of_ble_eq_true rfl⟩ rfl rfl (Nat.le_of_ble_eq_true rfl) hl.1 dX8_best_9 ⟨Nat.zero_le _, Nat.zero_le _⟩ (fun H locs hG => ?_)
  refine lv_istore (lv' := [(4, .int r_6), (3, .int (-1 : Int32)), (2, .int r_4), (0, .ref (B + 43)), (1, .ref (B + k1))]) hx hb dX8_best_12 hl (by decide) rfl (fun ls hl => ?_)
  refine lv_iconst (v := (nI 0)) hx hb dX8_best_14 (by decide) ?_
  refine lv_istore (lv' := [(5, .int (nI 0)), (4, .int r_6), (3, .int (-1 : Int32)), (2, .int r_4), (0, .ref (B + 43)), (1, .ref (B + k1))]) hx hb dX8_best_15 hl (by decide) rfl (fun ls hl => ?_)
  exact w_X8_best_17 E hk1  fp_fu _ _ _ _ hG (lv_sub hl [5, 3, 2, 1, 0] rfl) h
theorem c_X8_best (l : Launch) (D : va_G) (G : Nat → ClassId) (B : Nat) {M : fp_Mem} {k1 : Nat}  {r : Int32} (hk1 : fp_is2 k1) (h : m_X8_best M k1 = some r) : Met l yX8_best (Cond.code yX8_best cX8_best 7 (some .int) :: fp_T) rm_X8_best (va_Pc [.ref (B + 43), .ref (B + k1)] (fp_GS D G B M)) (fp_Qi D G B r M) 0 0 (fp_A B) :=
  fp_met (own := RX8) (by decide) rfl (Nat.le_of_ble_eq_true rfl) (fun E hG hl => w_X8_best_0 E hk1 hG hl h)

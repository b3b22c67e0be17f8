abbrev rm_X6_add : Room := { frames := 0, cells := 0, slots := 0, locals := 0 }
theorem cv_X6_add : fp_CV yX6_add cX6_add 2 (some .boolean) 1 := ⟨tw_355, tw_2, by decide, by decide +kernel⟩
set_option maxHeartbeats 2000000 in
theorem w_X6_add_17 {p : Program} {l : Launch} {e : Env} {s : State} {m : MethodId} {args : Array Value} {below : List Frame} {meth : Method} {c : Code} {D : va_G} {G : Nat → ClassId} {B : Nat} {p1 : Int32} {r : Int32} {M' : fp_Mem} (E : fp_EV p s m args meth c cX6_add 2 RX6 (some .boolean) D G) (M : fp_Mem) {H : Heap} {locs : List Loc} {ls : Array Slot} (hG : fp_H D G B s M H locs) (hl : lv_has ls 2 []) (h : m_X6_add_17 p1 M = some (r, M')) : W p l e rm_X6_add s m args below meth c H locs 0 0 (MQ below (fp_Qi D G B r M') args s 0 0 (fp_A B)) (F0 m 17 ls []) := by
  have hx := E.1
  have hb := E.2.1
  have hown := E.2.2.2.1
  unfold m_X6_add_17 at h
  refine lv_iconst (v := (nI 0)) hx hb dX6_add_17 (by decide) ?_
  exact fp_iretz E hG rfl (fp_pr1 h) (fp_pr2 h) dX6_add_18
set_option maxHeartbeats 2000000 in
theorem w_X6_add_0 {p : Program} {l : Launch} {e : Env} {s : State} {m : MethodId} {args : Array Value} {below : List Frame} {meth : Method} {c : Code} {D : va_G} {G : Nat → ClassId} {B : Nat} {p1 : Int32} {r : Int32} {M' : fp_Mem} (E : fp_EV p s m args meth c cX6_add 2 RX6 (some .boolean) D G) {M : fp_Mem} {H : Heap} {locs : List Loc} {ls : Array Slot} (hG : fp_H D G B s M H locs) (hl : lv_has ls 2 [(0, .ref (B + 1)), (1, .int p1)]) (h : m_X6_add M p1 = some (r, M')) : W p l e rm_X6_add s m args below meth c H locs 0 0 (MQ below (fp_Qi D G B r M') args s 0 0 (fp_A B)) (F0 m 0 ls []) := by
  have hx := E.1
  have hb := E.2.1
  have hown := E.2.2.2.1
  unfold m_X6_add at h
  refine lv_aload_n hx hb dX6_add_0 rfl (lv_at hl 0 rfl) ?_
  refine fp_g6_2 E hG tw_89 dX6_add_1 ?_
  refine lv_if_lt (tgt := 17) hx hb dX6_add_4 (by decide) (fun q => ?_) (fun q => ?_)
  · replace h := fp_ifT q h
    exact w_X6_add_17 E   _ hG (lv_sub hl [] rfl) h
  · replace h := fp_ifF q h
    refine lv_aload_n hx hb dX6_add_7 rfl (lv_at hl 0 rfl) ?_
    refine fp_g6_2 E hG tw_89 dX6_add_8 ?_
    refine lv_sipush (v := (nI 240)) hx hb dX6_add_11 (by decide) ?_
    refine lv_icmp_lt (tgt := 19) hx hb dX6_add_14 (by decide) (fun q => ?_) (fun q => ?_)
    · replace h := fp_ifT q h
      refine lv_aload_n hx hb dX6_add_19 rfl (lv_at hl 0 rfl) ?_
      refine fp_g6_1 E hG tw_88 dX6_add_20 ?_
      refine lv_aload_n hx hb dX6_add_23 rfl (lv_at hl 0 rfl) ?_
      refine fp_g6_2 E hG tw_89 dX6_add_24 ?_
      refine lv_iload_n hx hb dX6_add_27 rfl (lv_at hl 1 rfl) ?_
      refine lv_i2c hx hb dX6_add_28 rfl ?_
      obtain ⟨g_1, h⟩ := fp_gd_s h
      obtain ⟨M_2, eM_2, h⟩ := fp_lt_s h
      refine fp_cast E hG fp_cc7.1 (fp_a22 fp_cc7) (fp_in_s g_1) dX6_add_29 (fun H locs hG => ?_)
      replace hG := fp_memH eM_2 hG
      refine lv_aload_n hx hb dX6_add_30 rfl (lv_at hl 0 rfl) ?_
      refine lv_dup hx hb dX6_add_31 rfl ?_
      refine fp_g6_2 E hG tw_89 dX6_add_32 ?_
      refine lv_iconst (v := (nI 1)) hx hb dX6_add_35 (by decide) ?_
      refine lv_iadd hx hb dX6_add_36 ?_
      obtain ⟨M_3, eM_3, h⟩ := fp_lt_s h
      refine fp_p6_2 E hG tw_89 dX6_add_37 (fun H locs hG => ?_)
      replace hG := fp_memH eM_3 hG
      refine lv_iconst (v := (nI 1)) hx hb dX6_add_40 (by decide) ?_
      exact fp_iretz E hG rfl (fp_pr1 h) (fp_pr2 h) dX6_add_41
    · replace h := fp_ifF q h
      exact w_X6_add_17 E   _ hG (lv_sub hl [] rfl) h
theorem c_X6_add (l : Launch) (D : va_G) (G : Nat → ClassId) (B : Nat) {M : fp_Mem}  {p1 : Int32} {r : Int32} {M' : fp_Mem}  (h : m_X6_add M p1 = some (r, M')) : Met l yX6_add (Cond.code yX6_add cX6_add 2 (some .boolean) :: fp_T) rm_X6_add (va_Pc [.ref (B + 1), .int p1] (fp_GS D G B M)) (fp_Qi D G B r M') 0 0 (fp_A B) :=
  fp_met (own := RX6) (by decide) rfl (Nat.le_of_ble_eq_true rfl) (fun E hG hl => w_X6_add_0 E  hG hl h)
abbrev rm_X6_letterHere : Room := { frames := 0, cells := 0, slots := 0, locals := 0 }
theorem cv_X6_letterHere : fp_CV yX6_letterHere cX6_letterHere 1 (some .int) 0 := ⟨tw_376, tw_2, by decide, by decide +kernel⟩
set_option maxHeartbeats 2000000 in
theorem w_X6_letterHere_41 {p : Program} {l : Launch} {e : Env} {s : State} {m : MethodId} {args : Array Value} {below : List Frame} {meth : Method} {c : Code} {D : va_G} {G : Nat → ClassId} {B : Nat} {M : fp_Mem} {r : Int32} (E : fp_EV p s m args meth c cX6_letterHere 1 RX6 (some .int) D G) (s0 : Int32) {H : Heap} {locs : List Loc} {ls : Array Slot} (hG : fp_H D G B s M H locs) (hl : lv_has ls 1 []) (h : m_X6_letterHere_41 M s0 = some r) : W p l e rm_X6_letterHere s m args below meth c H locs 0 0 (MQ below (fp_Qi D G B r M) args s 0 0 (fp_A B)) (F0 m 41 ls [.int s0]) := by
  have hx := E.1
  have hb := E.2.1
  have hown := E.2.2.2.1
  unfold m_X6_letterHere_41 at h
  exact fp_ireti E hG (Option.some.inj h) rfl dX6_letterHere_41
set_option maxHeartbeats 2000000 in
theorem w_X6_letterHere_40 {p : Program} {l : Launch} {e : Env} {s : State} {m : MethodId} {args : Array Value} {below : List Frame} {meth : Method} {c : Code} {D : va_G} {G : Nat → ClassId} {B : Nat} {M : fp_Mem} {r : Int32} (E : fp_EV p s m args meth c cX6_letterHere 1 RX6 (some .int) D G) {H : Heap} {locs : List Loc} {ls : Array Slot} (hG : fp_H D G B s M H locs) (hl : lv_has ls 1 []) (h : m_X6_letterHere_40 M = some r) : W p l e rm_X6_letterHere s m args below meth c H locs 0 0 (MQ below (fp_Qi D G B r M) args s 0 0 (fp_A B)) (F0 m 40 ls []) := by
  have hx := E.1
  have hb := E.2.1
  have hown := E.2.2.2.1
  unfold m_X6_letterHere_40 at h
  refine lv_iconst (v := (-1 : Int32)) hx hb dX6_letterHere_40 (by decide) ?_
  exact w_X6_letterHere_41 E   _ hG (lv_sub hl [] rfl) h
set_option maxHeartbeats 2000000 in
theorem w_X6_letterHere_0 {p : Program} {l : Launch} {e : Env} {s : State} {m : MethodId} {args : Array Value} {below : List Frame} {meth : Method} {c : Code} {D : va_G} {G : Nat → ClassId} {B : Nat} {M : fp_Mem} {r : Int32} (E : fp_EV p s m args meth c cX6_letterHere 1 RX6 (some .int) D G) {H : Heap} {locs : List Loc} {ls : Array Slot} (hG : fp_H D G B s M H locs) (hl : lv_has ls 1 [(0, .ref (B + 1))]) (h : m_X6_letterHere M = some r) : W p l e rm_X6_letterHere s m args below meth c H locs 0 0 (MQ below (fp_Qi D G B r M) args s 0 0 (fp_A B)) (F0 m 0 ls []) := by
  have hx := E.1
  have hb := E.2.1
  have hown := E.2.2.2.1
  unfold m_X6_letterHere at h
  refine lv_aload_n hx hb dX6_letterHere_0 rfl (lv_at hl 0 rfl) ?_
  refine fp_g6_3 E hG tw_91 dX6_letterHere_1 ?_
  refine lv_if_lt (tgt := 40) hx hb dX6_letterHere_4 (by decide) (fun q => ?_) (fun q => ?_)
  · replace h := fp_ifT q h
    exact w_X6_letterHere_40 E    hG (lv_sub hl [] rfl) h
  · replace h := fp_ifF q h
    refine lv_aload_n hx hb dX6_letterHere_7 rfl (lv_at hl 0 rfl) ?_
    refine fp_g6_3 E hG tw_91 dX6_letterHere_8 ?_
    refine lv_aload_n hx hb dX6_letterHere_11 rfl (lv_at hl 0 rfl) ?_
    refine fp_g6_2 E hG tw_89 dX6_letterHere_12 ?_
    refine lv_icmp_ge (tgt := 40) hx hb dX6_letterHere_15 (by decide) (fun q => ?_) (fun q => ?_)
    · replace h := fp_ifT q h
      exact w_X6_letterHere_40 E    hG (lv_sub hl [] rfl) h
    · replace h := fp_ifF q h
      refine lv_aload_n hx hb dX6_letterHere_18 rfl (lv_at hl 0 rfl) ?_
      refine fp_g6_3 E hG tw_91 dX6_letterHere_19 ?_
      refine lv_sipush (v := (nI 240)) hx hb dX6_letterHere_22 (by decide) ?_
      refine lv_icmp_ge (tgt := 40) hx hb dX6_letterHere_25 (by decide) (fun q => ?_) (fun q => ?_)
      · replace h := fp_ifT q h
        exact w_X6_letterHere_40 E    hG (lv_sub hl [] rfl) h
      · replace h := fp_ifF q h
        refine lv_aload_n hx hb dX6_letterHere_28 rfl (lv_at hl 0 rfl) ?_
        refine fp_g6_1 E hG tw_88 dX6_letterHere_29 ?_
        refine lv_aload_n hx hb dX6_letterHere_32 rfl (lv_at hl 0 rfl) ?_
        refine fp_g6_3 E hG tw_91 dX6_letterHere_33 ?_
        obtain ⟨g_1, h⟩ := fp_gd_s h
        refine fp_cald E hG fp_cc7.1 (fp_a22 fp_cc7) (fp_in_s g_1) dX6_letterHere_36 ?_
        refine lv_goto (tgt := 41) hx hb dX6_letterHere_37 (by decide) ?_
        exact w_X6_letterHere_41 E   _ hG (lv_sub hl [] rfl) h
theorem c_X6_letterHere (l : Launch) (D : va_G) (G : Nat → ClassId) (B : Nat) {M : fp_Mem}   {r : Int32}  (h : m_X6_letterHere M = some r) : Met l yX6_letterHere (Cond.code yX6_letterHere cX6_letterHere 1 (some .int) :: fp_T) rm_X6_letterHere (va_Pc [.ref (B + 1)] (fp_GS D G B M)) (fp_Qi D G B r M) 0 0 (fp_A B) :=
  fp_met (own := RX6) (by decide) rfl (Nat.le_of_ble_eq_true rfl) (fun E hG hl => w_X6_letterHere_0 E  hG hl h)
abbrev rm_X6_skipBlanks : Room := { frames := 1, cells := 0, slots := 0, locals := 20 }
theorem cv_X6_skipBlanks : fp_CV yX6_skipBlanks cX6_skipBlanks 1 none 0 := ⟨tw_372, tw_2, by decide, by decide +kernel⟩
set_option maxHeartbeats 2000000 in
theorem w_X6_skipBlanks_33 {p : Program} {l : Launch} {e : Env} {s : State} {m : MethodId} {args : Array Value} {below : List Frame} {meth : Method} {c : Code} {D : va_G} {G : Nat → ClassId} {B : Nat} {M' : fp_Mem} (E : fp_EV p s m args meth c cX6_skipBlanks 1 RX6 none D G) (M : fp_Mem) {H : Heap} {locs : List Loc} {ls : Array Slot} (hG : fp_H D G B s M H locs) (hl : lv_has ls 1 []) (h : m_X6_skipBlanks_33 M = some M') : W p l e rm_X6_skipBlanks s m args below meth c H locs 0 0 (MQ below (fp_Qv D G B M') args s 0 0 (fp_A B)) (F0 m 33 ls []) := by
  have hx := E.1
  have hb := E.2.1
  have hown := E.2.2.2.1
  unfold m_X6_skipBlanks_33 at h
  exact fp_retv E hG (Option.some.inj h) dX6_skipBlanks_33
set_option maxHeartbeats 2000000 in
theorem w_X6_skipBlanks_0 {p : Program} {l : Launch} {e : Env} {s : State} {m : MethodId} {args : Array Value} {below : List Frame} {meth : Method} {c : Code} {D : va_G} {G : Nat → ClassId} {B : Nat} {M' : fp_Mem} (E : fp_EV p s m args meth c cX6_skipBlanks 1 RX6 none D G) : ∀ (n : Nat) (M : fp_Mem) {H : Heap} {locs : List Loc} {ls : Array Slot}, fp_H D G B s M H locs → lv_has ls 1 [(0, .ref (B + 1))] → m_X6_skipBlanks_0 n M = some M' → W p l e rm_X6_skipBlanks s m args below meth c H locs 0 0 (MQ below (fp_Qv D G B M') args s 0 0 (fp_A B)) (F0 m 0 ls []) := by
  have hx := E.1
  have hb := E.2.1
  have hown := E.2.2.2.1
  intro n
  induction n with
  | zero =>
    intro M H locs ls hG hl h
    exact nomatch h
  | succ n ih =>
    have ihK := @ih
    intro M H locs ls hG hl h
    rw [m_X6_skipBlanks_0] at h
    refine lv_aload_n hx hb dX6_skipBlanks_0 rfl (lv_at hl 0 rfl) ?_
    refine fp_g6_3 E hG tw_91 dX6_skipBlanks_1 ?_
    refine lv_aload_n hx hb dX6_skipBlanks_4 rfl (lv_at hl 0 rfl) ?_
    refine fp_g6_2 E hG tw_89 dX6_skipBlanks_5 ?_
    refine lv_icmp_ge (tgt := 33) hx hb dX6_skipBlanks_8 (by decide) (fun q => ?_) (fun q => ?_)
    · replace h := fp_ifT q h
      exact w_X6_skipBlanks_33 E   _ hG (lv_sub hl [] rfl) h
    · replace h := fp_ifF q h
      refine lv_aload_n hx hb dX6_skipBlanks_11 rfl (lv_at hl 0 rfl) ?_
      obtain ⟨r_1, c_2, h⟩ := fp_b1_s h
      refine fp_callVi (As := []) (rest := []) E hG (c_X6_letterHere l D G B c_2) cv_X6_letterHere tw_373 tw_375 ts_1 ⟨rfl, rfl⟩ ⟨Nat.le_of_ble_eq_true rfl, Nat.le_of_ble_eq_true rfl⟩ (fp_recv E hG (by decide) (fp_o6 _) rfl) rfl rfl (Nat.le_of_ble_eq_true rfl) hl.1 dX6_skipBlanks_12 ⟨Nat.zero_le _, Nat.zero_le _⟩ (fun H locs hG => ?_)
      refine lv_bipush (v := (nI 32)) hx hb dX6_skipBlanks_15 (by decide) ?_
      refine lv_icmp_ne (tgt := 33) hx hb dX6_skipBlanks_17 (by decide) (fun q => ?_) (fun q => ?_)
      · replace h := fp_ifF q h
        exact w_X6_skipBlanks_33 E   _ hG (lv_sub hl [] rfl) h
      · replace h := fp_ifT q h
        refine lv_aload_n hx hb dX6_skipBlanks_20 rfl (lv_at hl 0 rfl) ?_
        refine lv_dup hx hb dX6_skipBlanks_21 rfl ?_
        refine fp_g6_3 E hG tw_91 dX6_skipBlanks_22 ?_
        refine lv_iconst (v := (nI 1)) hx hb dX6_skipBlanks_25 (by decide) ?_
        refine lv_iadd hx hb dX6_skipBlanks_26 ?_
        obtain ⟨M_3, eM_3, h⟩ := fp_lt_s h
        refine fp_p6_3 E hG tw_91 dX6_skipBlanks_27 (fun H locs hG => ?_)
        replace hG := fp_memH eM_3 hG
        refine lv_goto (tgt := 0) hx hb dX6_skipBlanks_30 (by decide) ?_
        exact ih _ hG (lv_sub hl [0] rfl) h
theorem c_X6_skipBlanks (l : Launch) (D : va_G) (G : Nat → ClassId) (B : Nat) {M : fp_Mem}   {M' : fp_Mem}  (h : m_X6_skipBlanks M = some M') : Met l yX6_skipBlanks (Cond.code yX6_skipBlanks cX6_skipBlanks 1 none :: fp_T) rm_X6_skipBlanks (va_Pc [.ref (B + 1)] (fp_GS D G B M)) (fp_Qv D G B M') 0 0 (fp_A B) :=
  fp_met (own := RX6) (by decide) rfl (Nat.le_of_ble_eq_true rfl) (fun E hG hl => w_X6_skipBlanks_0 E  fp_fu  _ hG hl h)
abbrev rm_X6_faultOfLater : Room := { frames := 0, cells := 0, slots := 0, locals := 0 }
theorem cv_X6_faultOfLater : fp_CV yX6_faultOfLater cX6_faultOfLater 2 (some .int) 1 := ⟨tw_388, tw_2, by decide, by decide +kernel⟩
set_option maxHeartbeats 2000000 in
theorem w_X6_faultOfLater_21 {p : Program} {l : Launch} {e : Env} {s : State} {m : MethodId} {args : Array Value} {below : List Frame} {meth : Method} {c : Code} {D : va_G} {G : Nat → ClassId} {B : Nat} {M : fp_Mem} {p1 : Int32} {r : Int32} (E : fp_EV p s m args meth c cX6_faultOfLater 2 RX6 (some .int) D G) (s0 : Int32) {H : Heap} {locs : List Loc} {ls : Array Slot} (hG : fp_H D G B s M H locs) (hl : lv_has ls 2 []) (h : m_X6_faultOfLater_21 M p1 s0 = some r) : W p l e rm_X6_faultOfLater s m args below meth c H locs 0 0 (MQ below (fp_Qi D G B r M) args s 0 0 (fp_A B)) (F0 m 21 ls [.int s0]) := by
  have hx := E.1
  have hb := E.2.1
  have hown := E.2.2.2.1
  unfold m_X6_faultOfLater_21 at h
  exact fp_ireti E hG (Option.some.inj h) rfl dX6_faultOfLater_21
set_option maxHeartbeats 2000000 in
theorem w_X6_faultOfLater_0 {p : Program} {l : Launch} {e : Env} {s : State} {m : MethodId} {args : Array Value} {below : List Frame} {meth : Method} {c : Code} {D : va_G} {G : Nat → ClassId} {B : Nat} {M : fp_Mem} {p1 : Int32} {r : Int32} (E : fp_EV p s m args meth c cX6_faultOfLater 2 RX6 (some .int) D G) {H : Heap} {locs : List Loc} {ls : Array Slot} (hG : fp_H D G B s M H locs) (hl : lv_has ls 2 [(0, .ref (B + 1)), (1, .int p1)]) (h : m_X6_faultOfLater M p1 = some r) : W p l e rm_X6_faultOfLater s m args below meth c H locs 0 0 (MQ below (fp_Qi D G B r M) args s 0 0 (fp_A B)) (F0 m 0 ls []) := by
  have hx := E.1
  have hb := E.2.1
  have hown := E.2.2.2.1
  unfold m_X6_faultOfLater at h
  refine lv_aload_n hx hb dX6_faultOfLater_0 rfl (lv_at hl 0 rfl) ?_
  refine fp_g6_0 E hG tw_86 dX6_faultOfLater_1 ?_
  refine fp_g7_0 E hG fp_is7_2.1 tw_37 dX6_faultOfLater_4 ?_
  refine lv_if_ne (tgt := 12) hx hb dX6_faultOfLater_7 (by decide) (fun q => ?_) (fun q => ?_)
  · replace h := fp_ifF q h
    refine lv_iload_n hx hb dX6_faultOfLater_12 rfl (lv_at hl 1 rfl) ?_
    refine lv_if_eq (tgt := 20) hx hb dX6_faultOfLater_13 (by decide) (fun q => ?_) (fun q => ?_)
    · replace h := fp_ifT q h
      refine lv_iconst (v := (nI 0)) hx hb dX6_faultOfLater_20 (by decide) ?_
      exact w_X6_faultOfLater_21 E   _ hG (lv_sub hl [] rfl) h
    · replace h := fp_ifF q h
      refine lv_iconst (v := (nI 3)) hx hb dX6_faultOfLater_16 (by decide) ?_
      refine lv_goto (tgt := 21) hx hb dX6_faultOfLater_17 (by decide) ?_
      exact w_X6_faultOfLater_21 E   _ hG (lv_sub hl [] rfl) h
  · replace h := fp_ifT q h
    refine lv_iconst (v := (nI 1)) hx hb dX6_faultOfLater_10 (by decide) ?_
    exact fp_ireti E hG (Option.some.inj h) rfl dX6_faultOfLater_11
theorem c_X6_faultOfLater (l : Launch) (D : va_G) (G : Nat → ClassId) (B : Nat) {M : fp_Mem}  {p1 : Int32} {r : Int32}  (h : m_X6_faultOfLater M p1 = some r) : Met l yX6_faultOfLater (Cond.code yX6_faultOfLater cX6_faultOfLater 2 (some .int) :: fp_T) rm_X6_faultOfLater (va_Pc [.ref (B + 1), .int p1] (fp_GS D G B M)) (fp_Qi D G B r M) 0 0 (fp_A B) :=
  fp_met (own := RX6) (by decide) rfl (Nat.le_of_ble_eq_true rfl) (fun E hG hl => w_X6_faultOfLater_0 E  hG hl h)
abbrev rm_X6_faultOfWord : Room := { frames := 1, cells := 0, slots := 0, locals := 21 }
theorem cv_X6_faultOfWord : fp_CV yX6_faultOfWord cX6_faultOfWord 2 (some .int) 1 := ⟨tw_384, tw_2, by decide, by decide +kernel⟩
set_option maxHeartbeats 2000000 in
theorem w_X6_faultOfWord_51 {p : Program} {l : Launch} {e : Env} {s : State} {m : MethodId} {args : Array Value} {below : List Frame} {meth : Method} {c : Code} {D : va_G} {G : Nat → ClassId} {B : Nat} {M : fp_Mem} {p1 : Int32} {r : Int32} (E : fp_EV p s m args meth c cX6_faultOfWord 2 RX6 (some .int) D G) (s0 : Int32) {H : Heap} {locs : List Loc} {ls : Array Slot} (hG : fp_H D G B s M H locs) (hl : lv_has ls 2 []) (h : m_X6_faultOfWord_51 M p1 s0 = some r) : W p l e rm_X6_faultOfWord s m args below meth c H locs 0 0 (MQ below (fp_Qi D G B r M) args s 0 0 (fp_A B)) (F0 m 51 ls [.int s0]) := by
  have hx := E.1
  have hb := E.2.1
  have hown := E.2.2.2.1
  unfold m_X6_faultOfWord_51 at h
  exact fp_ireti E hG (Option.some.inj h) rfl dX6_faultOfWord_51
set_option maxHeartbeats 2000000 in
theorem w_X6_faultOfWord_70 {p : Program} {l : Launch} {e : Env} {s : State} {m : MethodId} {args : Array Value} {below : List Frame} {meth : Method} {c : Code} {D : va_G} {G : Nat → ClassId} {B : Nat} {M : fp_Mem} {p1 : Int32} {r : Int32} (E : fp_EV p s m args meth c cX6_faultOfWord 2 RX6 (some .int) D G) (s1 : Int32) {H : Heap} {locs : List Loc} {ls : Array Slot} (hG : fp_H D G B s M H locs) (hl : lv_has ls 2 []) (h : m_X6_faultOfWord_70 M p1 s1 = some r) : W p l e rm_X6_faultOfWord s m args below meth c H locs 0 0 (MQ below (fp_Qi D G B r M) args s 0 0 (fp_A B)) (F0 m 70 ls [.int s1, .ref (B + 1)]) := by
  have hx := E.1
  have hb := E.2.1
  have hown := E.2.2.2.1
  unfold m_X6_faultOfWord_70 at h
  obtain ⟨r_1, c_2, h⟩ := fp_b1_s h
  refine fp_callVi (As := [.int s1]) (rest := []) E hG (c_X6_faultOfLater l D G B c_2) cv_X6_faultOfLater tw_385 tw_387 ts_4 ⟨rfl, rfl⟩ ⟨Nat.le_of_ble_eq_true rfl, Nat.le_of_ble_eq_true rfl⟩ (fp_recv E hG (by decide) (fp_o6 _) rfl) rfl rfl (Nat.le_of_ble_eq_true rfl) hl.1 dX6_faultOfWord_70 ⟨Nat.zero_le _, Nat.zero_le _⟩ (fun H locs hG => ?_)
  exact fp_ireti E hG (Option.some.inj h) rfl dX6_faultOfWord_73
set_option maxHeartbeats 2000000 in
theorem w_X6_faultOfWord_92 {p : Program} {l : Launch} {e : Env} {s : State} {m : MethodId} {args : Array Value} {below : List Frame} {meth : Method} {c : Code} {D : va_G} {G : Nat → ClassId} {B : Nat} {M : fp_Mem} {p1 : Int32} {r : Int32} (E : fp_EV p s m args meth c cX6_faultOfWord 2 RX6 (some .int) D G) (s1 : Int32) {H : Heap} {locs : List Loc} {ls : Array Slot} (hG : fp_H D G B s M H locs) (hl : lv_has ls 2 []) (h : m_X6_faultOfWord_92 M p1 s1 = some r) : W p l e rm_X6_faultOfWord s m args below meth c H locs 0 0 (MQ below (fp_Qi D G B r M) args s 0 0 (fp_A B)) (F0 m 92 ls [.int s1, .ref (B + 1)]) := by
  have hx := E.1
  have hb := E.2.1
  have hown := E.2.2.2.1
  unfold m_X6_faultOfWord_92 at h
  obtain ⟨r_3, c_4, h⟩ := fp_b1_s h
  refine fp_callVi (As := [.int s1]) (rest := []) E hG (c_X6_faultOfLater l D G B c_4) cv_X6_faultOfLater tw_385 tw_387 ts_4 ⟨rfl, rfl⟩ ⟨Nat.le_of_ble_eq_true rfl, Nat.le_of_ble_eq_true rfl⟩ (fp_recv E hG (by decide) (fp_o6 _) rfl) rfl rfl (Nat.le_of_ble_eq_true rfl) hl.1 dX6_faultOfWord_92 ⟨Nat.zero_le _, Nat.zero_le _⟩ (fun H locs hG => ?_)
  exact fp_ireti E hG (Option.some.inj h) rfl dX6_faultOfWord_95
set_option maxHeartbeats 2000000 in
theorem w_X6_faultOfWord_0 {p : Program} {l : Launch} {e : Env} {s : State} {m : MethodId} {args : Array Value} {below : List Frame} {meth : Method} {c : Code} {D : va_G} {G : Nat → ClassId} {B : Nat} {M : fp_Mem} {p1 : Int32} {r : Int32} (E : fp_EV p s m args meth c cX6_faultOfWord 2 RX6 (some .int) D G) {H : Heap} {locs : List Loc} {ls : Array Slot} (hG : fp_H D G B s M H locs) (hl : lv_has ls 2 [(0, .ref (B + 1)), (1, .int p1)]) (h : m_X6_faultOfWord M p1 = some r) : W p l e rm_X6_faultOfWord s m args below meth c H locs 0 0 (MQ below (fp_Qi D G B r M) args s 0 0 (fp_A B)) (F0 m 0 ls []) := by
  have hx := E.1
  have hb := E.2.1
  have hown := E.2.2.2.1
  unfold m_X6_faultOfWord at h
  refine lv_iload_n hx hb dX6_faultOfWord_0 rfl (lv_at hl 1 rfl) ?_
  by_cases q1_0 : p1 = (nI 114)
  · replace h := fp_ifT q1_0 h
    refine lv_lookup (off := 35) (tgt := 36) hx hb dX6_faultOfWord_1 (by decide) (by rw [q1_0]; rfl) (by decide) ?_
    refine lv_aload_n hx hb dX6_faultOfWord_36 rfl (lv_at hl 0 rfl) ?_
    refine fp_g6_0 E hG tw_86 dX6_faultOfWord_37 ?_
    refine fp_g7_0 E hG fp_is7_2.1 tw_37 dX6_faultOfWord_40 ?_
    refine lv_if_eq (tgt := 50) hx hb dX6_faultOfWord_43 (by decide) (fun q => ?_) (fun q => ?_)
    · replace h := fp_ifT q h
      refine lv_iconst (v := (nI 0)) hx hb dX6_faultOfWord_50 (by decide) ?_
      exact w_X6_faultOfWord_51 E   _ hG (lv_sub hl [] rfl) h
    · replace h := fp_ifF q h
      refine lv_iconst (v := (nI 3)) hx hb dX6_faultOfWord_46 (by decide) ?_
      refine lv_goto (tgt := 51) hx hb dX6_faultOfWord_47 (by decide) ?_
      exact w_X6_faultOfWord_51 E   _ hG (lv_sub hl [] rfl) h
  replace h := fp_ifF q1_0 h
  by_cases q1_1 : p1 = (nI 116)
  · replace h := fp_ifT q1_1 h
    refine lv_lookup (off := 51) (tgt := 52) hx hb dX6_faultOfWord_1 (by decide) (by rw [q1_1]; rfl) (by decide) ?_
    refine lv_aload_n hx hb dX6_faultOfWord_52 rfl (lv_at hl 0 rfl) ?_
    refine lv_aload_n hx hb dX6_faultOfWord_53 rfl (lv_at hl 0 rfl) ?_
    refine fp_g6_0 E hG tw_86 dX6_faultOfWord_54 ?_
    refine fp_g7_3 E hG fp_is7_2.1 tw_51 dX6_faultOfWord_57 ?_
    refine lv_bipush (v := (nI 9)) hx hb dX6_faultOfWord_60 (by decide) ?_
    refine lv_icmp_lt (tgt := 69) hx hb dX6_faultOfWord_62 (by decide) (fun q => ?_) (fun q => ?_)
    · replace h := fp_ifT q h
      refine lv_iconst (v := (nI 0)) hx hb dX6_faultOfWord_69 (by decide) ?_
      exact w_X6_faultOfWord_70 E   _ hG (lv_sub hl [] rfl) h
    · replace h := fp_ifF q h
      refine lv_iconst (v := (nI 1)) hx hb dX6_faultOfWord_65 (by decide) ?_
      refine lv_goto (tgt := 70) hx hb dX6_faultOfWord_66 (by decide) ?_
      exact w_X6_faultOfWord_70 E   _ hG (lv_sub hl [] rfl) h
  replace h := fp_ifF q1_1 h
  by_cases q1_2 : p1 = (nI 119)
  · replace h := fp_ifT q1_2 h
    refine lv_lookup (off := 73) (tgt := 74) hx hb dX6_faultOfWord_1 (by decide) (by rw [q1_2]; rfl) (by decide) ?_
    refine lv_aload_n hx hb dX6_faultOfWord_74 rfl (lv_at hl 0 rfl) ?_
    refine lv_aload_n hx hb dX6_faultOfWord_75 rfl (lv_at hl 0 rfl) ?_
    refine fp_g6_0 E hG tw_86 dX6_faultOfWord_76 ?_
    refine fp_g7_4 E hG fp_is7_2.1 tw_54 dX6_faultOfWord_79 ?_
    refine lv_bipush (v := (nI 14)) hx hb dX6_faultOfWord_82 (by decide) ?_
    refine lv_icmp_lt (tgt := 91) hx hb dX6_faultOfWord_84 (by decide) (fun q => ?_) (fun q => ?_)
    · replace h := fp_ifT q h
      refine lv_iconst (v := (nI 0)) hx hb dX6_faultOfWord_91 (by decide) ?_
      exact w_X6_faultOfWord_92 E   _ hG (lv_sub hl [] rfl) h
    · replace h := fp_ifF q h
      refine lv_iconst (v := (nI 1)) hx hb dX6_faultOfWord_87 (by decide) ?_
      refine lv_goto (tgt := 92) hx hb dX6_faultOfWord_88 (by decide) ?_
      exact w_X6_faultOfWord_92 E   _ hG (lv_sub hl [] rfl) h
  replace h := fp_ifF q1_2 h
  refine lv_lookup (off := 95) (tgt := 96) hx hb dX6_faultOfWord_1 (by decide) (by show Op.lookupswitch.offset [(114, 35), (116, 51), (119, 73)] _ _ = _; rw [lv_osw (a := 114) q1_0 rfl, lv_osw (a := 116) q1_1 rfl, lv_osw (a := 119) q1_2 rfl]; rfl) (by decide) ?_
  refine lv_iconst (v := (nI 1)) hx hb dX6_faultOfWord_96 (by decide) ?_
  exact fp_ireti E hG (Option.some.inj h) rfl dX6_faultOfWord_97
theorem c_X6_faultOfWord (l : Launch) (D : va_G) (G : Nat → ClassId) (B : Nat) {M : fp_Mem}  {p1 : Int32} {r : Int32}  (h : m_X6_faultOfWord M p1 = some r) : Met l yX6_faultOfWord (Cond.code yX6_faultOfWord cX6_faultOfWord 2 (some .int) :: fp_T) rm_X6_faultOfWord (va_Pc [.ref (B + 1), .int p1] (fp_GS D G B M)) (fp_Qi D G B r M) 0 0 (fp_A B) :=
  fp_met (own := RX6) (by decide) rfl (Nat.le_of_ble_eq_true rfl) (fun E hG hl => w_X6_faultOfWord_0 E  hG hl h)
abbrev rm_X6_fails : Room := { frames := 0, cells := 0, slots := 0, locals := 0 }
theorem cv_X6_fails : fp_CV yX6_fails cX6_fails 3 none 2 := ⟨tw_392, tw_2, by decide, by decide +kernel⟩
set_option maxHeartbeats 2000000 in
theorem w_X6_fails_17 {p : Program} {l : Launch} {e : Env} {s : State} {m : MethodId} {args : Array Value} {below : List Frame} {meth : Method} {c : Code} {D : va_G} {G : Nat → ClassId} {B : Nat} {p1 : Int32} {p2 : Int32} {M' : fp_Mem} (E : fp_EV p s m args meth c cX6_fails 3 RX6 none D G) (M : fp_Mem) {H : Heap} {locs : List Loc} {ls : Array Slot} (hG : fp_H D G B s M H locs) (hl : lv_has ls 3 []) (h : m_X6_fails_17 p1 p2 M = some M') : W p l e rm_X6_fails s m args below meth c H locs 0 0 (MQ below (fp_Qv D G B M') args s 0 0 (fp_A B)) (F0 m 17 ls []) := by
  have hx := E.1
  have hb := E.2.1
  have hown := E.2.2.2.1
  unfold m_X6_fails_17 at h
  exact fp_retv E hG (Option.some.inj h) dX6_fails_17
set_option maxHeartbeats 2000000 in
theorem w_X6_fails_0 {p : Program} {l : Launch} {e : Env} {s : State} {m : MethodId} {args : Array Value} {below : List Frame} {meth : Method} {c : Code} {D : va_G} {G : Nat → ClassId} {B : Nat} {p1 : Int32} {p2 : Int32} {M' : fp_Mem} (E : fp_EV p s m args meth c cX6_fails 3 RX6 none D G) {M : fp_Mem} {H : Heap} {locs : List Loc} {ls : Array Slot} (hG : fp_H D G B s M H locs) (hl : lv_has ls 3 [(0, .ref (B + 1)), (1, .int p1), (2, .int p2)]) (h : m_X6_fails M p1 p2 = some M') : W p l e rm_X6_fails s m args below meth c H locs 0 0 (MQ below (fp_Qv D G B M') args s 0 0 (fp_A B)) (F0 m 0 ls []) := by
  have hx := E.1
  have hb := E.2.1
  have hown := E.2.2.2.1
  unfold m_X6_fails at h
  refine lv_aload_n hx hb dX6_fails_0 rfl (lv_at hl 0 rfl) ?_
  refine fp_g6_5 E hG tw_93 dX6_fails_1 ?_
  refine lv_if_ne (tgt := 17) hx hb dX6_fails_4 (by decide) (fun q => ?_) (fun q => ?_)
  · replace h := fp_ifF q h
    exact w_X6_fails_17 E   _ hG (lv_sub hl [] rfl) h
  · replace h := fp_ifT q h
    refine lv_aload_n hx hb dX6_fails_7 rfl (lv_at hl 0 rfl) ?_
    refine lv_iload_n hx hb dX6_fails_8 rfl (lv_at hl 1 rfl) ?_
    obtain ⟨M_1, eM_1, h⟩ := fp_lt_s h
    refine fp_p6_5 E hG tw_93 dX6_fails_9 (fun H locs hG => ?_)
    replace hG := fp_memH eM_1 hG
    refine lv_aload_n hx hb dX6_fails_12 rfl (lv_at hl 0 rfl) ?_
    refine lv_iload_n hx hb dX6_fails_13 rfl (lv_at hl 2 rfl) ?_
    obtain ⟨M_2, eM_2, h⟩ := fp_lt_s h
    refine fp_p6_6 E hG tw_95 dX6_fails_14 (fun H locs hG => ?_)
    replace hG := fp_memH eM_2 hG
    exact w_X6_fails_17 E   _ hG (lv_sub hl [] rfl) h
theorem c_X6_fails (l : Launch) (D : va_G) (G : Nat → ClassId) (B : Nat) {M : fp_Mem}  {p1 : Int32} {p2 : Int32} {M' : fp_Mem}  (h : m_X6_fails M p1 p2 = some M') : Met l yX6_fails (Cond.code yX6_fails cX6_fails 3 none :: fp_T) rm_X6_fails (va_Pc [.ref (B + 1), .int p1, .int p2] (fp_GS D G B M)) (fp_Qv D G B M') 0 0 (fp_A B) :=
  fp_met (own := RX6) (by decide) rfl (Nat.le_of_ble_eq_true rfl) (fun E hG hl => w_X6_fails_0 E  hG hl h)
abbrev rm_X6_isFigure : Room := { frames := 0, cells := 0, slots := 0, locals := 0 }
theorem cv_X6_isFigure : fp_CV yX6_isFigure cX6_isFigure 1 (some .boolean) 1 := ⟨tw_403, tw_2, by decide, by decide +kernel⟩
set_option maxHeartbeats 2000000 in
theorem w_X6_isFigure_17 {p : Program} {l : Launch} {e : Env} {s : State} {m : MethodId} {args : Array Value} {below : List Frame} {meth : Method} {c : Code} {D : va_G} {G : Nat → ClassId} {B : Nat} {M : fp_Mem} {p0 : Int32} {r : Int32} (E : fp_EV p s m args meth c cX6_isFigure 1 RX6 (some .boolean) D G) (s0 : Int32) {H : Heap} {locs : List Loc} {ls : Array Slot} (hG : fp_H D G B s M H locs) (hl : lv_has ls 1 []) (h : m_X6_isFigure_17 M p0 s0 = some r) : W p l e rm_X6_isFigure s m args below meth c H locs 0 0 (MQ below (fp_Qi D G B r M) args s 0 0 (fp_A B)) (F0 m 17 ls [.int s0]) := by
  have hx := E.1
  have hb := E.2.1
  have hown := E.2.2.2.1
  unfold m_X6_isFigure_17 at h
  obtain ⟨g_1, h⟩ := fp_gd_s h
  exact fp_iretz E hG g_1 (Option.some.inj h) rfl dX6_isFigure_17
set_option maxHeartbeats 2000000 in
theorem w_X6_isFigure_16 {p : Program} {l : Launch} {e : Env} {s : State} {m : MethodId} {args : Array Value} {below : List Frame} {meth : Method} {c : Code} {D : va_G} {G : Nat → ClassId} {B : Nat} {M : fp_Mem} {p0 : Int32} {r : Int32} (E : fp_EV p s m args meth c cX6_isFigure 1 RX6 (some .boolean) D G) {H : Heap} {locs : List Loc} {ls : Array Slot} (hG : fp_H D G B s M H locs) (hl : lv_has ls 1 []) (h : m_X6_isFigure_16 M p0 = some r) : W p l e rm_X6_isFigure s m args below meth c H locs 0 0 (MQ below (fp_Qi D G B r M) args s 0 0 (fp_A B)) (F0 m 16 ls []) := by
  have hx := E.1
  have hb := E.2.1
  have hown := E.2.2.2.1
  unfold m_X6_isFigure_16 at h
  refine lv_iconst (v := (nI 0)) hx hb dX6_isFigure_16 (by decide) ?_
  exact w_X6_isFigure_17 E   _ hG (lv_sub hl [] rfl) h
set_option maxHeartbeats 2000000 in
theorem w_X6_isFigure_0 {p : Program} {l : Launch} {e : Env} {s : State} {m : MethodId} {args : Array Value} {below : List Frame} {meth : Method} {c : Code} {D : va_G} {G : Nat → ClassId} {B : Nat} {M : fp_Mem} {p0 : Int32} {r : Int32} (E : fp_EV p s m args meth c cX6_isFigure 1 RX6 (some .boolean) D G) {H : Heap} {locs : List Loc} {ls : Array Slot} (hG : fp_H D G B s M H locs) (hl : lv_has ls 1 [(0, .int p0)]) (h : m_X6_isFigure M p0 = some r) : W p l e rm_X6_isFigure s m args below meth c H locs 0 0 (MQ below (fp_Qi D G B r M) args s 0 0 (fp_A B)) (F0 m 0 ls []) := by
  have hx := E.1
  have hb := E.2.1
  have hown := E.2.2.2.1
  unfold m_X6_isFigure at h
  refine lv_iload_n hx hb dX6_isFigure_0 rfl (lv_at hl 0 rfl) ?_
  refine lv_bipush (v := (nI 48)) hx hb dX6_isFigure_1 (by decide) ?_
  refine lv_icmp_lt (tgt := 16) hx hb dX6_isFigure_3 (by decide) (fun q => ?_) (fun q => ?_)
  · replace h := fp_ifT q h
    exact w_X6_isFigure_16 E    hG (lv_sub hl [] rfl) h
  · replace h := fp_ifF q h
    refine lv_iload_n hx hb dX6_isFigure_6 rfl (lv_at hl 0 rfl) ?_
    refine lv_bipush (v := (nI 57)) hx hb dX6_isFigure_7 (by decide) ?_
    refine lv_icmp_gt (tgt := 16) hx hb dX6_isFigure_9 (by decide) (fun q => ?_) (fun q => ?_)
    · replace h := fp_ifT q h
      exact w_X6_isFigure_16 E    hG (lv_sub hl [] rfl) h
    · replace h := fp_ifF q h
      refine lv_iconst (v := (nI 1)) hx hb dX6_isFigure_12 (by decide) ?_
      refine lv_goto (tgt := 17) hx hb dX6_isFigure_13 (by decide) ?_
      exact w_X6_isFigure_17 E   _ hG (lv_sub hl [] rfl) h
theorem c_X6_isFigure (l : Launch) (D : va_G) (G : Nat → ClassId) (B : Nat) {M : fp_Mem}  {p0 : Int32} {r : Int32}  (h : m_X6_isFigure M p0 = some r) : Met l yX6_isFigure (Cond.code yX6_isFigure cX6_isFigure 1 (some .boolean) :: fp_T) rm_X6_isFigure (va_Pc [.int p0] (fp_GS D G B M)) (fp_Qi D G B r M) 0 0 (fp_A B) :=
  fp_met (own := RX6) (by decide) rfl (Nat.le_of_ble_eq_true rfl) (fun E hG hl => w_X6_isFigure_0 E  hG hl h)
abbrev rm_X6_number : Room := { frames := 2, cells := 0, slots := 0, locals := 40 }
theorem cv_X6_number : fp_CV yX6_number cX6_number 5 (some .int) 2 := ⟨tw_400, tw_2, by decide, by decide +kernel⟩
set_option maxHeartbeats 2000000 in
theorem w_X6_number_123 {p : Program} {l : Launch} {e : Env} {s : State} {m : MethodId} {args : Array Value} {below : List Frame} {meth : Method} {c : Code} {D : va_G} {G : Nat → ClassId} {B : Nat} {p1 : Int32} {p2 : Int32} {r : Int32} {M' : fp_Mem} (E : fp_EV p s m args meth c cX6_number 5 RX6 (some .int) D G) (v3 : Int32) (M : fp_Mem) {H : Heap} {locs : List Loc} {ls : Array Slot} (hG : fp_H D G B s M H locs) (hl : lv_has ls 5 [(3, .int v3)]) (h : m_X6_number_123 p1 p2 v3 M = some (r, M')) : W p l e rm_X6_number s m args below meth c H locs 0 0 (MQ below (fp_Qi D G B r M') args s 0 0 (fp_A B)) (F0 m 123 ls []) := by
  have hx := E.1
  have hb := E.2.1
  have hown := E.2.2.2.1
  unfold m_X6_number_123 at h
  refine lv_iload_n hx hb dX6_number_123 rfl (lv_at hl 0 rfl) ?_
  exact fp_ireti E hG (fp_pr1 h) (fp_pr2 h) dX6_number_124
set_option maxHeartbeats 2000000 in
theorem w_X6_number_114 {p : Program} {l : Launch} {e : Env} {s : State} {m : MethodId} {args : Array Value} {below : List Frame} {meth : Method} {c : Code} {D : va_G} {G : Nat → ClassId} {B : Nat} {p1 : Int32} {p2 : Int32} {r : Int32} {M' : fp_Mem} (E : fp_EV p s m args meth c cX6_number 5 RX6 (some .int) D G) (v3 : Int32) (M : fp_Mem) {H : Heap} {locs : List Loc} {ls : Array Slot} (hG : fp_H D G B s M H locs) (hl : lv_has ls 5 [(0, .ref (B + 1)), (3, .int v3)]) (h : m_X6_number_114 p1 p2 v3 M = some (r, M')) : W p l e rm_X6_number s m args below meth c H locs 0 0 (MQ below (fp_Qi D G B r M') args s 0 0 (fp_A B)) (F0 m 114 ls []) := by
  have hx := E.1
  have hb := E.2.1
  have hown := E.2.2.2.1
  unfold m_X6_number_114 at h
  refine lv_aload_n hx hb dX6_number_114 rfl (lv_at hl 0 rfl) ?_
  refine lv_iconst (v := (nI 2)) hx hb dX6_number_115 (by decide) ?_
  refine lv_aload_n hx hb dX6_number_116 rfl (lv_at hl 0 rfl) ?_
  refine fp_g6_4 E hG tw_92 dX6_number_117 ?_
  obtain ⟨M_1, c_2, h⟩ := fp_b1_s h
  refine fp_callVv (As := [.int (nI 2), .int (M 1 4)]) (rest := []) E hG (c_X6_fails l D G B c_2) cv_X6_fails tw_389 tw_391 ts_5 ⟨rfl, rfl⟩ ⟨Nat.le_of_ble_eq_true rfl, Nat.le_of_ble_eq_true rfl⟩ (fp_recv E hG (by decide) (fp_o6 _) rfl) rfl rfl (Nat.le_of_ble_eq_true rfl) hl.1 dX6_number_120 ⟨Nat.zero_le _, Nat.zero_le _⟩ (fun H locs hG => ?_)
  exact w_X6_number_123 E   _ _ hG (lv_sub hl [1] rfl) h
set_option maxHeartbeats 2000000 in
theorem w_X6_number_98 {p : Program} {l : Launch} {e : Env} {s : State} {m : MethodId} {args : Array Value} {below : List Frame} {meth : Method} {c : Code} {D : va_G} {G : Nat → ClassId} {B : Nat} {p1 : Int32} {p2 : Int32} {r : Int32} {M' : fp_Mem} (E : fp_EV p s m args meth c cX6_number 5 RX6 (some .int) D G) (v3 : Int32) (v4 : Int32) (M : fp_Mem) {H : Heap} {locs : List Loc} {ls : Array Slot} (hG : fp_H D G B s M H locs) (hl : lv_has ls 5 [(0, .ref (B + 1)), (1, .int p1), (2, .int p2), (3, .int v3), (4, .int v4)]) (h : m_X6_number_98 p1 p2 v3 v4 M = some (r, M')) : W p l e rm_X6_number s m args below meth c H locs 0 0 (MQ below (fp_Qi D G B r M') args s 0 0 (fp_A B)) (F0 m 98 ls []) := by
  have hx := E.1
  have hb := E.2.1
  have hown := E.2.2.2.1
  unfold m_X6_number_98 at h
  refine lv_iload hx hb dX6_number_98 (lv_at hl 4 rfl) ?_
  refine lv_iconst (v := (nI 3)) hx hb dX6_number_100 (by decide) ?_
  refine lv_icmp_gt (tgt := 114) hx hb dX6_number_101 (by decide) (fun q => ?_) (fun q => ?_)
  · replace h := fp_ifT q h
    exact w_X6_number_114 E   _ _ hG (lv_sub hl [0, 3] rfl) h
  · replace h := fp_ifF q h
    refine lv_iload_n hx hb dX6_number_104 rfl (lv_at hl 3 rfl) ?_
    refine lv_iload_n hx hb dX6_number_105 rfl (lv_at hl 1 rfl) ?_
    refine lv_icmp_lt (tgt := 114) hx hb dX6_number_106 (by decide) (fun q => ?_) (fun q => ?_)
    · replace h := fp_ifT q h
      exact w_X6_number_114 E   _ _ hG (lv_sub hl [0, 3] rfl) h
    · replace h := fp_ifF q h
      refine lv_iload_n hx hb dX6_number_109 rfl (lv_at hl 3 rfl) ?_
      refine lv_iload_n hx hb dX6_number_110 rfl (lv_at hl 2 rfl) ?_
      refine lv_icmp_le (tgt := 123) hx hb dX6_number_111 (by decide) (fun q => ?_) (fun q => ?_)
      · replace h := fp_ifT q h
        exact w_X6_number_123 E   _ _ hG (lv_sub hl [3] rfl) h
      · replace h := fp_ifF q h
        exact w_X6_number_114 E   _ _ hG (lv_sub hl [0, 3] rfl) h
set_option maxHeartbeats 2000000 in
theorem w_X6_number_84 {p : Program} {l : Launch} {e : Env} {s : State} {m : MethodId} {args : Array Value} {below : List Frame} {meth : Method} {c : Code} {D : va_G} {G : Nat → ClassId} {B : Nat} {p1 : Int32} {p2 : Int32} {K38 : Int32 → Int32 → fp_Mem → Option (Int32 × fp_Mem)} {r : Int32} {M' : fp_Mem} (E : fp_EV p s m args meth c cX6_number 5 RX6 (some .int) D G) (HK38 : ∀ (wv3 : Int32) (wv4 : Int32) (wM : fp_Mem) {H : Heap} {locs : List Loc} {ls : Array Slot}, fp_H D G B s wM H locs → lv_has ls 5 [(0, .ref (B + 1)), (1, .int p1), (2, .int p2), (3, .int wv3), (4, .int wv4)] → K38 wv3 wv4 wM = some (r, M') → W p l e rm_X6_number s m args below meth c H locs 0 0 (MQ below (fp_Qi D G B r M') args s 0 0 (fp_A B)) (F0 m 38 ls [])) (v4 : Int32) (s0 : Int32) (M : fp_Mem) {H : Heap} {locs : List Loc} {ls : Array Slot} (hG : fp_H D G B s M H locs) (hl : lv_has ls 5 [(0, .ref (B + 1)), (1, .int p1), (2, .int p2), (4, .int v4)]) (h : m_X6_number_84 p1 p2 K38 v4 s0 M = some (r, M')) : W p l e rm_X6_number s m args below meth c H locs 0 0 (MQ below (fp_Qi D G B r M') args s 0 0 (fp_A B)) (F0 m 84 ls [.int s0]) := by
  have hx := E.1
  have hb := E.2.1
  have hown := E.2.2.2.1
  unfold m_X6_number_84 at h
  refine lv_istore_n (lv' := [(3, .int s0), (0, .ref (B + 1)), (1, .int p1), (2, .int p2), (4, .int v4)]) hx hb dX6_number_84 rfl hl (by decide) rfl (fun ls hl => ?_)
  refine lv_aload_n hx hb dX6_number_85 rfl (lv_at hl 1 rfl) ?_
  refine lv_dup hx hb dX6_number_86 rfl ?_
  refine fp_g6_3 E hG tw_91 dX6_number_87 ?_
  refine lv_iconst (v := (nI 1)) hx hb dX6_number_90 (by decide) ?_
  refine lv_iadd hx hb dX6_number_91 ?_
  obtain ⟨M_3, eM_3, h⟩ := fp_lt_s h
  refine fp_p6_3 E hG tw_91 dX6_number_92 (fun H locs hG => ?_)
  replace hG := fp_memH eM_3 hG
  refine lv_goto (tgt := 38) hx hb dX6_number_95 (by decide) ?_
  exact HK38 _ _ _ hG (lv_sub hl [1, 2, 3, 0, 4] rfl) h
set_option maxHeartbeats 2000000 in
theorem w_X6_number_38 {p : Program} {l : Launch} {e : Env} {s : State} {m : MethodId} {args : Array Value} {below : List Frame} {meth : Method} {c : Code} {D : va_G} {G : Nat → ClassId} {B : Nat} {p1 : Int32} {p2 : Int32} {r : Int32} {M' : fp_Mem} (E : fp_EV p s m args meth c cX6_number 5 RX6 (some .int) D G) : ∀ (n : Nat) (v3 : Int32) (v4 : Int32) (M : fp_Mem) {H : Heap} {locs : List Loc} {ls : Array Slot}, fp_H D G B s M H locs → lv_has ls 5 [(0, .ref (B + 1)), (1, .int p1), (2, .int p2), (3, .int v3), (4, .int v4)] → m_X6_number_38 p1 p2 n v3 v4 M = some (r, M') → W p l e rm_X6_number s m args below meth c H locs 0 0 (MQ below (fp_Qi D G B r M') args s 0 0 (fp_A B)) (F0 m 38 ls []) := by
  have hx := E.1
  have hb := E.2.1
  have hown := E.2.2.2.1
  intro n
  induction n with
  | zero =>
    intro v3 v4 M H locs ls hG hl h
    exact nomatch h
  | succ n ih =>
    have ihK := @ih
    intro v3 v4 M H locs ls hG hl h
    rw [m_X6_number_38] at h
    refine lv_aload_n hx hb dX6_number_38 rfl (lv_at hl 0 rfl) ?_
    refine fp_g6_3 E hG tw_91 dX6_number_39 ?_
    refine lv_aload_n hx hb dX6_number_42 rfl (lv_at hl 0 rfl) ?_
    refine fp_g6_2 E hG tw_89 dX6_number_43 ?_
    refine lv_icmp_ge (tgt := 98) hx hb dX6_number_46 (by decide) (fun q => ?_) (fun q => ?_)
    · replace h := fp_ifT q h
      exact w_X6_number_98 E   _ _ _ hG (lv_sub hl [0, 1, 2, 3, 4] rfl) h
    · replace h := fp_ifF q h
      refine lv_aload_n hx hb dX6_number_49 rfl (lv_at hl 0 rfl) ?_
      obtain ⟨r_4, c_5, h⟩ := fp_b1_s h
      refine fp_callVi (As := []) (rest := []) E hG (c_X6_letterHere l D G B c_5) cv_X6_letterHere tw_373 tw_375 ts_1 ⟨rfl, rfl⟩ ⟨Nat.le_of_ble_eq_true rfl, Nat.le_of_ble_eq_true rfl⟩ (fp_recv E hG (by decide) (fp_o6 _) rfl) rfl rfl (Nat.le_of_ble_eq_true rfl) hl.1 dX6_number_50 ⟨Nat.zero_le _, Nat.zero_le _⟩ (fun H locs hG => ?_)
      obtain ⟨r_6, c_7, h⟩ := fp_b1_s h
      refine fp_callSi (As := [.int r_4]) (rest := []) E hG (c_X6_isFigure l D G B c_7) cv_X6_isFigure tw_401 tw_402 ⟨rfl, rfl⟩ ⟨Nat.le_of_ble_eq_true rfl, Nat.le_of_ble_eq_true rfl⟩ rfl rfl (Nat.le_of_ble_eq_true rfl) hl.1 dX6_number_53 ⟨Nat.zero_le _, Nat.zero_le _⟩ (fun H locs hG => ?_)
      refine lv_if_eq (tgt := 98) hx hb dX6_number_56 (by decide) (fun q => ?_) (fun q => ?_)
      · replace h := fp_ifT q h
        exact w_X6_number_98 E   _ _ _ hG (lv_sub hl [0, 1, 2, 3, 4] rfl) h
      · replace h := fp_ifF q h
        obtain ⟨x_8, ex_8, h⟩ := fp_lt_s h
        refine lv_iinc (v := x_8) (lv' := [(4, .int x_8), (0, .ref (B + 1)), (1, .int p1), (2, .int p2), (3, .int v3)]) hx hb dX6_number_59 hl (k := 4) rfl (by rw [ex_8]; rfl) (by decide) rfl (fun ls hl => ?_)
        refine lv_iload hx hb dX6_number_62 (lv_at hl 0 rfl) ?_
        refine lv_iconst (v := (nI 3)) hx hb dX6_number_64 (by decide) ?_
        refine lv_icmp_le (tgt := 72) hx hb dX6_number_65 (by decide) (fun q => ?_) (fun q => ?_)
        · replace h := fp_ifT q h
          refine lv_iload_n hx hb dX6_number_72 rfl (lv_at hl 4 rfl) ?_
          refine lv_bipush (v := (nI 10)) hx hb dX6_number_73 (by decide) ?_
          refine lv_imul hx hb dX6_number_75 ?_
          refine lv_aload_n hx hb dX6_number_76 rfl (lv_at hl 1 rfl) ?_
          obtain ⟨r_9, c_10, h⟩ := fp_b1_s h
          refine fp_callVi (As := []) (rest := [.int (v3 * (nI 10))]) E hG (c_X6_letterHere l D G B c_10) cv_X6_letterHere tw_373 tw_375 ts_1 ⟨rfl, rfl⟩ ⟨Nat.le_of_ble_eq_true rfl, Nat.le_of_ble_eq_true rfl⟩ (fp_recv E hG (by decide) (fp_o6 _) rfl) rfl rfl (Nat.le_of_ble_eq_true rfl) hl.1 dX6_number_77 ⟨Nat.zero_le _, Nat.zero_le _⟩ (fun H locs hG => ?_)
          refine lv_bipush (v := (nI 48)) hx hb dX6_number_80 (by decide) ?_
          refine lv_isub hx hb dX6_number_82 ?_
          refine lv_iadd hx hb dX6_number_83 ?_
          exact w_X6_number_84 E  ihK _ _ _ hG (lv_sub hl [1, 2, 3, 0] rfl) h
        · replace h := fp_ifF q h
          refine lv_iconst (v := (nI 0)) hx hb dX6_number_68 (by decide) ?_
          refine lv_goto (tgt := 84) hx hb dX6_number_69 (by decide) ?_
          exact w_X6_number_84 E  ihK _ _ _ hG (lv_sub hl [1, 2, 3, 0] rfl) h
set_option maxHeartbeats 2000000 in
theorem w_X6_number_0 {p : Program} {l : Launch} {e : Env} {s : State} {m : MethodId} {args : Array Value} {below : List Frame} {meth : Method} {c : Code} {D : va_G} {G : Nat → ClassId} {B : Nat} {p1 : Int32} {p2 : Int32} {r : Int32} {M' : fp_Mem} (E : fp_EV p s m args meth c cX6_number 5 RX6 (some .int) D G) {M : fp_Mem} {H : Heap} {locs : List Loc} {ls : Array Slot} (hG : fp_H D G B s M H locs) (hl : lv_has ls 5 [(0, .ref (B + 1)), (1, .int p1), (2, .int p2)]) (h : m_X6_number M p1 p2 = some (r, M')) : W p l e rm_X6_number s m args below meth c H locs 0 0 (MQ below (fp_Qi D G B r M') args s 0 0 (fp_A B)) (F0 m 0 ls []) := by
  have hx := E.1
  have hb := E.2.1
  have hown := E.2.2.2.1
  unfold m_X6_number at h
  refine lv_aload_n hx hb dX6_number_0 rfl (lv_at hl 0 rfl) ?_
  obtain ⟨M_11, c_12, h⟩ := fp_b1_s h
  refine fp_callVv (As := []) (rest := []) E hG (c_X6_skipBlanks l D G B c_12) cv_X6_skipBlanks tw_369 tw_371 ts_0 ⟨rfl, rfl⟩ ⟨Nat.le_of_ble_eq_true rfl, Nat.le_of_ble_eq_true rfl⟩ (fp_recv E hG (by decide) (fp_o6 _) rfl) rfl rfl (Nat.le_of_ble_eq_true rfl) hl.1 dX6_number_1 ⟨Nat.zero_le _, Nat.zero_le _⟩ (fun H locs hG => ?_)
  refine lv_aload_n hx hb dX6_number_4 rfl (lv_at hl 0 rfl) ?_
  refine lv_aload_n hx hb dX6_number_5 rfl (lv_at hl 0 rfl) ?_
  refine fp_g6_3 E hG tw_91 dX6_number_6 ?_
  obtain ⟨M_13, eM_13, h⟩ := fp_lt_s h
  refine fp_p6_4 E hG tw_92 dX6_number_9 (fun H locs hG => ?_)
  replace hG := fp_memH eM_13 hG
  refine lv_aload_n hx hb dX6_number_12 rfl (lv_at hl 0 rfl) ?_
  obtain ⟨r_14, c_15, h⟩ := fp_b1_s h
  refine fp_callVi (As := []) (rest := []) E hG (c_X6_letterHere l D G B c_15) cv_X6_letterHere tw_373 tw_375 ts_1 ⟨rfl, rfl⟩ ⟨Nat.le_of_ble_eq_true rfl, Nat.le_of_ble_eq_true rfl⟩ (fp_recv E hG (by decide) (fp_o6 _) rfl) rfl rfl (Nat.le_of_ble_eq_true rfl) hl.1 dX6_number_13 ⟨Nat.zero_le _, Nat.zero_le _⟩ (fun H locs hG => ?_)
  obtain ⟨r_16, c_17, h⟩ := fp_b1_s h
  refine fp_callSi (As := [.int r_14]) (rest := []) E hG (c_X6_isFigure l D G B c_17) cv_X6_isFigure tw_401 tw_402 ⟨rfl, rfl⟩ ⟨Nat.le_of_ble_eq_true rfl, Nat.le_of_ble_eq_true rfl⟩ rfl rfl (Nat.le_of_ble_eq_true rfl) hl.1 dX6_number_16 ⟨Nat.zero_le _, Nat.zero_le _⟩ (fun H locs hG => ?_)
  refine lv_if_ne (tgt := 33) hx hb dX6_number_19 (by decide) (fun q => ?_) (fun q => ?_)
  · replace h := fp_ifF q h
    refine lv_iconst (v := (nI 0)) hx hb dX6_number_33 (by decide) ?_
    refine lv_istore_n (lv' := [(3, .int (nI 0)), (0, .ref (B + 1)), (1, .int p1), (2, .int p2)]) hx hb dX6_number_34 rfl hl (by decide) rfl (fun ls hl => ?_)
    refine lv_iconst (v := (nI 0)) hx hb dX6_number_35 (by decide) ?_
    refine lv_istore (lv' := [(4, .int (nI 0)), (3, .int (nI 0)), (0, .ref (B + 1)), (1, .int p1), (2, .int p2)]) hx hb dX6_number_36 hl (by decide) rfl (fun ls hl => ?_)
    exact w_X6_number_38 E   fp_fu _ _ _ hG (lv_sub hl [2, 3, 4, 1, 0] rfl) h
  · replace h := fp_ifT q h
    refine lv_aload_n hx hb dX6_number_22 rfl (lv_at hl 0 rfl) ?_
    refine lv_iconst (v := (nI 1)) hx hb dX6_number_23 (by decide) ?_
    refine lv_aload_n hx hb dX6_number_24 rfl (lv_at hl 0 rfl) ?_
    refine fp_g6_3 E hG tw_91 dX6_number_25 ?_
    obtain ⟨M_18, c_19, h⟩ := fp_b1_s h
    refine fp_callVv (As := [.int (nI 1), .int (M_13 1 3)]) (rest := []) E hG (c_X6_fails l D G B c_19) cv_X6_fails tw_389 tw_391 ts_5 ⟨rfl, rfl⟩ ⟨Nat.le_of_ble_eq_true rfl, Nat.le_of_ble_eq_true rfl⟩ (fp_recv E hG (by decide) (fp_o6 _) rfl) rfl rfl (Nat.le_of_ble_eq_true rfl) hl.1 dX6_number_28 ⟨Nat.zero_le _, Nat.zero_le _⟩ (fun H locs hG => ?_)
    refine lv_iload_n hx hb dX6_number_31 rfl (lv_at hl 1 rfl) ?_
    exact fp_ireti E hG (fp_pr1 h) (fp_pr2 h) dX6_number_32
theorem c_X6_number (l : Launch) (D : va_G) (G : Nat → ClassId) (B : Nat) {M : fp_Mem}  {p1 : Int32} {p2 : Int32} {r : Int32} {M' : fp_Mem}  (h : m_X6_number M p1 p2 = some (r, M')) : Met l yX6_number (Cond.code yX6_number cX6_number 5 (some .int) :: fp_T) rm_X6_number (va_Pc [.ref (B + 1), .int p1, .int p2] (fp_GS D G B M)) (fp_Qi D G B r M') 0 0 (fp_A B) :=
  fp_met (own := RX6) (by decide) rfl (Nat.le_of_ble_eq_true rfl) (fun E hG hl => w_X6_number_0 E  hG hl h)
abbrev rm_X6_readFineAndWood : Room := { frames := 3, cells := 0, slots := 0, locals := 64 }
theorem cv_X6_readFineAndWood : fp_CV yX6_readFineAndWood cX6_readFineAndWood 1 none 0 := ⟨tw_396, tw_2, by decide, by decide +kernel⟩
set_option maxHeartbeats 2000000 in
theorem w_X6_readFineAndWood_0 {p : Program} {l : Launch} {e : Env} {s : State} {m : MethodId} {args : Array Value} {below : List Frame} {meth : Method} {c : Code} {D : va_G} {G : Nat → ClassId} {B : Nat} {M' : fp_Mem} (E : fp_EV p s m args meth c cX6_readFineAndWood 1 RX6 none D G) {M : fp_Mem} {H : Heap} {locs : List Loc} {ls : Array Slot} (hG : fp_H D G B s M H locs) (hl : lv_has ls 1 [(0, .ref (B + 1))]) (h : m_X6_readFineAndWood M = some M') : W p l e rm_X6_readFineAndWood s m args below meth c H locs 0 0 (MQ below (fp_Qv D G B M') args s 0 0 (fp_A B)) (F0 m 0 ls []) := by
  have hx := E.1
  have hb := E.2.1
  have hown := E.2.2.2.1
  unfold m_X6_readFineAndWood at h
  refine lv_aload_n hx hb dX6_readFineAndWood_0 rfl (lv_at hl 0 rfl) ?_
  refine fp_g6_0 E hG tw_86 dX6_readFineAndWood_1 ?_
  refine lv_iconst (v := (nI 1)) hx hb dX6_readFineAndWood_4 (by decide) ?_
  obtain ⟨M_1, eM_1, h⟩ := fp_lt_s h
  refine fp_p7_0 E hG fp_is7_2.1 tw_37 rfl dX6_readFineAndWood_5 (fun H locs hG => ?_)
  replace hG := fp_memH eM_1 hG
  refine lv_aload_n hx hb dX6_readFineAndWood_8 rfl (lv_at hl 0 rfl) ?_
  refine fp_g6_0 E hG tw_86 dX6_readFineAndWood_9 ?_
  refine lv_aload_n hx hb dX6_readFineAndWood_12 rfl (lv_at hl 0 rfl) ?_
  refine lv_iconst (v := (nI 0)) hx hb dX6_readFineAndWood_13 (by decide) ?_
  refine lv_bipush (v := (nI 99)) hx hb dX6_readFineAndWood_14 (by decide) ?_
  obtain ⟨r_2, M_3, c_4, h⟩ := fp_b2_s h
  refine fp_callVi (As := [.int (nI 0), .int (nI 99)]) (rest := [.ref (B + 2)]) E hG (c_X6_number l D G B c_4) cv_X6_number tw_397 tw_399 ts_7 ⟨rfl, rfl⟩ ⟨Nat.le_of_ble_eq_true rfl, Nat.le_of_ble_eq_true rfl⟩ (fp_recv E hG (by decide) (fp_o6 _) rfl) rfl rfl (Nat.le_of_ble_eq_true rfl) hl.1 dX6_readFineAndWood_16 ⟨Nat.zero_le _, Nat.zero_le _⟩ (fun H locs hG => ?_)
  obtain ⟨M_5, eM_5, h⟩ := fp_lt_s h
  refine fp_p7_1 E hG fp_is7_2.1 tw_42 dX6_readFineAndWood_19 (fun H locs hG => ?_)
  replace hG := fp_memH eM_5 hG
  refine lv_aload_n hx hb dX6_readFineAndWood_22 rfl (lv_at hl 0 rfl) ?_
  refine fp_g6_0 E hG tw_86 dX6_readFineAndWood_23 ?_
  refine lv_aload_n hx hb dX6_readFineAndWood_26 rfl (lv_at hl 0 rfl) ?_
  refine lv_iconst (v := (nI 0)) hx hb dX6_readFineAndWood_27 (by decide) ?_
  refine lv_bipush (v := (nI 99)) hx hb dX6_readFineAndWood_28 (by decide) ?_
  obtain ⟨r_6, M_7, c_8, h⟩ := fp_b2_s h
  refine fp_callVi (As := [.int (nI 0), .int (nI 99)]) (rest := [.ref (B + 2)]) E hG (c_X6_number l D G B c_8) cv_X6_number tw_397 tw_399 ts_7 ⟨rfl, rfl⟩ ⟨Nat.le_of_ble_eq_true rfl, Nat.le_of_ble_eq_true rfl⟩ (fp_recv E hG (by decide) (fp_o6 _) rfl) rfl rfl (Nat.le_of_ble_eq_true rfl) hl.1 dX6_readFineAndWood_30 ⟨Nat.zero_le _, Nat.zero_le _⟩ (fun H locs hG => ?_)
  obtain ⟨M_9, eM_9, h⟩ := fp_lt_s h
  refine fp_p7_2 E hG fp_is7_2.1 tw_45 dX6_readFineAndWood_33 (fun H locs hG => ?_)
  replace hG := fp_memH eM_9 hG
  exact fp_retv E hG (Option.some.inj h) dX6_readFineAndWood_36
theorem c_X6_readFineAndWood (l : Launch) (D : va_G) (G : Nat → ClassId) (B : Nat) {M : fp_Mem}   {M' : fp_Mem}  (h : m_X6_readFineAndWood M = some M') : Met l yX6_readFineAndWood (Cond.code yX6_readFineAndWood cX6_readFineAndWood 1 none :: fp_T) rm_X6_readFineAndWood (va_Pc [.ref (B + 1)] (fp_GS D G B M)) (fp_Qv D G B M') 0 0 (fp_A B) :=
  fp_met (own := RX6) (by decide) rfl (Nat.le_of_ble_eq_true rfl) (fun E hG hl => w_X6_readFineAndWood_0 E  hG hl h)
abbrev rm_X6_readTable : Room := { frames := 3, cells := 0, slots := 0, locals := 64 }
theorem cv_X6_readTable : fp_CV yX6_readTable cX6_readTable 3 none 0 := ⟨tw_407, tw_2, by decide, by decide +kernel⟩
set_option maxHeartbeats 2000000 in
theorem w_X6_readTable_31 {p : Program} {l : Launch} {e : Env} {s : State} {m : MethodId} {args : Array Value} {below : List Frame} {meth : Method} {c : Code} {D : va_G} {G : Nat → ClassId} {B : Nat} {M' : fp_Mem} (E : fp_EV p s m args meth c cX6_readTable 3 RX6 none D G) (M : fp_Mem) {H : Heap} {locs : List Loc} {ls : Array Slot} (hG : fp_H D G B s M H locs) (hl : lv_has ls 3 []) (h : m_X6_readTable_31 M = some M') : W p l e rm_X6_readTable s m args below meth c H locs 0 0 (MQ below (fp_Qv D G B M') args s 0 0 (fp_A B)) (F0 m 31 ls []) := by
  have hx := E.1
  have hb := E.2.1
  have hown := E.2.2.2.1
  unfold m_X6_readTable_31 at h
  exact fp_retv E hG (Option.some.inj h) dX6_readTable_31
set_option maxHeartbeats 2000000 in
theorem w_X6_readTable_0 {p : Program} {l : Launch} {e : Env} {s : State} {m : MethodId} {args : Array Value} {below : List Frame} {meth : Method} {c : Code} {D : va_G} {G : Nat → ClassId} {B : Nat} {M' : fp_Mem} (E : fp_EV p s m args meth c cX6_readTable 3 RX6 none D G) {M : fp_Mem} {H : Heap} {locs : List Loc} {ls : Array Slot} (hG : fp_H D G B s M H locs) (hl : lv_has ls 3 [(0, .ref (B + 1))]) (h : m_X6_readTable M = some M') : W p l e rm_X6_readTable s m args below meth c H locs 0 0 (MQ below (fp_Qv D G B M') args s 0 0 (fp_A B)) (F0 m 0 ls []) := by
  have hx := E.1
  have hb := E.2.1
  have hown := E.2.2.2.1
  unfold m_X6_readTable at h
  refine lv_aload_n hx hb dX6_readTable_0 rfl (lv_at hl 0 rfl) ?_
  refine lv_iconst (v := (nI 1)) hx hb dX6_readTable_1 (by decide) ?_
  refine lv_bipush (v := (nI 12)) hx hb dX6_readTable_2 (by decide) ?_
  obtain ⟨r_1, M_2, c_3, h⟩ := fp_b2_s h
  refine fp_callVi (As := [.int (nI 1), .int (nI 12)]) (rest := []) E hG (c_X6_number l D G B c_3) cv_X6_number tw_397 tw_399 ts_7 ⟨rfl, rfl⟩ ⟨Nat.le_of_ble_eq_true rfl, Nat.le_of_ble_eq_true rfl⟩ (fp_recv E hG (by decide) (fp_o6 _) rfl) rfl rfl (Nat.le_of_ble_eq_true rfl) hl.1 dX6_readTable_4 ⟨Nat.zero_le _, Nat.zero_le _⟩ (fun H locs hG => ?_)
  refine lv_istore_n (lv' := [(1, .int r_1), (0, .ref (B + 1))]) hx hb dX6_readTable_7 rfl hl (by decide) rfl (fun ls hl => ?_)
  refine lv_aload_n hx hb dX6_readTable_8 rfl (lv_at hl 1 rfl) ?_
  refine lv_iconst (v := (nI 0)) hx hb dX6_readTable_9 (by decide) ?_
  refine lv_iload_n hx hb dX6_readTable_10 rfl (lv_at hl 0 rfl) ?_
  obtain ⟨r_4, M_5, c_6, h⟩ := fp_b2_s h
  refine fp_callVi (As := [.int (nI 0), .int r_1]) (rest := []) E hG (c_X6_number l D G B c_6) cv_X6_number tw_397 tw_399 ts_7 ⟨rfl, rfl⟩ ⟨Nat.le_of_ble_eq_true rfl, Nat.le_of_ble_eq_true rfl⟩ (fp_recv E hG (by decide) (fp_o6 _) rfl) rfl rfl (Nat.le_of_ble_eq_true rfl) hl.1 dX6_readTable_11 ⟨Nat.zero_le _, Nat.zero_le _⟩ (fun H locs hG => ?_)
  refine lv_istore_n (lv' := [(2, .int r_4), (1, .int r_1), (0, .ref (B + 1))]) hx hb dX6_readTable_14 rfl hl (by decide) rfl (fun ls hl => ?_)
  refine lv_aload_n hx hb dX6_readTable_15 rfl (lv_at hl 2 rfl) ?_
  refine fp_g6_5 E hG tw_93 dX6_readTable_16 ?_
  refine lv_if_ne (tgt := 31) hx hb dX6_readTable_19 (by decide) (fun q => ?_) (fun q => ?_)
  · replace h := fp_ifF q h
    exact w_X6_readTable_31 E   _ hG (lv_sub hl [] rfl) h
  · replace h := fp_ifT q h
    refine lv_aload_n hx hb dX6_readTable_22 rfl (lv_at hl 2 rfl) ?_
    refine fp_g6_0 E hG tw_86 dX6_readTable_23 ?_
    refine lv_iload_n hx hb dX6_readTable_26 rfl (lv_at hl 1 rfl) ?_
    refine lv_iload_n hx hb dX6_readTable_27 rfl (lv_at hl 0 rfl) ?_
    obtain ⟨M_7, c_8, h⟩ := fp_b1_s h
    refine fp_callVv (As := [.int r_1, .int r_4]) (rest := []) E hG (c_X7_addTable l D G B fp_is7_2 c_8) cv_X7_addTable tw_408 tw_409 tw_410 ⟨rfl, rfl⟩ ⟨Nat.le_of_ble_eq_true rfl, Nat.le_of_ble_eq_true rfl⟩ (fp_recv E hG fp_is7_2.1.1 (fp_o7 fp_is7_2.1 _) rfl) rfl rfl (Nat.le_of_ble_eq_true rfl) hl.1 dX6_readTable_28 ⟨Nat.zero_le _, Nat.zero_le _⟩ (fun H locs hG => ?_)
    exact w_X6_readTable_31 E   _ hG (lv_sub hl [] rfl) h
theorem c_X6_readTable (l : Launch) (D : va_G) (G : Nat → ClassId) (B : Nat) {M : fp_Mem}   {M' : fp_Mem}  (h : m_X6_readTable M = some M') : Met l yX6_readTable (Cond.code yX6_readTable cX6_readTable 3 none :: fp_T) rm_X6_readTable (va_Pc [.ref (B + 1)] (fp_GS D G B M)) (fp_Qv D G B M') 0 0 (fp_A B) :=
  fp_met (own := RX6) (by decide) rfl (Nat.le_of_ble_eq_true rfl) (fun E hG hl => w_X6_readTable_0 E  hG hl h)
abbrev rm_X6_readWay : Room := { frames := 3, cells := 0, slots := 0, locals := 64 }
theorem cv_X6_readWay : fp_CV yX6_readWay cX6_readWay 3 none 0 := ⟨tw_415, tw_2, by decide, by decide +kernel⟩
set_option maxHeartbeats 2000000 in
theorem w_X6_readWay_79 {p : Program} {l : Launch} {e : Env} {s : State} {m : MethodId} {args : Array Value} {below : List Frame} {meth : Method} {c : Code} {D : va_G} {G : Nat → ClassId} {B : Nat} {M' : fp_Mem} (E : fp_EV p s m args meth c cX6_readWay 3 RX6 none D G) (M : fp_Mem) {H : Heap} {locs : List Loc} {ls : Array Slot} (hG : fp_H D G B s M H locs) (hl : lv_has ls 3 []) (h : m_X6_readWay_79 M = some M') : W p l e rm_X6_readWay s m args below meth c H locs 0 0 (MQ below (fp_Qv D G B M') args s 0 0 (fp_A B)) (F0 m 79 ls []) := by
  have hx := E.1
  have hb := E.2.1
  have hown := E.2.2.2.1
  unfold m_X6_readWay_79 at h
  exact fp_retv E hG (Option.some.inj h) dX6_readWay_79
set_option maxHeartbeats 2000000 in
theorem w_X6_readWay_63 {p : Program} {l : Launch} {e : Env} {s : State} {m : MethodId} {args : Array Value} {below : List Frame} {meth : Method} {c : Code} {D : va_G} {G : Nat → ClassId} {B : Nat} {M' : fp_Mem} (E : fp_EV p s m args meth c cX6_readWay 3 RX6 none D G) (v1 : Int32) (v2 : Int32) (M : fp_Mem) {H : Heap} {locs : List Loc} {ls : Array Slot} (hG : fp_H D G B s M H locs) (hl : lv_has ls 3 [(0, .ref (B + 1)), (1, .int v1), (2, .int v2)]) (h : m_X6_readWay_63 v1 v2 M = some M') : W p l e rm_X6_readWay s m args below meth c H locs 0 0 (MQ below (fp_Qv D G B M') args s 0 0 (fp_A B)) (F0 m 63 ls []) := by
  have hx := E.1
  have hb := E.2.1
  have hown := E.2.2.2.1
  unfold m_X6_readWay_63 at h
  refine lv_aload_n hx hb dX6_readWay_63 rfl (lv_at hl 0 rfl) ?_
  refine fp_g6_5 E hG tw_93 dX6_readWay_64 ?_
  refine lv_if_ne (tgt := 79) hx hb dX6_readWay_67 (by decide) (fun q => ?_) (fun q => ?_)
  · replace h := fp_ifF q h
    exact w_X6_readWay_79 E   _ hG (lv_sub hl [] rfl) h
  · replace h := fp_ifT q h
    refine lv_aload_n hx hb dX6_readWay_70 rfl (lv_at hl 0 rfl) ?_
    refine fp_g6_0 E hG tw_86 dX6_readWay_71 ?_
    refine lv_iload_n hx hb dX6_readWay_74 rfl (lv_at hl 1 rfl) ?_
    refine lv_iload_n hx hb dX6_readWay_75 rfl (lv_at hl 2 rfl) ?_
    obtain ⟨M_1, c_2, h⟩ := fp_b1_s h
    refine fp_callVv (As := [.int v1, .int v2]) (rest := []) E hG (c_X7_addWay l D G B fp_is7_2 c_2) cv_X7_addWay tw_420 tw_421 tw_422 ⟨rfl, rfl⟩ ⟨Nat.le_of_ble_eq_true rfl, Nat.le_of_ble_eq_true rfl⟩ (fp_recv E hG fp_is7_2.1.1 (fp_o7 fp_is7_2.1 _) rfl) rfl rfl (Nat.le_of_ble_eq_true rfl) hl.1 dX6_readWay_76 ⟨Nat.zero_le _, Nat.zero_le _⟩ (fun H locs hG => ?_)
    exact w_X6_readWay_79 E   _ hG (lv_sub hl [] rfl) h
set_option maxHeartbeats 2000000 in
theorem w_X6_readWay_54 {p : Program} {l : Launch} {e : Env} {s : State} {m : MethodId} {args : Array Value} {below : List Frame} {meth : Method} {c : Code} {D : va_G} {G : Nat → ClassId} {B : Nat} {M' : fp_Mem} (E : fp_EV p s m args meth c cX6_readWay 3 RX6 none D G) (v1 : Int32) (v2 : Int32) (M : fp_Mem) {H : Heap} {locs : List Loc} {ls : Array Slot} (hG : fp_H D G B s M H locs) (hl : lv_has ls 3 [(0, .ref (B + 1)), (1, .int v1), (2, .int v2)]) (h : m_X6_readWay_54 v1 v2 M = some M') : W p l e rm_X6_readWay s m args below meth c H locs 0 0 (MQ below (fp_Qv D G B M') args s 0 0 (fp_A B)) (F0 m 54 ls []) := by
  have hx := E.1
  have hb := E.2.1
  have hown := E.2.2.2.1
  unfold m_X6_readWay_54 at h
  refine lv_aload_n hx hb dX6_readWay_54 rfl (lv_at hl 0 rfl) ?_
  refine lv_iconst (v := (nI 4)) hx hb dX6_readWay_55 (by decide) ?_
  refine lv_aload_n hx hb dX6_readWay_56 rfl (lv_at hl 0 rfl) ?_
  refine fp_g6_4 E hG tw_92 dX6_readWay_57 ?_
  obtain ⟨M_3, c_4, h⟩ := fp_b1_s h
  refine fp_callVv (As := [.int (nI 4), .int (M 1 4)]) (rest := []) E hG (c_X6_fails l D G B c_4) cv_X6_fails tw_389 tw_391 ts_5 ⟨rfl, rfl⟩ ⟨Nat.le_of_ble_eq_true rfl, Nat.le_of_ble_eq_true rfl⟩ (fp_recv E hG (by decide) (fp_o6 _) rfl) rfl rfl (Nat.le_of_ble_eq_true rfl) hl.1 dX6_readWay_60 ⟨Nat.zero_le _, Nat.zero_le _⟩ (fun H locs hG => ?_)
  exact w_X6_readWay_63 E   _ _ _ hG (lv_sub hl [0, 1, 2] rfl) h
set_option maxHeartbeats 2000000 in
theorem w_X6_readWay_0 {p : Program} {l : Launch} {e : Env} {s : State} {m : MethodId} {args : Array Value} {below : List Frame} {meth : Method} {c : Code} {D : va_G} {G : Nat → ClassId} {B : Nat} {M' : fp_Mem} (E : fp_EV p s m args meth c cX6_readWay 3 RX6 none D G) {M : fp_Mem} {H : Heap} {locs : List Loc} {ls : Array Slot} (hG : fp_H D G B s M H locs) (hl : lv_has ls 3 [(0, .ref (B + 1))]) (h : m_X6_readWay M = some M') : W p l e rm_X6_readWay s m args below meth c H locs 0 0 (MQ below (fp_Qv D G B M') args s 0 0 (fp_A B)) (F0 m 0 ls []) := by
  have hx := E.1
  have hb := E.2.1
  have hown := E.2.2.2.1
  unfold m_X6_readWay at h
  refine lv_aload_n hx hb dX6_readWay_0 rfl (lv_at hl 0 rfl) ?_
  refine lv_iconst (v := (nI 0)) hx hb dX6_readWay_1 (by decide) ?_
  refine lv_aload_n hx hb dX6_readWay_2 rfl (lv_at hl 0 rfl) ?_
  refine fp_g6_0 E hG tw_86 dX6_readWay_3 ?_
  refine fp_g7_3 E hG fp_is7_2.1 tw_51 dX6_readWay_6 ?_
  refine lv_iconst (v := (nI 1)) hx hb dX6_readWay_9 (by decide) ?_
  refine lv_isub hx hb dX6_readWay_10 ?_
  obtain ⟨r_5, M_6, c_7, h⟩ := fp_b2_s h
  refine fp_callVi (As := [.int (nI 0), .int ((M 2 3) - (nI 1))]) (rest := []) E hG (c_X6_number l D G B c_7) cv_X6_number tw_397 tw_399 ts_7 ⟨rfl, rfl⟩ ⟨Nat.le_of_ble_eq_true rfl, Nat.le_of_ble_eq_true rfl⟩ (fp_recv E hG (by decide) (fp_o6 _) rfl) rfl rfl (Nat.le_of_ble_eq_true rfl) hl.1 dX6_readWay_11 ⟨Nat.zero_le _, Nat.zero_le _⟩ (fun H locs hG => ?_)
  refine lv_istore_n (lv' := [(1, .int r_5), (0, .ref (B + 1))]) hx hb dX6_readWay_14 rfl hl (by decide) rfl (fun ls hl => ?_)
  refine lv_aload_n hx hb dX6_readWay_15 rfl (lv_at hl 1 rfl) ?_
  refine lv_iconst (v := (nI 0)) hx hb dX6_readWay_16 (by decide) ?_
  refine lv_aload_n hx hb dX6_readWay_17 rfl (lv_at hl 1 rfl) ?_
  refine fp_g6_0 E hG tw_86 dX6_readWay_18 ?_
  refine fp_g7_3 E hG fp_is7_2.1 tw_51 dX6_readWay_21 ?_
  refine lv_iconst (v := (nI 1)) hx hb dX6_readWay_24 (by decide) ?_
  refine lv_isub hx hb dX6_readWay_25 ?_
  obtain ⟨r_8, M_9, c_10, h⟩ := fp_b2_s h
  refine fp_callVi (As := [.int (nI 0), .int ((M_6 2 3) - (nI 1))]) (rest := []) E hG (c_X6_number l D G B c_10) cv_X6_number tw_397 tw_399 ts_7 ⟨rfl, rfl⟩ ⟨Nat.le_of_ble_eq_true rfl, Nat.le_of_ble_eq_true rfl⟩ (fp_recv E hG (by decide) (fp_o6 _) rfl) rfl rfl (Nat.le_of_ble_eq_true rfl) hl.1 dX6_readWay_26 ⟨Nat.zero_le _, Nat.zero_le _⟩ (fun H locs hG => ?_)
  refine lv_istore_n (lv' := [(2, .int r_8), (1, .int r_5), (0, .ref (B + 1))]) hx hb dX6_readWay_29 rfl hl (by decide) rfl (fun ls hl => ?_)
  refine lv_aload_n hx hb dX6_readWay_30 rfl (lv_at hl 2 rfl) ?_
  refine fp_g6_5 E hG tw_93 dX6_readWay_31 ?_
  refine lv_if_ne (tgt := 63) hx hb dX6_readWay_34 (by decide) (fun q => ?_) (fun q => ?_)
  · replace h := fp_ifF q h
    exact w_X6_readWay_63 E   _ _ _ hG (lv_sub hl [2, 1, 0] rfl) h
  · replace h := fp_ifT q h
    refine lv_iload_n hx hb dX6_readWay_37 rfl (lv_at hl 1 rfl) ?_
    refine lv_iload_n hx hb dX6_readWay_38 rfl (lv_at hl 0 rfl) ?_
    refine lv_icmp_eq (tgt := 54) hx hb dX6_readWay_39 (by decide) (fun q => ?_) (fun q => ?_)
    · replace h := fp_ifT q h
      exact w_X6_readWay_54 E   _ _ _ hG (lv_sub hl [2, 1, 0] rfl) h
    · replace h := fp_ifF q h
      refine lv_aload_n hx hb dX6_readWay_42 rfl (lv_at hl 2 rfl) ?_
      refine fp_g6_0 E hG tw_86 dX6_readWay_43 ?_
      refine lv_iload_n hx hb dX6_readWay_46 rfl (lv_at hl 1 rfl) ?_
      refine lv_iload_n hx hb dX6_readWay_47 rfl (lv_at hl 0 rfl) ?_
      obtain ⟨r_11, c_12, h⟩ := fp_b1_s h
      refine fp_callVi (As := [.int r_5, .int r_8]) (rest := []) E hG (c_X7_joins l D G B fp_is7_2 c_12) cv_X7_joins tw_416 tw_417 tw_418 ⟨rfl, rfl⟩ ⟨Nat.le_of_ble_eq_true rfl, Nat.le_of_ble_eq_true rfl⟩ (fp_recv E hG fp_is7_2.1.1 (fp_o7 fp_is7_2.1 _) rfl) rfl rfl (Nat.le_of_ble_eq_true rfl) hl.1 dX6_readWay_48 ⟨Nat.zero_le _, Nat.zero_le _⟩ (fun H locs hG => ?_)
      refine lv_if_eq (tgt := 63) hx hb dX6_readWay_51 (by decide) (fun q => ?_) (fun q => ?_)
      · replace h := fp_ifT q h
        exact w_X6_readWay_63 E   _ _ _ hG (lv_sub hl [2, 1, 0] rfl) h
      · replace h := fp_ifF q h
        exact w_X6_readWay_54 E   _ _ _ hG (lv_sub hl [2, 1, 0] rfl) h
theorem c_X6_readWay (l : Launch) (D : va_G) (G : Nat → ClassId) (B : Nat) {M : fp_Mem}   {M' : fp_Mem}  (h : m_X6_readWay M = some M') : Met l yX6_readWay (Cond.code yX6_readWay cX6_readWay 3 none :: fp_T) rm_X6_readWay (va_Pc [.ref (B + 1)] (fp_GS D G B M)) (fp_Qv D G B M') 0 0 (fp_A B) :=
  fp_met (own := RX6) (by decide) rfl (Nat.le_of_ble_eq_true rfl) (fun E hG hl => w_X6_readWay_0 E  hG hl h)
abbrev rm_X6_readEnd : Room := { frames := 2, cells := 0, slots := 0, locals := 40 }
theorem cv_X6_readEnd : fp_CV yX6_readEnd cX6_readEnd 1 none 0 := ⟨tw_427, tw_2, by decide, by decide +kernel⟩
set_option maxHeartbeats 2000000 in
theorem w_X6_readEnd_22 {p : Program} {l : Launch} {e : Env} {s : State} {m : MethodId} {args : Array Value} {below : List Frame} {meth : Method} {c : Code} {D : va_G} {G : Nat → ClassId} {B : Nat} {M' : fp_Mem} (E : fp_EV p s m args meth c cX6_readEnd 1 RX6 none D G) (M : fp_Mem) {H : Heap} {locs : List Loc} {ls : Array Slot} (hG : fp_H D G B s M H locs) (hl : lv_has ls 1 [(0, .ref (B + 1))]) (h : m_X6_readEnd_22 M = some M') : W p l e rm_X6_readEnd s m args below meth c H locs 0 0 (MQ below (fp_Qv D G B M') args s 0 0 (fp_A B)) (F0 m 22 ls []) := by
  have hx := E.1
  have hb := E.2.1
  have hown := E.2.2.2.1
  unfold m_X6_readEnd_22 at h
  refine lv_aload_n hx hb dX6_readEnd_22 rfl (lv_at hl 0 rfl) ?_
  refine lv_dup hx hb dX6_readEnd_23 rfl ?_
  refine fp_g6_3 E hG tw_91 dX6_readEnd_24 ?_
  refine lv_iconst (v := (nI 1)) hx hb dX6_readEnd_27 (by decide) ?_
  refine lv_iadd hx hb dX6_readEnd_28 ?_
  obtain ⟨M_1, eM_1, h⟩ := fp_lt_s h
  refine fp_p6_3 E hG tw_91 dX6_readEnd_29 (fun H locs hG => ?_)
  replace hG := fp_memH eM_1 hG
  exact fp_retv E hG (Option.some.inj h) dX6_readEnd_32
set_option maxHeartbeats 2000000 in
theorem w_X6_readEnd_0 {p : Program} {l : Launch} {e : Env} {s : State} {m : MethodId} {args : Array Value} {below : List Frame} {meth : Method} {c : Code} {D : va_G} {G : Nat → ClassId} {B : Nat} {M' : fp_Mem} (E : fp_EV p s m args meth c cX6_readEnd 1 RX6 none D G) {M : fp_Mem} {H : Heap} {locs : List Loc} {ls : Array Slot} (hG : fp_H D G B s M H locs) (hl : lv_has ls 1 [(0, .ref (B + 1))]) (h : m_X6_readEnd M = some M') : W p l e rm_X6_readEnd s m args below meth c H locs 0 0 (MQ below (fp_Qv D G B M') args s 0 0 (fp_A B)) (F0 m 0 ls []) := by
  have hx := E.1
  have hb := E.2.1
  have hown := E.2.2.2.1
  unfold m_X6_readEnd at h
  refine lv_aload_n hx hb dX6_readEnd_0 rfl (lv_at hl 0 rfl) ?_
  obtain ⟨M_2, c_3, h⟩ := fp_b1_s h
  refine fp_callVv (As := []) (rest := []) E hG (c_X6_skipBlanks l D G B c_3) cv_X6_skipBlanks tw_369 tw_371 ts_0 ⟨rfl, rfl⟩ ⟨Nat.le_of_ble_eq_true rfl, Nat.le_of_ble_eq_true rfl⟩ (fp_recv E hG (by decide) (fp_o6 _) rfl) rfl rfl (Nat.le_of_ble_eq_true rfl) hl.1 dX6_readEnd_1 ⟨Nat.zero_le _, Nat.zero_le _⟩ (fun H locs hG => ?_)
  refine lv_aload_n hx hb dX6_readEnd_4 rfl (lv_at hl 0 rfl) ?_
  obtain ⟨r_4, c_5, h⟩ := fp_b1_s h
  refine fp_callVi (As := []) (rest := []) E hG (c_X6_letterHere l D G B c_5) cv_X6_letterHere tw_373 tw_375 ts_1 ⟨rfl, rfl⟩ ⟨Nat.le_of_ble_eq_true rfl, Nat.le_of_ble_eq_true rfl⟩ (fp_recv E hG (by decide) (fp_o6 _) rfl) rfl rfl (Nat.le_of_ble_eq_true rfl) hl.1 dX6_readEnd_5 ⟨Nat.zero_le _, Nat.zero_le _⟩ (fun H locs hG => ?_)
  refine lv_bipush (v := (nI 59)) hx hb dX6_readEnd_8 (by decide) ?_
  refine lv_icmp_eq (tgt := 22) hx hb dX6_readEnd_10 (by decide) (fun q => ?_) (fun q => ?_)
  · replace h := fp_ifT q h
    exact w_X6_readEnd_22 E   _ hG (lv_sub hl [0] rfl) h
  · replace h := fp_ifF q h
    refine lv_aload_n hx hb dX6_readEnd_13 rfl (lv_at hl 0 rfl) ?_
    refine lv_iconst (v := (nI 1)) hx hb dX6_readEnd_14 (by decide) ?_
    refine lv_aload_n hx hb dX6_readEnd_15 rfl (lv_at hl 0 rfl) ?_
    refine fp_g6_3 E hG tw_91 dX6_readEnd_16 ?_
    obtain ⟨M_6, c_7, h⟩ := fp_b1_s h
    refine fp_callVv (As := [.int (nI 1), .int (M_2 1 3)]) (rest := []) E hG (c_X6_fails l D G B c_7) cv_X6_fails tw_389 tw_391 ts_5 ⟨rfl, rfl⟩ ⟨Nat.le_of_ble_eq_true rfl, Nat.le_of_ble_eq_true rfl⟩ (fp_recv E hG (by decide) (fp_o6 _) rfl) rfl rfl (Nat.le_of_ble_eq_true rfl) hl.1 dX6_readEnd_19 ⟨Nat.zero_le _, Nat.zero_le _⟩ (fun H locs hG => ?_)
    exact w_X6_readEnd_22 E   _ hG (lv_sub hl [0] rfl) h
theorem c_X6_readEnd (l : Launch) (D : va_G) (G : Nat → ClassId) (B : Nat) {M : fp_Mem}   {M' : fp_Mem}  (h : m_X6_readEnd M = some M') : Met l yX6_readEnd (Cond.code yX6_readEnd cX6_readEnd 1 none :: fp_T) rm_X6_readEnd (va_Pc [.ref (B + 1)] (fp_GS D G B M)) (fp_Qv D G B M') 0 0 (fp_A B) :=
  fp_met (own := RX6) (by decide) rfl (Nat.le_of_ble_eq_true rfl) (fun E hG hl => w_X6_readEnd_0 E  hG hl h)
abbrev rm_X6_readClause : Room := { frames := 4, cells := 0, slots := 0, locals := 86 }
theorem cv_X6_readClause : fp_CV yX6_readClause cX6_readClause 3 none 0 := ⟨tw_380, tw_2, by decide, by decide +kernel⟩
set_option maxHeartbeats 2000000 in
theorem w_X6_readClause_65 {p : Program} {l : Launch} {e : Env} {s : State} {m : MethodId} {args : Array Value} {below : List Frame} {meth : Method} {c : Code} {D : va_G} {G : Nat → ClassId} {B : Nat} {M' : fp_Mem} (E : fp_EV p s m args meth c cX6_readClause 3 RX6 none D G) (M : fp_Mem) {H : Heap} {locs : List Loc} {ls : Array Slot} (hG : fp_H D G B s M H locs) (hl : lv_has ls 3 [(0, .ref (B + 1))]) (h : m_X6_readClause_65 M = some M') : W p l e rm_X6_readClause s m args below meth c H locs 0 0 (MQ below (fp_Qv D G B M') args s 0 0 (fp_A B)) (F0 m 65 ls []) := by
  have hx := E.1
  have hb := E.2.1
  have hown := E.2.2.2.1
  unfold m_X6_readClause_65 at h
  refine lv_aload_n hx hb dX6_readClause_65 rfl (lv_at hl 0 rfl) ?_
  obtain ⟨M_1, c_2, h⟩ := fp_b1_s h
  refine fp_callVv (As := []) (rest := []) E hG (c_X6_readEnd l D G B c_2) cv_X6_readEnd tw_424 tw_426 ts_10 ⟨rfl, rfl⟩ ⟨Nat.le_of_ble_eq_true rfl, Nat.le_of_ble_eq_true rfl⟩ (fp_recv E hG (by decide) (fp_o6 _) rfl) rfl rfl (Nat.le_of_ble_eq_true rfl) hl.1 dX6_readClause_66 ⟨Nat.zero_le _, Nat.zero_le _⟩ (fun H locs hG => ?_)
  exact fp_retv E hG (Option.some.inj h) dX6_readClause_69
set_option maxHeartbeats 2000000 in
theorem w_X6_readClause_0 {p : Program} {l : Launch} {e : Env} {s : State} {m : MethodId} {args : Array Value} {below : List Frame} {meth : Method} {c : Code} {D : va_G} {G : Nat → ClassId} {B : Nat} {M' : fp_Mem} (E : fp_EV p s m args meth c cX6_readClause 3 RX6 none D G) {M : fp_Mem} {H : Heap} {locs : List Loc} {ls : Array Slot} (hG : fp_H D G B s M H locs) (hl : lv_has ls 3 [(0, .ref (B + 1))]) (h : m_X6_readClause M = some M') : W p l e rm_X6_readClause s m args below meth c H locs 0 0 (MQ below (fp_Qv D G B M') args s 0 0 (fp_A B)) (F0 m 0 ls []) := by
  have hx := E.1
  have hb := E.2.1
  have hown := E.2.2.2.1
  unfold m_X6_readClause at h
  refine lv_aload_n hx hb dX6_readClause_0 rfl (lv_at hl 0 rfl) ?_
  obtain ⟨r_3, c_4, h⟩ := fp_b1_s h
  refine fp_callVi (As := []) (rest := []) E hG (c_X6_letterHere l D G B c_4) cv_X6_letterHere tw_373 tw_375 ts_1 ⟨rfl, rfl⟩ ⟨Nat.le_of_ble_eq_true rfl, Nat.le_of_ble_eq_true rfl⟩ (fp_recv E hG (by decide) (fp_o6 _) rfl) rfl rfl (Nat.le_of_ble_eq_true rfl) hl.1 dX6_readClause_1 ⟨Nat.zero_le _, Nat.zero_le _⟩ (fun H locs hG => ?_)
  refine lv_istore_n (lv' := [(1, .int r_3), (0, .ref (B + 1))]) hx hb dX6_readClause_4 rfl hl (by decide) rfl (fun ls hl => ?_)
  refine lv_aload_n hx hb dX6_readClause_5 rfl (lv_at hl 1 rfl) ?_
  refine lv_iload_n hx hb dX6_readClause_6 rfl (lv_at hl 0 rfl) ?_
  obtain ⟨r_5, c_6, h⟩ := fp_b1_s h
  refine fp_callVi (As := [.int r_3]) (rest := []) E hG (c_X6_faultOfWord l D G B c_6) cv_X6_faultOfWord tw_381 tw_383 ts_3 ⟨rfl, rfl⟩ ⟨Nat.le_of_ble_eq_true rfl, Nat.le_of_ble_eq_true rfl⟩ (fp_recv E hG (by decide) (fp_o6 _) rfl) rfl rfl (Nat.le_of_ble_eq_true rfl) hl.1 dX6_readClause_7 ⟨Nat.zero_le _, Nat.zero_le _⟩ (fun H locs hG => ?_)
  refine lv_istore_n (lv' := [(2, .int r_5), (1, .int r_3), (0, .ref (B + 1))]) hx hb dX6_readClause_10 rfl hl (by decide) rfl (fun ls hl => ?_)
  refine lv_iload_n hx hb dX6_readClause_11 rfl (lv_at hl 0 rfl) ?_
  refine lv_if_eq (tgt := 25) hx hb dX6_readClause_12 (by decide) (fun q => ?_) (fun q => ?_)
  · replace h := fp_ifT q h
    refine lv_aload_n hx hb dX6_readClause_25 rfl (lv_at hl 2 rfl) ?_
    refine lv_dup hx hb dX6_readClause_26 rfl ?_
    refine fp_g6_3 E hG tw_91 dX6_readClause_27 ?_
    refine lv_iconst (v := (nI 1)) hx hb dX6_readClause_30 (by decide) ?_
    refine lv_iadd hx hb dX6_readClause_31 ?_
    obtain ⟨M_7, eM_7, h⟩ := fp_lt_s h
    refine fp_p6_3 E hG tw_91 dX6_readClause_32 (fun H locs hG => ?_)
    replace hG := fp_memH eM_7 hG
    refine lv_iload_n hx hb dX6_readClause_35 rfl (lv_at hl 1 rfl) ?_
    refine lv_bipush (v := (nI 114)) hx hb dX6_readClause_36 (by decide) ?_
    refine lv_icmp_ne (tgt := 48) hx hb dX6_readClause_38 (by decide) (fun q => ?_) (fun q => ?_)
    · replace h := fp_ifF q h
      refine lv_iload_n hx hb dX6_readClause_48 rfl (lv_at hl 1 rfl) ?_
      refine lv_bipush (v := (nI 116)) hx hb dX6_readClause_49 (by decide) ?_
      refine lv_icmp_ne (tgt := 61) hx hb dX6_readClause_51 (by decide) (fun q => ?_) (fun q => ?_)
      · replace h := fp_ifF q h
        refine lv_aload_n hx hb dX6_readClause_61 rfl (lv_at hl 2 rfl) ?_
        obtain ⟨M_8, c_9, h⟩ := fp_b1_s h
        refine fp_callVv (As := []) (rest := []) E hG (c_X6_readWay l D G B c_9) cv_X6_readWay tw_412 tw_414 ts_9 ⟨rfl, rfl⟩ ⟨Nat.le_of_ble_eq_true rfl, Nat.le_of_ble_eq_true rfl⟩ (fp_recv E hG (by decide) (fp_o6 _) rfl) rfl rfl (Nat.le_of_ble_eq_true rfl) hl.1 dX6_readClause_62 ⟨Nat.zero_le _, Nat.zero_le _⟩ (fun H locs hG => ?_)
        exact w_X6_readClause_65 E   _ hG (lv_sub hl [2] rfl) h
      · replace h := fp_ifT q h
        refine lv_aload_n hx hb dX6_readClause_54 rfl (lv_at hl 2 rfl) ?_
        obtain ⟨M_10, c_11, h⟩ := fp_b1_s h
        refine fp_callVv (As := []) (rest := []) E hG (c_X6_readTable l D G B c_11) cv_X6_readTable tw_404 tw_406 ts_8 ⟨rfl, rfl⟩ ⟨Nat.le_of_ble_eq_true rfl, Nat.le_of_ble_eq_true rfl⟩ (fp_recv E hG (by decide) (fp_o6 _) rfl) rfl rfl (Nat.le_of_ble_eq_true rfl) hl.1 dX6_readClause_55 ⟨Nat.zero_le _, Nat.zero_le _⟩ (fun H locs hG => ?_)
        refine lv_goto (tgt := 65) hx hb dX6_readClause_58 (by decide) ?_
        exact w_X6_readClause_65 E   _ hG (lv_sub hl [2] rfl) h
    · replace h := fp_ifT q h
      refine lv_aload_n hx hb dX6_readClause_41 rfl (lv_at hl 2 rfl) ?_
      obtain ⟨M_12, c_13, h⟩ := fp_b1_s h
      refine fp_callVv (As := []) (rest := []) E hG (c_X6_readFineAndWood l D G B c_13) cv_X6_readFineAndWood tw_393 tw_395 ts_6 ⟨rfl, rfl⟩ ⟨Nat.le_of_ble_eq_true rfl, Nat.le_of_ble_eq_true rfl⟩ (fp_recv E hG (by decide) (fp_o6 _) rfl) rfl rfl (Nat.le_of_ble_eq_true rfl) hl.1 dX6_readClause_42 ⟨Nat.zero_le _, Nat.zero_le _⟩ (fun H locs hG => ?_)
      refine lv_goto (tgt := 65) hx hb dX6_readClause_45 (by decide) ?_
      exact w_X6_readClause_65 E   _ hG (lv_sub hl [2] rfl) h
  · replace h := fp_ifF q h
    refine lv_aload_n hx hb dX6_readClause_15 rfl (lv_at hl 2 rfl) ?_
    refine lv_iload_n hx hb dX6_readClause_16 rfl (lv_at hl 0 rfl) ?_
    refine lv_aload_n hx hb dX6_readClause_17 rfl (lv_at hl 2 rfl) ?_
    refine fp_g6_3 E hG tw_91 dX6_readClause_18 ?_
    obtain ⟨M_14, c_15, h⟩ := fp_b1_s h
    refine fp_callVv (As := [.int r_5, .int (M 1 3)]) (rest := []) E hG (c_X6_fails l D G B c_15) cv_X6_fails tw_389 tw_391 ts_5 ⟨rfl, rfl⟩ ⟨Nat.le_of_ble_eq_true rfl, Nat.le_of_ble_eq_true rfl⟩ (fp_recv E hG (by decide) (fp_o6 _) rfl) rfl rfl (Nat.le_of_ble_eq_true rfl) hl.1 dX6_readClause_21 ⟨Nat.zero_le _, Nat.zero_le _⟩ (fun H locs hG => ?_)
    exact fp_retv E hG (Option.some.inj h) dX6_readClause_24
theorem c_X6_readClause (l : Launch) (D : va_G) (G : Nat → ClassId) (B : Nat) {M : fp_Mem}   {M' : fp_Mem}  (h : m_X6_readClause M = some M') : Met l yX6_readClause (Cond.code yX6_readClause cX6_readClause 3 none :: fp_T) rm_X6_readClause (va_Pc [.ref (B + 1)] (fp_GS D G B M)) (fp_Qv D G B M') 0 0 (fp_A B) :=
  fp_met (own := RX6) (by decide) rfl (Nat.le_of_ble_eq_true rfl) (fun E hG hl => w_X6_readClause_0 E  hG hl h)
abbrev rm_X6_reads : Room := { frames := 5, cells := 0, slots := 0, locals := 108 }
theorem cv_X6_reads : fp_CV yX6_reads cX6_reads 2 (some .boolean) 0 := ⟨tw_364, tw_2, by decide, by decide +kernel⟩
set_option maxHeartbeats 2000000 in
theorem w_X6_reads_85 {p : Program} {l : Launch} {e : Env} {s : State} {m : MethodId} {args : Array Value} {below : List Frame} {meth : Method} {c : Code} {D : va_G} {G : Nat → ClassId} {B : Nat} {r : Int32} {M' : fp_Mem} (E : fp_EV p s m args meth c cX6_reads 2 RX6 (some .boolean) D G) (s0 : Int32) (M : fp_Mem) {H : Heap} {locs : List Loc} {ls : Array Slot} (hG : fp_H D G B s M H locs) (hl : lv_has ls 2 []) (h : m_X6_reads_85 s0 M = some (r, M')) : W p l e rm_X6_reads s m args below meth c H locs 0 0 (MQ below (fp_Qi D G B r M') args s 0 0 (fp_A B)) (F0 m 85 ls [.int s0]) := by
  have hx := E.1
  have hb := E.2.1
  have hown := E.2.2.2.1
  unfold m_X6_reads_85 at h
  obtain ⟨g_1, h⟩ := fp_gd_s h
  exact fp_iretz E hG g_1 (fp_pr1 h) (fp_pr2 h) dX6_reads_85
set_option maxHeartbeats 2000000 in
theorem w_X6_reads_68 {p : Program} {l : Launch} {e : Env} {s : State} {m : MethodId} {args : Array Value} {below : List Frame} {meth : Method} {c : Code} {D : va_G} {G : Nat → ClassId} {B : Nat} {r : Int32} {M' : fp_Mem} (E : fp_EV p s m args meth c cX6_reads 2 RX6 (some .boolean) D G) (M : fp_Mem) {H : Heap} {locs : List Loc} {ls : Array Slot} (hG : fp_H D G B s M H locs) (hl : lv_has ls 2 [(0, .ref (B + 1))]) (h : m_X6_reads_68 M = some (r, M')) : W p l e rm_X6_reads s m args below meth c H locs 0 0 (MQ below (fp_Qi D G B r M') args s 0 0 (fp_A B)) (F0 m 68 ls []) := by
  have hx := E.1
  have hb := E.2.1
  have hown := E.2.2.2.1
  unfold m_X6_reads_68 at h
  refine lv_aload_n hx hb dX6_reads_68 rfl (lv_at hl 0 rfl) ?_
  refine lv_iconst (v := (nI 0)) hx hb dX6_reads_69 (by decide) ?_
  obtain ⟨M_2, eM_2, h⟩ := fp_lt_s h
  refine fp_p6_2 E hG tw_89 dX6_reads_70 (fun H locs hG => ?_)
  replace hG := fp_memH eM_2 hG
  refine lv_aload_n hx hb dX6_reads_73 rfl (lv_at hl 0 rfl) ?_
  refine fp_g6_5 E hG tw_93 dX6_reads_74 ?_
  refine lv_if_ne (tgt := 84) hx hb dX6_reads_77 (by decide) (fun q => ?_) (fun q => ?_)
  · replace h := fp_ifF q h
    refine lv_iconst (v := (nI 0)) hx hb dX6_reads_84 (by decide) ?_
    exact w_X6_reads_85 E   _ _ hG (lv_sub hl [] rfl) h
  · replace h := fp_ifT q h
    refine lv_iconst (v := (nI 1)) hx hb dX6_reads_80 (by decide) ?_
    refine lv_goto (tgt := 85) hx hb dX6_reads_81 (by decide) ?_
    exact w_X6_reads_85 E   _ _ hG (lv_sub hl [] rfl) h
set_option maxHeartbeats 2000000 in
theorem w_X6_reads_62 {p : Program} {l : Launch} {e : Env} {s : State} {m : MethodId} {args : Array Value} {below : List Frame} {meth : Method} {c : Code} {D : va_G} {G : Nat → ClassId} {B : Nat} {K29 : Int32 → fp_Mem → Option (Int32 × fp_Mem)} {r : Int32} {M' : fp_Mem} (E : fp_EV p s m args meth c cX6_reads 2 RX6 (some .boolean) D G) (HK29 : ∀ (wv1 : Int32) (wM : fp_Mem) {H : Heap} {locs : List Loc} {ls : Array Slot}, fp_H D G B s wM H locs → lv_has ls 2 [(0, .ref (B + 1)), (1, .int wv1)] → K29 wv1 wM = some (r, M') → W p l e rm_X6_reads s m args below meth c H locs 0 0 (MQ below (fp_Qi D G B r M') args s 0 0 (fp_A B)) (F0 m 29 ls [])) (v1 : Int32) (M : fp_Mem) {H : Heap} {locs : List Loc} {ls : Array Slot} (hG : fp_H D G B s M H locs) (hl : lv_has ls 2 [(0, .ref (B + 1)), (1, .int v1)]) (h : m_X6_reads_62 K29 v1 M = some (r, M')) : W p l e rm_X6_reads s m args below meth c H locs 0 0 (MQ below (fp_Qi D G B r M') args s 0 0 (fp_A B)) (F0 m 62 ls []) := by
  have hx := E.1
  have hb := E.2.1
  have hown := E.2.2.2.1
  unfold m_X6_reads_62 at h
  obtain ⟨x_3, ex_3, h⟩ := fp_lt_s h
  refine lv_iinc (v := x_3) (lv' := [(1, .int x_3), (0, .ref (B + 1))]) hx hb dX6_reads_62 hl (k := 1) rfl (by rw [ex_3]; rfl) (by decide) rfl (fun ls hl => ?_)
  refine lv_goto (tgt := 29) hx hb dX6_reads_65 (by decide) ?_
  exact HK29 _ _ hG (lv_sub hl [1, 0] rfl) h
set_option maxHeartbeats 2000000 in
theorem w_X6_reads_29 {p : Program} {l : Launch} {e : Env} {s : State} {m : MethodId} {args : Array Value} {below : List Frame} {meth : Method} {c : Code} {D : va_G} {G : Nat → ClassId} {B : Nat} {r : Int32} {M' : fp_Mem} (E : fp_EV p s m args meth c cX6_reads 2 RX6 (some .boolean) D G) : ∀ (n : Nat) (v1 : Int32) (M : fp_Mem) {H : Heap} {locs : List Loc} {ls : Array Slot}, fp_H D G B s M H locs → lv_has ls 2 [(0, .ref (B + 1)), (1, .int v1)] → m_X6_reads_29 n v1 M = some (r, M') → W p l e rm_X6_reads s m args below meth c H locs 0 0 (MQ below (fp_Qi D G B r M') args s 0 0 (fp_A B)) (F0 m 29 ls []) := by
  have hx := E.1
  have hb := E.2.1
  have hown := E.2.2.2.1
  intro n
  induction n with
  | zero =>
    intro v1 M H locs ls hG hl h
    exact nomatch h
  | succ n ih =>
    have ihK := @ih
    intro v1 M H locs ls hG hl h
    rw [m_X6_reads_29] at h
    refine lv_iload_n hx hb dX6_reads_29 rfl (lv_at hl 1 rfl) ?_
    refine lv_sipush (v := (nI 240)) hx hb dX6_reads_30 (by decide) ?_
    refine lv_icmp_gt (tgt := 68) hx hb dX6_reads_33 (by decide) (fun q => ?_) (fun q => ?_)
    · replace h := fp_ifT q h
      exact w_X6_reads_68 E   _ hG (lv_sub hl [0] rfl) h
    · replace h := fp_ifF q h
      refine lv_aload_n hx hb dX6_reads_36 rfl (lv_at hl 0 rfl) ?_
      refine fp_g6_5 E hG tw_93 dX6_reads_37 ?_
      refine lv_if_ne (tgt := 68) hx hb dX6_reads_40 (by decide) (fun q => ?_) (fun q => ?_)
      · replace h := fp_ifF q h
        exact w_X6_reads_68 E   _ hG (lv_sub hl [0] rfl) h
      · replace h := fp_ifT q h
        refine lv_aload_n hx hb dX6_reads_43 rfl (lv_at hl 0 rfl) ?_
        obtain ⟨M_4, c_5, h⟩ := fp_b1_s h
        refine fp_callVv (As := []) (rest := []) E hG (c_X6_skipBlanks l D G B c_5) cv_X6_skipBlanks tw_369 tw_371 ts_0 ⟨rfl, rfl⟩ ⟨Nat.le_of_ble_eq_true rfl, Nat.le_of_ble_eq_true rfl⟩ (fp_recv E hG (by decide) (fp_o6 _) rfl) rfl rfl (Nat.le_of_ble_eq_true rfl) hl.1 dX6_reads_44 ⟨Nat.zero_le _, Nat.zero_le _⟩ (fun H locs hG => ?_)
        refine lv_aload_n hx hb dX6_reads_47 rfl (lv_at hl 0 rfl) ?_
        refine fp_g6_3 E hG tw_91 dX6_reads_48 ?_
        refine lv_aload_n hx hb dX6_reads_51 rfl (lv_at hl 0 rfl) ?_
        refine fp_g6_2 E hG tw_89 dX6_reads_52 ?_
        refine lv_icmp_ge (tgt := 62) hx hb dX6_reads_55 (by decide) (fun q => ?_) (fun q => ?_)
        · replace h := fp_ifT q h
          exact w_X6_reads_62 E  ihK _ _ hG (lv_sub hl [0, 1] rfl) h
        · replace h := fp_ifF q h
          refine lv_aload_n hx hb dX6_reads_58 rfl (lv_at hl 0 rfl) ?_
          obtain ⟨M_6, c_7, h⟩ := fp_b1_s h
          refine fp_callVv (As := []) (rest := []) E hG (c_X6_readClause l D G B c_7) cv_X6_readClause tw_377 tw_379 ts_2 ⟨rfl, rfl⟩ ⟨Nat.le_of_ble_eq_true rfl, Nat.le_of_ble_eq_true rfl⟩ (fp_recv E hG (by decide) (fp_o6 _) rfl) rfl rfl (Nat.le_of_ble_eq_true rfl) hl.1 dX6_reads_59 ⟨Nat.zero_le _, Nat.zero_le _⟩ (fun H locs hG => ?_)
          exact w_X6_reads_62 E  ihK _ _ hG (lv_sub hl [0, 1] rfl) h
set_option maxHeartbeats 2000000 in
theorem w_X6_reads_0 {p : Program} {l : Launch} {e : Env} {s : State} {m : MethodId} {args : Array Value} {below : List Frame} {meth : Method} {c : Code} {D : va_G} {G : Nat → ClassId} {B : Nat} {r : Int32} {M' : fp_Mem} (E : fp_EV p s m args meth c cX6_reads 2 RX6 (some .boolean) D G) {M : fp_Mem} {H : Heap} {locs : List Loc} {ls : Array Slot} (hG : fp_H D G B s M H locs) (hl : lv_has ls 2 [(0, .ref (B + 1))]) (h : m_X6_reads M = some (r, M')) : W p l e rm_X6_reads s m args below meth c H locs 0 0 (MQ below (fp_Qi D G B r M') args s 0 0 (fp_A B)) (F0 m 0 ls []) := by
  have hx := E.1
  have hb := E.2.1
  have hown := E.2.2.2.1
  unfold m_X6_reads at h
  refine lv_aload_n hx hb dX6_reads_0 rfl (lv_at hl 0 rfl) ?_
  refine lv_iconst (v := (nI 0)) hx hb dX6_reads_1 (by decide) ?_
  obtain ⟨M_8, eM_8, h⟩ := fp_lt_s h
  refine fp_p6_3 E hG tw_91 dX6_reads_2 (fun H locs hG => ?_)
  replace hG := fp_memH eM_8 hG
  refine lv_aload_n hx hb dX6_reads_5 rfl (lv_at hl 0 rfl) ?_
  refine lv_iconst (v := (nI 0)) hx hb dX6_reads_6 (by decide) ?_
  obtain ⟨M_9, eM_9, h⟩ := fp_lt_s h
  refine fp_p6_4 E hG tw_92 dX6_reads_7 (fun H locs hG => ?_)
  replace hG := fp_memH eM_9 hG
  refine lv_aload_n hx hb dX6_reads_10 rfl (lv_at hl 0 rfl) ?_
  refine lv_iconst (v := (nI 0)) hx hb dX6_reads_11 (by decide) ?_
  obtain ⟨M_10, eM_10, h⟩ := fp_lt_s h
  refine fp_p6_5 E hG tw_93 dX6_reads_12 (fun H locs hG => ?_)
  replace hG := fp_memH eM_10 hG
  refine lv_aload_n hx hb dX6_reads_15 rfl (lv_at hl 0 rfl) ?_
  refine lv_iconst (v := (-1 : Int32)) hx hb dX6_reads_16 (by decide) ?_
  obtain ⟨M_11, eM_11, h⟩ := fp_lt_s h
  refine fp_p6_6 E hG tw_95 dX6_reads_17 (fun H locs hG => ?_)
  replace hG := fp_memH eM_11 hG
  refine lv_aload_n hx hb dX6_reads_20 rfl (lv_at hl 0 rfl) ?_
  refine fp_g6_0 E hG tw_86 dX6_reads_21 ?_
  obtain ⟨M_12, c_13, h⟩ := fp_b1_s h
  refine fp_callVv (As := []) (rest := []) E hG (c_X7_forget l D G B fp_is7_2 c_13) cv_X7_forget tw_365 tw_366 tw_367 ⟨rfl, rfl⟩ ⟨Nat.le_of_ble_eq_true rfl, Nat.le_of_ble_eq_true rfl⟩ (fp_recv E hG fp_is7_2.1.1 (fp_o7 fp_is7_2.1 _) rfl) rfl rfl (Nat.le_of_ble_eq_true rfl) hl.1 dX6_reads_24 ⟨Nat.zero_le _, Nat.zero_le _⟩ (fun H locs hG => ?_)
  refine lv_iconst (v := (nI 0)) hx hb dX6_reads_27 (by decide) ?_
  refine lv_istore_n (lv' := [(1, .int (nI 0)), (0, .ref (B + 1))]) hx hb dX6_reads_28 rfl hl (by decide) rfl (fun ls hl => ?_)
  exact w_X6_reads_29 E   fp_fu _ _ hG (lv_sub hl [1, 0] rfl) h
theorem c_X6_reads (l : Launch) (D : va_G) (G : Nat → ClassId) (B : Nat) {M : fp_Mem}   {r : Int32} {M' : fp_Mem}  (h : m_X6_reads M = some (r, M')) : Met l yX6_reads (Cond.code yX6_reads cX6_reads 2 (some .boolean) :: fp_T) rm_X6_reads (va_Pc [.ref (B + 1)] (fp_GS D G B M)) (fp_Qi D G B r M') 0 0 (fp_A B) :=
  fp_met (own := RX6) (by decide) rfl (Nat.le_of_ble_eq_true rfl) (fun E hG hl => w_X6_reads_0 E  hG hl h)

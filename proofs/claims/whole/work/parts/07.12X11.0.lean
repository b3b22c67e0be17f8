abbrev rm_X11_feed : Room := { frames := 1, cells := 0, slots := 0, locals := 21 }
theorem cv_X11_feed : fp_CV yX11_feed cX11_feed 2 (some .int) 1 := ⟨tw_350, tw_1, by decide, by decide +kernel⟩
set_option maxHeartbeats 2000000 in
theorem w_X11_feed_11 {p : Program} {l : Launch} {e : Env} {s : State} {m : MethodId} {args : Array Value} {below : List Frame} {meth : Method} {c : Code} {D : va_G} {G : Nat → ClassId} {B : Nat} {p1 : Int32} {r : Int32} {M' : fp_Mem} (E : fp_EV p s m args meth c cX11_feed 2 RX11 (some .int) D G) (M : fp_Mem) {H : Heap} {locs : List Loc} {ls : Array Slot} (hG : fp_H D G B s M H locs) (hl : lv_has ls 2 []) (h : m_X11_feed_11 p1 M = some (r, M')) : W p l e rm_X11_feed s m args below meth c H locs 0 0 (MQ below (fp_Qi D G B r M') args s 0 0 (fp_A B)) (F0 m 11 ls []) := by
  have hx := E.1
  have hb := E.2.1
  have hown := E.2.2.2.1
  unfold m_X11_feed_11 at h
  refine lv_ldc (v := (-1000000002 : Int32)) hx hb hown (fp_tabs E tw_351) dX11_feed_11 ?_
  exact fp_ireti E hG (fp_pr1 h) (fp_pr2 h) dX11_feed_13
set_option maxHeartbeats 2000000 in
theorem w_X11_feed_0 {p : Program} {l : Launch} {e : Env} {s : State} {m : MethodId} {args : Array Value} {below : List Frame} {meth : Method} {c : Code} {D : va_G} {G : Nat → ClassId} {B : Nat} {p1 : Int32} {r : Int32} {M' : fp_Mem} (E : fp_EV p s m args meth c cX11_feed 2 RX11 (some .int) D G) {M : fp_Mem} {H : Heap} {locs : List Loc} {ls : Array Slot} (hG : fp_H D G B s M H locs) (hl : lv_has ls 2 [(0, .ref (B + 0)), (1, .int p1)]) (h : m_X11_feed M p1 = some (r, M')) : W p l e rm_X11_feed s m args below meth c H locs 0 0 (MQ below (fp_Qi D G B r M') args s 0 0 (fp_A B)) (F0 m 0 ls []) := by
  have hx := E.1
  have hb := E.2.1
  have hown := E.2.2.2.1
  unfold m_X11_feed at h
  refine lv_iload_n hx hb dX11_feed_0 rfl (lv_at hl 1 rfl) ?_
  refine lv_if_lt (tgt := 11) hx hb dX11_feed_1 (by decide) (fun q => ?_) (fun q => ?_)
  · replace h := fp_ifT q h
    exact w_X11_feed_11 E   _ hG (lv_sub hl [] rfl) h
  · replace h := fp_ifF q h
    refine lv_iload_n hx hb dX11_feed_4 rfl (lv_at hl 1 rfl) ?_
    refine lv_sipush (v := (nI 255)) hx hb dX11_feed_5 (by decide) ?_
    refine lv_icmp_le (tgt := 14) hx hb dX11_feed_8 (by decide) (fun q => ?_) (fun q => ?_)
    · replace h := fp_ifT q h
      refine lv_aload_n hx hb dX11_feed_14 rfl (lv_at hl 0 rfl) ?_
      refine fp_g11_0 E hG tw_313 dX11_feed_15 ?_
      refine lv_iload_n hx hb dX11_feed_18 rfl (lv_at hl 1 rfl) ?_
      obtain ⟨r_1, M_2, c_3, h⟩ := fp_b2_s h
      refine fp_callVi (As := [.int p1]) (rest := []) E hG (c_X6_add l D G B c_3) cv_X6_add tw_352 tw_353 tw_354 ⟨rfl, rfl⟩ ⟨Nat.le_of_ble_eq_true rfl, Nat.le_of_ble_eq_true rfl⟩ (fp_recv E hG (by decide) (fp_o6 _) rfl) rfl rfl (Nat.le_of_ble_eq_true rfl) hl.1 dX11_feed_19 ⟨Nat.zero_le _, Nat.zero_le _⟩ (fun H locs hG => ?_)
      refine lv_if_ne (tgt := 28) hx hb dX11_feed_22 (by decide) (fun q => ?_) (fun q => ?_)
      · replace h := fp_ifF q h
        refine lv_aload_n hx hb dX11_feed_28 rfl (lv_at hl 0 rfl) ?_
        refine fp_g11_0 E hG tw_313 dX11_feed_29 ?_
        refine fp_g6_2 E hG tw_90 dX11_feed_32 ?_
        exact fp_ireti E hG (fp_pr1 h) (fp_pr2 h) dX11_feed_35
      · replace h := fp_ifT q h
        refine lv_ldc (v := (-1000000004 : Int32)) hx hb hown (fp_tabs E tw_356) dX11_feed_25 ?_
        exact fp_ireti E hG (fp_pr1 h) (fp_pr2 h) dX11_feed_27
    · replace h := fp_ifF q h
      exact w_X11_feed_11 E   _ hG (lv_sub hl [] rfl) h
theorem c_X11_feed (l : Launch) (D : va_G) (G : Nat → ClassId) (B : Nat) {M : fp_Mem}  {p1 : Int32} {r : Int32} {M' : fp_Mem}  (h : m_X11_feed M p1 = some (r, M')) : Met l yX11_feed (Cond.code yX11_feed cX11_feed 2 (some .int) :: fp_T) rm_X11_feed (va_Pc [.ref (B + 0), .int p1] (fp_GS D G B M)) (fp_Qi D G B r M') 0 0 (fp_A B) :=
  fp_met (own := RX11) (by decide) rfl (Nat.le_of_ble_eq_true rfl) (fun E hG hl => w_X11_feed_0 E  hG hl h)
abbrev rm_X11_realm : Room := { frames := 6, cells := 0, slots := 0, locals := 129 }
theorem cv_X11_realm : fp_CV yX11_realm cX11_realm 1 (some .int) 0 := ⟨tw_360, tw_1, by decide, by decide +kernel⟩
set_option maxHeartbeats 2000000 in
theorem w_X11_realm_0 {p : Program} {l : Launch} {e : Env} {s : State} {m : MethodId} {args : Array Value} {below : List Frame} {meth : Method} {c : Code} {D : va_G} {G : Nat → ClassId} {B : Nat} {r : Int32} {M' : fp_Mem} (E : fp_EV p s m args meth c cX11_realm 1 RX11 (some .int) D G) {M : fp_Mem} {H : Heap} {locs : List Loc} {ls : Array Slot} (hG : fp_H D G B s M H locs) (hl : lv_has ls 1 [(0, .ref (B + 0))]) (h : m_X11_realm M = some (r, M')) : W p l e rm_X11_realm s m args below meth c H locs 0 0 (MQ below (fp_Qi D G B r M') args s 0 0 (fp_A B)) (F0 m 0 ls []) := by
  have hx := E.1
  have hb := E.2.1
  have hown := E.2.2.2.1
  unfold m_X11_realm at h
  refine lv_aload_n hx hb dX11_realm_0 rfl (lv_at hl 0 rfl) ?_
  refine fp_g11_0 E hG tw_313 dX11_realm_1 ?_
  obtain ⟨r_1, M_2, c_3, h⟩ := fp_b2_s h
  refine fp_callVi (As := []) (rest := []) E hG (c_X6_reads l D G B c_3) cv_X6_reads tw_361 tw_362 tw_363 ⟨rfl, rfl⟩ ⟨Nat.le_of_ble_eq_true rfl, Nat.le_of_ble_eq_true rfl⟩ (fp_recv E hG (by decide) (fp_o6 _) rfl) rfl rfl (Nat.le_of_ble_eq_true rfl) hl.1 dX11_realm_4 ⟨Nat.zero_le _, Nat.zero_le _⟩ (fun H locs hG => ?_)
  refine lv_if_ne (tgt := 21) hx hb dX11_realm_7 (by decide) (fun q => ?_) (fun q => ?_)
  · replace h := fp_ifF q h
    refine lv_aload_n hx hb dX11_realm_21 rfl (lv_at hl 0 rfl) ?_
    refine fp_g11_1 E hG tw_314 dX11_realm_22 ?_
    refine lv_aload_n hx hb dX11_realm_25 rfl (lv_at hl 0 rfl) ?_
    refine fp_g11_0 E hG tw_313 dX11_realm_26 ?_
    refine fp_g6_0 E hG tw_87 dX11_realm_29 ?_
    obtain ⟨M_4, c_5, h⟩ := fp_b1_s h
    refine fp_callVv (As := [.ref (B + 2)]) (rest := []) E hG (c_X7_becomes l D G B fp_is7_8 fp_is7_2 c_5) cv_X7_becomes tw_428 tw_429 tw_430 ⟨rfl, rfl⟩ ⟨Nat.le_of_ble_eq_true rfl, Nat.le_of_ble_eq_true rfl⟩ (fp_recv E hG fp_is7_8.1.1 (fp_o7 fp_is7_8.1 _) rfl) rfl rfl (Nat.le_of_ble_eq_true rfl) hl.1 dX11_realm_32 ⟨Nat.zero_le _, Nat.zero_le _⟩ (fun H locs hG => ?_)
    refine lv_aload_n hx hb dX11_realm_35 rfl (lv_at hl 0 rfl) ?_
    refine fp_g11_2 E hG tw_315 dX11_realm_36 ?_
    refine lv_aload_n hx hb dX11_realm_39 rfl (lv_at hl 0 rfl) ?_
    refine fp_g11_1 E hG tw_314 dX11_realm_40 ?_
    obtain ⟨M_6, c_7, h⟩ := fp_b1_s h
    refine fp_callVv (As := [.ref (B + 8)]) (rest := []) E hG (c_X9_begins l D G B fp_is9_13 fp_is7_8 c_7) cv_X9_begins tw_432 tw_433 tw_434 ⟨rfl, rfl⟩ ⟨Nat.le_of_ble_eq_true rfl, Nat.le_of_ble_eq_true rfl⟩ (fp_recv E hG fp_is9_13.1.1 (fp_o9 fp_is9_13.1 _) rfl) rfl rfl (Nat.le_of_ble_eq_true rfl) hl.1 dX11_realm_43 ⟨Nat.zero_le _, Nat.zero_le _⟩ (fun H locs hG => ?_)
    refine lv_aload_n hx hb dX11_realm_46 rfl (lv_at hl 0 rfl) ?_
    refine fp_g11_6 E hG tw_319 dX11_realm_47 ?_
    obtain ⟨M_8, c_9, h⟩ := fp_b1_s h
    refine fp_callVv (As := []) (rest := []) E hG (c_X8_forget l D G B c_9) cv_X8_forget tw_440 tw_441 tw_442 ⟨rfl, rfl⟩ ⟨Nat.le_of_ble_eq_true rfl, Nat.le_of_ble_eq_true rfl⟩ (fp_recv E hG (by decide) (fp_o8 _) rfl) rfl rfl (Nat.le_of_ble_eq_true rfl) hl.1 dX11_realm_50 ⟨Nat.zero_le _, Nat.zero_le _⟩ (fun H locs hG => ?_)
    refine lv_aload_n hx hb dX11_realm_53 rfl (lv_at hl 0 rfl) ?_
    refine fp_g11_7 E hG tw_320 dX11_realm_54 ?_
    obtain ⟨M_10, c_11, h⟩ := fp_b1_s h
    refine fp_callVv (As := []) (rest := []) E hG (c_X1_forget l D G B c_11) cv_X1_forget tw_444 tw_445 tw_446 ⟨rfl, rfl⟩ ⟨Nat.le_of_ble_eq_true rfl, Nat.le_of_ble_eq_true rfl⟩ (fp_recv E hG (by decide) (fp_o1 _) rfl) rfl rfl (Nat.le_of_ble_eq_true rfl) hl.1 dX11_realm_57 ⟨Nat.zero_le _, Nat.zero_le _⟩ (fun H locs hG => ?_)
    refine lv_aload_n hx hb dX11_realm_60 rfl (lv_at hl 0 rfl) ?_
    refine fp_g11_9 E hG tw_322 dX11_realm_61 ?_
    obtain ⟨M_12, c_13, h⟩ := fp_b1_s h
    refine fp_callVv (As := []) (rest := []) E hG (c_X4_forget l D G B c_13) cv_X4_forget tw_448 tw_449 tw_450 ⟨rfl, rfl⟩ ⟨Nat.le_of_ble_eq_true rfl, Nat.le_of_ble_eq_true rfl⟩ (fp_recv E hG (by decide) (fp_o4 _) rfl) rfl rfl (Nat.le_of_ble_eq_true rfl) hl.1 dX11_realm_64 ⟨Nat.zero_le _, Nat.zero_le _⟩ (fun H locs hG => ?_)
    refine lv_aload_n hx hb dX11_realm_67 rfl (lv_at hl 0 rfl) ?_
    refine fp_g11_10 E hG tw_323 dX11_realm_68 ?_
    obtain ⟨M_14, c_15, h⟩ := fp_b1_s h
    refine fp_callVv (As := []) (rest := []) E hG (c_X5_forget l D G B c_15) cv_X5_forget tw_452 tw_453 tw_454 ⟨rfl, rfl⟩ ⟨Nat.le_of_ble_eq_true rfl, Nat.le_of_ble_eq_true rfl⟩ (fp_recv E hG (by decide) (fp_o5 _) rfl) rfl rfl (Nat.le_of_ble_eq_true rfl) hl.1 dX11_realm_71 ⟨Nat.zero_le _, Nat.zero_le _⟩ (fun H locs hG => ?_)
    refine lv_aload_n hx hb dX11_realm_74 rfl (lv_at hl 0 rfl) ?_
    refine fp_g11_1 E hG tw_314 dX11_realm_75 ?_
    refine fp_g7_3 E hG fp_is7_8.1 tw_48 dX11_realm_78 ?_
    exact fp_ireti E hG (fp_pr1 h) (fp_pr2 h) dX11_realm_81
  · replace h := fp_ifT q h
    refine lv_bipush (v := (-10 : Int32)) hx hb dX11_realm_10 (by decide) ?_
    refine lv_aload_n hx hb dX11_realm_12 rfl (lv_at hl 0 rfl) ?_
    refine fp_g11_0 E hG tw_313 dX11_realm_13 ?_
    refine fp_g6_5 E hG tw_94 dX11_realm_16 ?_
    refine lv_isub hx hb dX11_realm_19 ?_
    exact fp_ireti E hG (fp_pr1 h) (fp_pr2 h) dX11_realm_20
theorem c_X11_realm (l : Launch) (D : va_G) (G : Nat → ClassId) (B : Nat) {M : fp_Mem}   {r : Int32} {M' : fp_Mem}  (h : m_X11_realm M = some (r, M')) : Met l yX11_realm (Cond.code yX11_realm cX11_realm 1 (some .int) :: fp_T) rm_X11_realm (va_Pc [.ref (B + 0)] (fp_GS D G B M)) (fp_Qi D G B r M') 0 0 (fp_A B) :=
  fp_met (own := RX11) (by decide) rfl (Nat.le_of_ble_eq_true rfl) (fun E hG hl => w_X11_realm_0 E  hG hl h)
abbrev rm_X11_fault : Room := { frames := 0, cells := 0, slots := 0, locals := 0 }
theorem cv_X11_fault : fp_CV yX11_fault cX11_fault 1 (some .int) 0 := ⟨tw_459, tw_1, by decide, by decide +kernel⟩
set_option maxHeartbeats 2000000 in
theorem w_X11_fault_0 {p : Program} {l : Launch} {e : Env} {s : State} {m : MethodId} {args : Array Value} {below : List Frame} {meth : Method} {c : Code} {D : va_G} {G : Nat → ClassId} {B : Nat} {M : fp_Mem} {r : Int32} (E : fp_EV p s m args meth c cX11_fault 1 RX11 (some .int) D G) {H : Heap} {locs : List Loc} {ls : Array Slot} (hG : fp_H D G B s M H locs) (hl : lv_has ls 1 [(0, .ref (B + 0))]) (h : m_X11_fault M = some r) : W p l e rm_X11_fault s m args below meth c H locs 0 0 (MQ below (fp_Qi D G B r M) args s 0 0 (fp_A B)) (F0 m 0 ls []) := by
  have hx := E.1
  have hb := E.2.1
  have hown := E.2.2.2.1
  unfold m_X11_fault at h
  refine lv_aload_n hx hb dX11_fault_0 rfl (lv_at hl 0 rfl) ?_
  refine fp_g11_0 E hG tw_313 dX11_fault_1 ?_
  refine fp_g6_6 E hG tw_96 dX11_fault_4 ?_
  exact fp_ireti E hG (Option.some.inj h) rfl dX11_fault_7
theorem c_X11_fault (l : Launch) (D : va_G) (G : Nat → ClassId) (B : Nat) {M : fp_Mem}   {r : Int32}  (h : m_X11_fault M = some r) : Met l yX11_fault (Cond.code yX11_fault cX11_fault 1 (some .int) :: fp_T) rm_X11_fault (va_Pc [.ref (B + 0)] (fp_GS D G B M)) (fp_Qi D G B r M) 0 0 (fp_A B) :=
  fp_met (own := RX11) (by decide) rfl (Nat.le_of_ble_eq_true rfl) (fun E hG hl => w_X11_fault_0 E  hG hl h)
abbrev rm_X11_emergencyNow : Room := { frames := 3, cells := 0, slots := 0, locals := 72 }
theorem cv_X11_emergencyNow : fp_CV yX11_emergencyNow cX11_emergencyNow 1 (some .int) 0 := ⟨tw_479, tw_1, by decide, by decide +kernel⟩
set_option maxHeartbeats 2000000 in
theorem w_X11_emergencyNow_0 {p : Program} {l : Launch} {e : Env} {s : State} {m : MethodId} {args : Array Value} {below : List Frame} {meth : Method} {c : Code} {D : va_G} {G : Nat → ClassId} {B : Nat} {r : Int32} {M' : fp_Mem} (E : fp_EV p s m args meth c cX11_emergencyNow 1 RX11 (some .int) D G) {M : fp_Mem} {H : Heap} {locs : List Loc} {ls : Array Slot} (hG : fp_H D G B s M H locs) (hl : lv_has ls 1 [(0, .ref (B + 0))]) (h : m_X11_emergencyNow M = some (r, M')) : W p l e rm_X11_emergencyNow s m args below meth c H locs 0 0 (MQ below (fp_Qi D G B r M') args s 0 0 (fp_A B)) (F0 m 0 ls []) := by
  have hx := E.1
  have hb := E.2.1
  have hown := E.2.2.2.1
  unfold m_X11_emergencyNow at h
  refine lv_aload_n hx hb dX11_emergencyNow_0 rfl (lv_at hl 0 rfl) ?_
  refine fp_g11_3 E hG tw_316 dX11_emergencyNow_1 ?_
  refine lv_aload_n hx hb dX11_emergencyNow_4 rfl (lv_at hl 0 rfl) ?_
  refine fp_g11_1 E hG tw_314 dX11_emergencyNow_5 ?_
  refine lv_aload_n hx hb dX11_emergencyNow_8 rfl (lv_at hl 0 rfl) ?_
  refine fp_g11_2 E hG tw_315 dX11_emergencyNow_9 ?_
  obtain ⟨M_1, c_2, h⟩ := fp_b1_s h
  refine fp_callVv (As := [.ref (B + 8), .ref (B + 13)]) (rest := []) E hG (c_X2_measure l D G B fp_is2_16 fp_is7_8 fp_is9_13 c_2) cv_X2_measure tw_480 tw_481 tw_482 ⟨rfl, rfl⟩ ⟨Nat.le_of_ble_eq_true rfl, Nat.le_of_ble_eq_true rfl⟩ (fp_recv E hG fp_is2_16.1.1 (fp_o2 fp_is2_16.1 _) rfl) rfl rfl (Nat.le_of_ble_eq_true rfl) hl.1 dX11_emergencyNow_12 ⟨Nat.zero_le _, Nat.zero_le _⟩ (fun H locs hG => ?_)
  refine lv_aload_n hx hb dX11_emergencyNow_15 rfl (lv_at hl 0 rfl) ?_
  refine fp_g11_3 E hG tw_316 dX11_emergencyNow_16 ?_
  obtain ⟨r_3, c_4, h⟩ := fp_b1_s h
  refine fp_callVi (As := []) (rest := []) E hG (c_X2_withoutChain l D G B fp_is2_16 c_4) cv_X2_withoutChain tw_506 tw_507 tw_508 ⟨rfl, rfl⟩ ⟨Nat.le_of_ble_eq_true rfl, Nat.le_of_ble_eq_true rfl⟩ (fp_recv E hG fp_is2_16.1.1 (fp_o2 fp_is2_16.1 _) rfl) rfl rfl (Nat.le_of_ble_eq_true rfl) hl.1 dX11_emergencyNow_19 ⟨Nat.zero_le _, Nat.zero_le _⟩ (fun H locs hG => ?_)
  exact fp_ireti E hG (fp_pr1 h) (fp_pr2 h) dX11_emergencyNow_22
theorem c_X11_emergencyNow (l : Launch) (D : va_G) (G : Nat → ClassId) (B : Nat) {M : fp_Mem}   {r : Int32} {M' : fp_Mem}  (h : m_X11_emergencyNow M = some (r, M')) : Met l yX11_emergencyNow (Cond.code yX11_emergencyNow cX11_emergencyNow 1 (some .int) :: fp_T) rm_X11_emergencyNow (va_Pc [.ref (B + 0)] (fp_GS D G B M)) (fp_Qi D G B r M') 0 0 (fp_A B) :=
  fp_met (own := RX11) (by decide) rfl (Nat.le_of_ble_eq_true rfl) (fun E hG hl => w_X11_emergencyNow_0 E  hG hl h)
abbrev rm_X11_told : Room := { frames := 4, cells := 0, slots := 0, locals := 92 }
theorem cv_X11_told : fp_CV yX11_told cX11_told 2 (some .int) 1 := ⟨tw_463, tw_1, by decide, by decide +kernel⟩
set_option maxHeartbeats 2000000 in
theorem w_X11_told_0 {p : Program} {l : Launch} {e : Env} {s : State} {m : MethodId} {args : Array Value} {below : List Frame} {meth : Method} {c : Code} {D : va_G} {G : Nat → ClassId} {B : Nat} {p1 : Int32} {r : Int32} {M' : fp_Mem} (E : fp_EV p s m args meth c cX11_told 2 RX11 (some .int) D G) {M : fp_Mem} {H : Heap} {locs : List Loc} {ls : Array Slot} (hG : fp_H D G B s M H locs) (hl : lv_has ls 2 [(0, .ref (B + 0)), (1, .int p1)]) (h : m_X11_told M p1 = some (r, M')) : W p l e rm_X11_told s m args below meth c H locs 0 0 (MQ below (fp_Qi D G B r M') args s 0 0 (fp_A B)) (F0 m 0 ls []) := by
  have hx := E.1
  have hb := E.2.1
  have hown := E.2.2.2.1
  unfold m_X11_told at h
  refine lv_iload_n hx hb dX11_told_0 rfl (lv_at hl 1 rfl) ?_
  by_cases q1_0 : p1 = (nI 0)
  · replace h := fp_ifT q1_0 h
    refine lv_tableIn (off := 83) (tgt := 84) hx hb dX11_told_1 (by rw [q1_0]; decide) (by rw [q1_0]; decide) (by rw [q1_0]; rfl) (by decide) ?_
    refine lv_aload_n hx hb dX11_told_84 rfl (lv_at hl 0 rfl) ?_
    refine fp_g11_1 E hG tw_314 dX11_told_85 ?_
    refine fp_g7_1 E hG fp_is7_8.1 tw_41 dX11_told_88 ?_
    exact fp_ireti E hG (fp_pr1 h) (fp_pr2 h) dX11_told_91
  replace h := fp_ifF q1_0 h
  by_cases q1_1 : p1 = (nI 1)
  · replace h := fp_ifT q1_1 h
    refine lv_tableIn (off := 91) (tgt := 92) hx hb dX11_told_1 (by rw [q1_1]; decide) (by rw [q1_1]; decide) (by rw [q1_1]; rfl) (by decide) ?_
    refine lv_aload_n hx hb dX11_told_92 rfl (lv_at hl 0 rfl) ?_
    refine fp_g11_2 E hG tw_315 dX11_told_93 ?_
    refine fp_g9_2 E hG fp_is9_13.1 tw_129 dX11_told_96 ?_
    exact fp_ireti E hG (fp_pr1 h) (fp_pr2 h) dX11_told_99
  replace h := fp_ifF q1_1 h
  by_cases q1_2 : p1 = (nI 2)
  · replace h := fp_ifT q1_2 h
    refine lv_tableIn (off := 99) (tgt := 100) hx hb dX11_told_1 (by rw [q1_2]; decide) (by rw [q1_2]; decide) (by rw [q1_2]; rfl) (by decide) ?_
    refine lv_aload_n hx hb dX11_told_100 rfl (lv_at hl 0 rfl) ?_
    refine fp_g11_1 E hG tw_314 dX11_told_101 ?_
    refine fp_g7_3 E hG fp_is7_8.1 tw_48 dX11_told_104 ?_
    exact fp_ireti E hG (fp_pr1 h) (fp_pr2 h) dX11_told_107
  replace h := fp_ifF q1_2 h
  by_cases q1_3 : p1 = (nI 3)
  · replace h := fp_ifT q1_3 h
    refine lv_tableIn (off := 107) (tgt := 108) hx hb dX11_told_1 (by rw [q1_3]; decide) (by rw [q1_3]; decide) (by rw [q1_3]; rfl) (by decide) ?_
    refine lv_aload_n hx hb dX11_told_108 rfl (lv_at hl 0 rfl) ?_
    refine fp_g11_1 E hG tw_314 dX11_told_109 ?_
    refine fp_g7_4 E hG fp_is7_8.1 tw_55 dX11_told_112 ?_
    exact fp_ireti E hG (fp_pr1 h) (fp_pr2 h) dX11_told_115
  replace h := fp_ifF q1_3 h
  by_cases q1_4 : p1 = (nI 4)
  · replace h := fp_ifT q1_4 h
    refine lv_tableIn (off := 115) (tgt := 116) hx hb dX11_told_1 (by rw [q1_4]; decide) (by rw [q1_4]; decide) (by rw [q1_4]; rfl) (by decide) ?_
    refine lv_aload_n hx hb dX11_told_116 rfl (lv_at hl 0 rfl) ?_
    refine fp_g11_0 E hG tw_313 dX11_told_117 ?_
    refine fp_g6_2 E hG tw_90 dX11_told_120 ?_
    exact fp_ireti E hG (fp_pr1 h) (fp_pr2 h) dX11_told_123
  replace h := fp_ifF q1_4 h
  by_cases q1_5 : p1 = (nI 5)
  · replace h := fp_ifT q1_5 h
    refine lv_tableIn (off := 123) (tgt := 124) hx hb dX11_told_1 (by rw [q1_5]; decide) (by rw [q1_5]; decide) (by rw [q1_5]; rfl) (by decide) ?_
    refine lv_aload_n hx hb dX11_told_124 rfl (lv_at hl 0 rfl) ?_
    refine fp_g11_2 E hG tw_315 dX11_told_125 ?_
    obtain ⟨r_1, c_2, h⟩ := fp_b1_s h
    refine fp_callVi (As := []) (rest := []) E hG (c_X9_sitting l D G B fp_is9_13 c_2) cv_X9_sitting tw_464 tw_465 tw_466 ⟨rfl, rfl⟩ ⟨Nat.le_of_ble_eq_true rfl, Nat.le_of_ble_eq_true rfl⟩ (fp_recv E hG fp_is9_13.1.1 (fp_o9 fp_is9_13.1 _) rfl) rfl rfl (Nat.le_of_ble_eq_true rfl) hl.1 dX11_told_128 ⟨Nat.zero_le _, Nat.zero_le _⟩ (fun H locs hG => ?_)
    exact fp_ireti E hG (fp_pr1 h) (fp_pr2 h) dX11_told_131
  replace h := fp_ifF q1_5 h
  by_cases q1_6 : p1 = (nI 6)
  · replace h := fp_ifT q1_6 h
    refine lv_tableIn (off := 131) (tgt := 132) hx hb dX11_told_1 (by rw [q1_6]; decide) (by rw [q1_6]; decide) (by rw [q1_6]; rfl) (by decide) ?_
    refine lv_aload_n hx hb dX11_told_132 rfl (lv_at hl 0 rfl) ?_
    refine fp_g11_2 E hG tw_315 dX11_told_133 ?_
    refine fp_g9_4 E hG fp_is9_13.1 tw_136 dX11_told_136 ?_
    exact fp_ireti E hG (fp_pr1 h) (fp_pr2 h) dX11_told_139
  replace h := fp_ifF q1_6 h
  by_cases q1_7 : p1 = (nI 7)
  · replace h := fp_ifT q1_7 h
    refine lv_tableIn (off := 139) (tgt := 140) hx hb dX11_told_1 (by rw [q1_7]; decide) (by rw [q1_7]; decide) (by rw [q1_7]; rfl) (by decide) ?_
    refine lv_aload_n hx hb dX11_told_140 rfl (lv_at hl 0 rfl) ?_
    refine fp_g11_2 E hG tw_315 dX11_told_141 ?_
    refine fp_g9_5 E hG fp_is9_13.1 tw_139 dX11_told_144 ?_
    exact fp_ireti E hG (fp_pr1 h) (fp_pr2 h) dX11_told_147
  replace h := fp_ifF q1_7 h
  by_cases q1_8 : p1 = (nI 8)
  · replace h := fp_ifT q1_8 h
    refine lv_tableIn (off := 147) (tgt := 148) hx hb dX11_told_1 (by rw [q1_8]; decide) (by rw [q1_8]; decide) (by rw [q1_8]; rfl) (by decide) ?_
    refine lv_aload_n hx hb dX11_told_148 rfl (lv_at hl 0 rfl) ?_
    refine fp_g11_2 E hG tw_315 dX11_told_149 ?_
    refine fp_g9_6 E hG fp_is9_13.1 tw_142 dX11_told_152 ?_
    exact fp_ireti E hG (fp_pr1 h) (fp_pr2 h) dX11_told_155
  replace h := fp_ifF q1_8 h
  by_cases q1_9 : p1 = (nI 9)
  · replace h := fp_ifT q1_9 h
    refine lv_tableIn (off := 155) (tgt := 156) hx hb dX11_told_1 (by rw [q1_9]; decide) (by rw [q1_9]; decide) (by rw [q1_9]; rfl) (by decide) ?_
    refine lv_aload_n hx hb dX11_told_156 rfl (lv_at hl 0 rfl) ?_
    refine fp_g11_2 E hG tw_315 dX11_told_157 ?_
    refine fp_g9_7 E hG fp_is9_13.1 tw_145 dX11_told_160 ?_
    exact fp_ireti E hG (fp_pr1 h) (fp_pr2 h) dX11_told_163
  replace h := fp_ifF q1_9 h
  by_cases q1_10 : p1 = (nI 10)
  · replace h := fp_ifT q1_10 h
    refine lv_tableIn (off := 163) (tgt := 164) hx hb dX11_told_1 (by rw [q1_10]; decide) (by rw [q1_10]; decide) (by rw [q1_10]; rfl) (by decide) ?_
    refine lv_aload_n hx hb dX11_told_164 rfl (lv_at hl 0 rfl) ?_
    refine fp_g11_2 E hG tw_315 dX11_told_165 ?_
    refine fp_g9_8 E hG fp_is9_13.1 tw_148 dX11_told_168 ?_
    exact fp_ireti E hG (fp_pr1 h) (fp_pr2 h) dX11_told_171
  replace h := fp_ifF q1_10 h
  by_cases q1_11 : p1 = (nI 11)
  · replace h := fp_ifT q1_11 h
    refine lv_tableIn (off := 171) (tgt := 172) hx hb dX11_told_1 (by rw [q1_11]; decide) (by rw [q1_11]; decide) (by rw [q1_11]; rfl) (by decide) ?_
    refine lv_aload_n hx hb dX11_told_172 rfl (lv_at hl 0 rfl) ?_
    refine fp_g11_2 E hG tw_315 dX11_told_173 ?_
    refine lv_iconst (v := (nI 1)) hx hb dX11_told_176 (by decide) ?_
    refine lv_aload_n hx hb dX11_told_177 rfl (lv_at hl 0 rfl) ?_
    refine fp_g11_1 E hG tw_314 dX11_told_178 ?_
    refine fp_g7_3 E hG fp_is7_8.1 tw_48 dX11_told_181 ?_
    obtain ⟨r_3, c_4, h⟩ := fp_b1_s h
    refine fp_callVi (As := [.int (nI 1), .int (M 8 3)]) (rest := []) E hG (c_X9_withFreeBelow l D G B fp_is9_13 c_4) cv_X9_withFreeBelow tw_468 tw_469 tw_470 ⟨rfl, rfl⟩ ⟨Nat.le_of_ble_eq_true rfl, Nat.le_of_ble_eq_true rfl⟩ (fp_recv E hG fp_is9_13.1.1 (fp_o9 fp_is9_13.1 _) rfl) rfl rfl (Nat.le_of_ble_eq_true rfl) hl.1 dX11_told_184 ⟨Nat.zero_le _, Nat.zero_le _⟩ (fun H locs hG => ?_)
    exact fp_ireti E hG (fp_pr1 h) (fp_pr2 h) dX11_told_187
  replace h := fp_ifF q1_11 h
  by_cases q1_12 : p1 = (nI 12)
  · replace h := fp_ifT q1_12 h
    refine lv_tableIn (off := 187) (tgt := 188) hx hb dX11_told_1 (by rw [q1_12]; decide) (by rw [q1_12]; decide) (by rw [q1_12]; rfl) (by decide) ?_
    refine lv_aload_n hx hb dX11_told_188 rfl (lv_at hl 0 rfl) ?_
    obtain ⟨r_5, M_6, c_7, h⟩ := fp_b2_s h
    refine fp_callVi (As := []) (rest := []) E hG (c_X11_emergencyNow l D G B c_7) cv_X11_emergencyNow tw_476 tw_478 ts_11 ⟨rfl, rfl⟩ ⟨Nat.le_of_ble_eq_true rfl, Nat.le_of_ble_eq_true rfl⟩ (fp_recv E hG (by decide) (fp_o11 _) rfl) rfl rfl (Nat.le_of_ble_eq_true rfl) hl.1 dX11_told_189 ⟨Nat.zero_le _, Nat.zero_le _⟩ (fun H locs hG => ?_)
    exact fp_ireti E hG (fp_pr1 h) (fp_pr2 h) dX11_told_192
  replace h := fp_ifF q1_12 h
  by_cases q1_13 : p1 = (nI 13)
  · replace h := fp_ifT q1_13 h
    refine lv_tableIn (off := 192) (tgt := 193) hx hb dX11_told_1 (by rw [q1_13]; decide) (by rw [q1_13]; decide) (by rw [q1_13]; rfl) (by decide) ?_
    refine lv_aload_n hx hb dX11_told_193 rfl (lv_at hl 0 rfl) ?_
    refine fp_g11_2 E hG tw_315 dX11_told_194 ?_
    refine fp_g9_3 E hG fp_is9_13.1 tw_133 dX11_told_197 ?_
    exact fp_ireti E hG (fp_pr1 h) (fp_pr2 h) dX11_told_200
  replace h := fp_ifF q1_13 h
  by_cases q1_14 : p1 = (nI 14)
  · replace h := fp_ifT q1_14 h
    refine lv_tableIn (off := 200) (tgt := 201) hx hb dX11_told_1 (by rw [q1_14]; decide) (by rw [q1_14]; decide) (by rw [q1_14]; rfl) (by decide) ?_
    refine lv_aload_n hx hb dX11_told_201 rfl (lv_at hl 0 rfl) ?_
    refine fp_g11_6 E hG tw_319 dX11_told_202 ?_
    refine fp_g8_0 E hG tw_235 dX11_told_205 ?_
    exact fp_ireti E hG (fp_pr1 h) (fp_pr2 h) dX11_told_208
  replace h := fp_ifF q1_14 h
  by_cases q1_15 : p1 = (nI 15)
  · replace h := fp_ifT q1_15 h
    refine lv_tableIn (off := 208) (tgt := 209) hx hb dX11_told_1 (by rw [q1_15]; decide) (by rw [q1_15]; decide) (by rw [q1_15]; rfl) (by decide) ?_
    refine lv_aload_n hx hb dX11_told_209 rfl (lv_at hl 0 rfl) ?_
    refine fp_g11_7 E hG tw_320 dX11_told_210 ?_
    refine fp_g1_0 E hG tw_252 dX11_told_213 ?_
    exact fp_ireti E hG (fp_pr1 h) (fp_pr2 h) dX11_told_216
  replace h := fp_ifF q1_15 h
  by_cases q1_16 : p1 = (nI 16)
  · replace h := fp_ifT q1_16 h
    refine lv_tableIn (off := 216) (tgt := 217) hx hb dX11_told_1 (by rw [q1_16]; decide) (by rw [q1_16]; decide) (by rw [q1_16]; rfl) (by decide) ?_
    refine lv_aload_n hx hb dX11_told_217 rfl (lv_at hl 0 rfl) ?_
    refine fp_g11_9 E hG tw_322 dX11_told_218 ?_
    refine fp_g4_0 E hG tw_284 dX11_told_221 ?_
    exact fp_ireti E hG (fp_pr1 h) (fp_pr2 h) dX11_told_224
  replace h := fp_ifF q1_16 h
  refine lv_tableOut (tgt := 225) hx hb dX11_told_1 (by have eq1_0 := lv_neT (a := 0) q1_0 rfl; have eq1_1 := lv_neT (a := 1) q1_1 rfl; have eq1_2 := lv_neT (a := 2) q1_2 rfl; have eq1_3 := lv_neT (a := 3) q1_3 rfl; have eq1_4 := lv_neT (a := 4) q1_4 rfl; have eq1_5 := lv_neT (a := 5) q1_5 rfl; have eq1_6 := lv_neT (a := 6) q1_6 rfl; have eq1_7 := lv_neT (a := 7) q1_7 rfl; have eq1_8 := lv_neT (a := 8) q1_8 rfl; have eq1_9 := lv_neT (a := 9) q1_9 rfl; have eq1_10 := lv_neT (a := 10) q1_10 rfl; have eq1_11 := lv_neT (a := 11) q1_11 rfl; have eq1_12 := lv_neT (a := 12) q1_12 rfl; have eq1_13 := lv_neT (a := 13) q1_13 rfl; have eq1_14 := lv_neT (a := 14) q1_14 rfl; have eq1_15 := lv_neT (a := 15) q1_15 rfl; have eq1_16 := lv_neT (a := 16) q1_16 rfl; omega) (by decide) ?_
  refine lv_ldc (v := (-1000000002 : Int32)) hx hb hown (fp_tabs E tw_351) dX11_told_225 ?_
  exact fp_ireti E hG (fp_pr1 h) (fp_pr2 h) dX11_told_227
theorem c_X11_told (l : Launch) (D : va_G) (G : Nat → ClassId) (B : Nat) {M : fp_Mem}  {p1 : Int32} {r : Int32} {M' : fp_Mem}  (h : m_X11_told M p1 = some (r, M')) : Met l yX11_told (Cond.code yX11_told cX11_told 2 (some .int) :: fp_T) rm_X11_told (va_Pc [.ref (B + 0), .int p1] (fp_GS D G B M)) (fp_Qi D G B r M') 0 0 (fp_A B) :=
  fp_met (own := RX11) (by decide) rfl (Nat.le_of_ble_eq_true rfl) (fun E hG hl => w_X11_told_0 E  hG hl h)
abbrev rm_X11_joinedNow : Room := { frames := 2, cells := 0, slots := 0, locals := 46 }
theorem cv_X11_joinedNow : fp_CV yX11_joinedNow cX11_joinedNow 2 (some .int) 1 := ⟨tw_520, tw_1, by decide, by decide +kernel⟩
set_option maxHeartbeats 2000000 in
theorem w_X11_joinedNow_0 {p : Program} {l : Launch} {e : Env} {s : State} {m : MethodId} {args : Array Value} {below : List Frame} {meth : Method} {c : Code} {D : va_G} {G : Nat → ClassId} {B : Nat} {p1 : Int32} {r : Int32} {M' : fp_Mem} (E : fp_EV p s m args meth c cX11_joinedNow 2 RX11 (some .int) D G) {M : fp_Mem} {H : Heap} {locs : List Loc} {ls : Array Slot} (hG : fp_H D G B s M H locs) (hl : lv_has ls 2 [(0, .ref (B + 0)), (1, .int p1)]) (h : m_X11_joinedNow M p1 = some (r, M')) : W p l e rm_X11_joinedNow s m args below meth c H locs 0 0 (MQ below (fp_Qi D G B r M') args s 0 0 (fp_A B)) (F0 m 0 ls []) := by
  have hx := E.1
  have hb := E.2.1
  have hown := E.2.2.2.1
  unfold m_X11_joinedNow at h
  refine lv_aload_n hx hb dX11_joinedNow_0 rfl (lv_at hl 0 rfl) ?_
  refine fp_g11_3 E hG tw_316 dX11_joinedNow_1 ?_
  refine lv_aload_n hx hb dX11_joinedNow_4 rfl (lv_at hl 0 rfl) ?_
  refine fp_g11_1 E hG tw_314 dX11_joinedNow_5 ?_
  refine lv_aload_n hx hb dX11_joinedNow_8 rfl (lv_at hl 0 rfl) ?_
  refine fp_g11_2 E hG tw_315 dX11_joinedNow_9 ?_
  refine fp_g9_3 E hG fp_is9_13.1 tw_133 dX11_joinedNow_12 ?_
  obtain ⟨M_1, c_2, h⟩ := fp_b1_s h
  refine fp_callVv (As := [.ref (B + 8), .int (M 13 3)]) (rest := []) E hG (c_X2_join l D G B fp_is2_16 fp_is7_8 c_2) cv_X2_join tw_521 tw_485 tw_486 ⟨rfl, rfl⟩ ⟨Nat.le_of_ble_eq_true rfl, Nat.le_of_ble_eq_true rfl⟩ (fp_recv E hG fp_is2_16.1.1 (fp_o2 fp_is2_16.1 _) rfl) rfl rfl (Nat.le_of_ble_eq_true rfl) hl.1 dX11_joinedNow_15 ⟨Nat.zero_le _, Nat.zero_le _⟩ (fun H locs hG => ?_)
  refine lv_aload_n hx hb dX11_joinedNow_18 rfl (lv_at hl 0 rfl) ?_
  refine fp_g11_3 E hG tw_316 dX11_joinedNow_19 ?_
  refine lv_iconst (v := (nI 1)) hx hb dX11_joinedNow_22 (by decide) ?_
  refine lv_iload_n hx hb dX11_joinedNow_23 rfl (lv_at hl 1 rfl) ?_
  refine lv_ishl hx hb dX11_joinedNow_24 ?_
  obtain ⟨r_3, c_4, h⟩ := fp_b1_s h
  refine fp_callVi (As := [.int ((nI 1) <<< (p1 &&& 31))]) (rest := []) E hG (c_X2_around l D G B fp_is2_16 c_4) cv_X2_around tw_522 tw_503 tw_504 ⟨rfl, rfl⟩ ⟨Nat.le_of_ble_eq_true rfl, Nat.le_of_ble_eq_true rfl⟩ (fp_recv E hG fp_is2_16.1.1 (fp_o2 fp_is2_16.1 _) rfl) rfl rfl (Nat.le_of_ble_eq_true rfl) hl.1 dX11_joinedNow_25 ⟨Nat.zero_le _, Nat.zero_le _⟩ (fun H locs hG => ?_)
  exact fp_ireti E hG (fp_pr1 h) (fp_pr2 h) dX11_joinedNow_28
theorem c_X11_joinedNow (l : Launch) (D : va_G) (G : Nat → ClassId) (B : Nat) {M : fp_Mem}  {p1 : Int32} {r : Int32} {M' : fp_Mem}  (h : m_X11_joinedNow M p1 = some (r, M')) : Met l yX11_joinedNow (Cond.code yX11_joinedNow cX11_joinedNow 2 (some .int) :: fp_T) rm_X11_joinedNow (va_Pc [.ref (B + 0), .int p1] (fp_GS D G B M)) (fp_Qi D G B r M') 0 0 (fp_A B) :=
  fp_met (own := RX11) (by decide) rfl (Nat.le_of_ble_eq_true rfl) (fun E hG hl => w_X11_joinedNow_0 E  hG hl h)
abbrev rm_X11_table : Room := { frames := 3, cells := 0, slots := 0, locals := 67 }
theorem cv_X11_table : fp_CV yX11_table cX11_table 3 (some .int) 2 := ⟨tw_513, tw_1, by decide, by decide +kernel⟩
set_option maxHeartbeats 2000000 in
theorem w_X11_table_0 {p : Program} {l : Launch} {e : Env} {s : State} {m : MethodId} {args : Array Value} {below : List Frame} {meth : Method} {c : Code} {D : va_G} {G : Nat → ClassId} {B : Nat} {p1 : Int32} {p2 : Int32} {r : Int32} {M' : fp_Mem} (E : fp_EV p s m args meth c cX11_table 3 RX11 (some .int) D G) {M : fp_Mem} {H : Heap} {locs : List Loc} {ls : Array Slot} (hG : fp_H D G B s M H locs) (hl : lv_has ls 3 [(0, .ref (B + 0)), (1, .int p1), (2, .int p2)]) (h : m_X11_table M p1 p2 = some (r, M')) : W p l e rm_X11_table s m args below meth c H locs 0 0 (MQ below (fp_Qi D G B r M') args s 0 0 (fp_A B)) (F0 m 0 ls []) := by
  have hx := E.1
  have hb := E.2.1
  have hown := E.2.2.2.1
  unfold m_X11_table at h
  refine lv_aload_n hx hb dX11_table_0 rfl (lv_at hl 0 rfl) ?_
  refine fp_g11_1 E hG tw_314 dX11_table_1 ?_
  refine lv_iload_n hx hb dX11_table_4 rfl (lv_at hl 1 rfl) ?_
  obtain ⟨r_1, c_2, h⟩ := fp_b1_s h
  refine fp_callVi (As := [.int p1]) (rest := []) E hG (c_X7_hasTable l D G B fp_is7_8 c_2) cv_X7_hasTable tw_514 tw_437 tw_438 ⟨rfl, rfl⟩ ⟨Nat.le_of_ble_eq_true rfl, Nat.le_of_ble_eq_true rfl⟩ (fp_recv E hG fp_is7_8.1.1 (fp_o7 fp_is7_8.1 _) rfl) rfl rfl (Nat.le_of_ble_eq_true rfl) hl.1 dX11_table_5 ⟨Nat.zero_le _, Nat.zero_le _⟩ (fun H locs hG => ?_)
  refine lv_if_ne (tgt := 14) hx hb dX11_table_8 (by decide) (fun q => ?_) (fun q => ?_)
  · replace h := fp_ifF q h
    refine lv_iload_n hx hb dX11_table_14 rfl (lv_at hl 2 rfl) ?_
    by_cases q15_0 : p2 = (nI 0)
    · replace h := fp_ifT q15_0 h
      refine lv_tableIn (off := 29) (tgt := 44) hx hb dX11_table_15 (by rw [q15_0]; decide) (by rw [q15_0]; decide) (by rw [q15_0]; rfl) (by decide) ?_
      refine lv_aload_n hx hb dX11_table_44 rfl (lv_at hl 0 rfl) ?_
      refine fp_g11_2 E hG tw_315 dX11_table_45 ?_
      refine fp_g9_0 E hG fp_is9_13.1 tw_123 dX11_table_48 ?_
      refine lv_iload_n hx hb dX11_table_51 rfl (lv_at hl 1 rfl) ?_
      obtain ⟨g_3, h⟩ := fp_gd_s h
      refine fp_iald E hG (fp_is9_13.2.1).1 (fp_a20 (fp_is9_13.2.1)) (fp_in_s g_3) dX11_table_52 ?_
      exact fp_ireti E hG (fp_pr1 h) (fp_pr2 h) dX11_table_53
    replace h := fp_ifF q15_0 h
    by_cases q15_1 : p2 = (nI 1)
    · replace h := fp_ifT q15_1 h
      refine lv_tableIn (off := 39) (tgt := 54) hx hb dX11_table_15 (by rw [q15_1]; decide) (by rw [q15_1]; decide) (by rw [q15_1]; rfl) (by decide) ?_
      refine lv_aload_n hx hb dX11_table_54 rfl (lv_at hl 0 rfl) ?_
      refine fp_g11_2 E hG tw_315 dX11_table_55 ?_
      refine fp_g9_1 E hG fp_is9_13.1 tw_127 dX11_table_58 ?_
      refine lv_iload_n hx hb dX11_table_61 rfl (lv_at hl 1 rfl) ?_
      obtain ⟨g_4, h⟩ := fp_gd_s h
      refine fp_iald E hG (fp_is9_13.2.2).1 (fp_a20 (fp_is9_13.2.2)) (fp_in_s g_4) dX11_table_62 ?_
      exact fp_ireti E hG (fp_pr1 h) (fp_pr2 h) dX11_table_63
    replace h := fp_ifF q15_1 h
    by_cases q15_2 : p2 = (nI 2)
    · replace h := fp_ifT q15_2 h
      refine lv_tableIn (off := 49) (tgt := 64) hx hb dX11_table_15 (by rw [q15_2]; decide) (by rw [q15_2]; decide) (by rw [q15_2]; rfl) (by decide) ?_
      refine lv_aload_n hx hb dX11_table_64 rfl (lv_at hl 0 rfl) ?_
      refine fp_g11_2 E hG tw_315 dX11_table_65 ?_
      refine lv_iload_n hx hb dX11_table_68 rfl (lv_at hl 1 rfl) ?_
      obtain ⟨r_5, c_6, h⟩ := fp_b1_s h
      refine fp_callVi (As := [.int p1]) (rest := []) E hG (c_X9_free l D G B fp_is9_13 c_6) cv_X9_free tw_516 tw_473 tw_474 ⟨rfl, rfl⟩ ⟨Nat.le_of_ble_eq_true rfl, Nat.le_of_ble_eq_true rfl⟩ (fp_recv E hG fp_is9_13.1.1 (fp_o9 fp_is9_13.1 _) rfl) rfl rfl (Nat.le_of_ble_eq_true rfl) hl.1 dX11_table_69 ⟨Nat.zero_le _, Nat.zero_le _⟩ (fun H locs hG => ?_)
      exact fp_ireti E hG (fp_pr1 h) (fp_pr2 h) dX11_table_72
    replace h := fp_ifF q15_2 h
    by_cases q15_3 : p2 = (nI 3)
    · replace h := fp_ifT q15_3 h
      refine lv_tableIn (off := 58) (tgt := 73) hx hb dX11_table_15 (by rw [q15_3]; decide) (by rw [q15_3]; decide) (by rw [q15_3]; rfl) (by decide) ?_
      refine lv_aload_n hx hb dX11_table_73 rfl (lv_at hl 0 rfl) ?_
      refine lv_iload_n hx hb dX11_table_74 rfl (lv_at hl 1 rfl) ?_
      obtain ⟨r_7, M_8, c_9, h⟩ := fp_b2_s h
      refine fp_callVi (As := [.int p1]) (rest := []) E hG (c_X11_joinedNow l D G B c_9) cv_X11_joinedNow tw_517 tw_519 ts_13 ⟨rfl, rfl⟩ ⟨Nat.le_of_ble_eq_true rfl, Nat.le_of_ble_eq_true rfl⟩ (fp_recv E hG (by decide) (fp_o11 _) rfl) rfl rfl (Nat.le_of_ble_eq_true rfl) hl.1 dX11_table_75 ⟨Nat.zero_le _, Nat.zero_le _⟩ (fun H locs hG => ?_)
      exact fp_ireti E hG (fp_pr1 h) (fp_pr2 h) dX11_table_78
    replace h := fp_ifF q15_3 h
    refine lv_tableOut (tgt := 79) hx hb dX11_table_15 (by have eq15_0 := lv_neT (a := 0) q15_0 rfl; have eq15_1 := lv_neT (a := 1) q15_1 rfl; have eq15_2 := lv_neT (a := 2) q15_2 rfl; have eq15_3 := lv_neT (a := 3) q15_3 rfl; omega) (by decide) ?_
    refine lv_ldc (v := (-1000000002 : Int32)) hx hb hown (fp_tabs E tw_351) dX11_table_79 ?_
    exact fp_ireti E hG (fp_pr1 h) (fp_pr2 h) dX11_table_81
  · replace h := fp_ifT q h
    refine lv_ldc (v := (-1000000001 : Int32)) hx hb hown (fp_tabs E tw_515) dX11_table_11 ?_
    exact fp_ireti E hG (fp_pr1 h) (fp_pr2 h) dX11_table_13
theorem c_X11_table (l : Launch) (D : va_G) (G : Nat → ClassId) (B : Nat) {M : fp_Mem}  {p1 : Int32} {p2 : Int32} {r : Int32} {M' : fp_Mem}  (h : m_X11_table M p1 p2 = some (r, M')) : Met l yX11_table (Cond.code yX11_table cX11_table 3 (some .int) :: fp_T) rm_X11_table (va_Pc [.ref (B + 0), .int p1, .int p2] (fp_GS D G B M)) (fp_Qi D G B r M') 0 0 (fp_A B) :=
  fp_met (own := RX11) (by decide) rfl (Nat.le_of_ble_eq_true rfl) (fun E hG hl => w_X11_table_0 E  hG hl h)
abbrev rm_X11_way : Room := { frames := 1, cells := 0, slots := 0, locals := 21 }
theorem cv_X11_way : fp_CV yX11_way cX11_way 3 (some .int) 2 := ⟨tw_526, tw_1, by decide, by decide +kernel⟩
set_option maxHeartbeats 2000000 in
theorem w_X11_way_76 {p : Program} {l : Launch} {e : Env} {s : State} {m : MethodId} {args : Array Value} {below : List Frame} {meth : Method} {c : Code} {D : va_G} {G : Nat → ClassId} {B : Nat} {M : fp_Mem} {p1 : Int32} {p2 : Int32} {r : Int32} (E : fp_EV p s m args meth c cX11_way 3 RX11 (some .int) D G) (s0 : Int32) {H : Heap} {locs : List Loc} {ls : Array Slot} (hG : fp_H D G B s M H locs) (hl : lv_has ls 3 []) (h : m_X11_way_76 M p1 p2 s0 = some r) : W p l e rm_X11_way s m args below meth c H locs 0 0 (MQ below (fp_Qi D G B r M) args s 0 0 (fp_A B)) (F0 m 76 ls [.int s0]) := by
  have hx := E.1
  have hb := E.2.1
  have hown := E.2.2.2.1
  unfold m_X11_way_76 at h
  exact fp_ireti E hG (Option.some.inj h) rfl dX11_way_76
set_option maxHeartbeats 2000000 in
theorem w_X11_way_0 {p : Program} {l : Launch} {e : Env} {s : State} {m : MethodId} {args : Array Value} {below : List Frame} {meth : Method} {c : Code} {D : va_G} {G : Nat → ClassId} {B : Nat} {M : fp_Mem} {p1 : Int32} {p2 : Int32} {r : Int32} (E : fp_EV p s m args meth c cX11_way 3 RX11 (some .int) D G) {H : Heap} {locs : List Loc} {ls : Array Slot} (hG : fp_H D G B s M H locs) (hl : lv_has ls 3 [(0, .ref (B + 0)), (1, .int p1), (2, .int p2)]) (h : m_X11_way M p1 p2 = some r) : W p l e rm_X11_way s m args below meth c H locs 0 0 (MQ below (fp_Qi D G B r M) args s 0 0 (fp_A B)) (F0 m 0 ls []) := by
  have hx := E.1
  have hb := E.2.1
  have hown := E.2.2.2.1
  unfold m_X11_way at h
  refine lv_aload_n hx hb dX11_way_0 rfl (lv_at hl 0 rfl) ?_
  refine fp_g11_1 E hG tw_314 dX11_way_1 ?_
  refine lv_iload_n hx hb dX11_way_4 rfl (lv_at hl 1 rfl) ?_
  obtain ⟨r_1, c_2, h⟩ := fp_b1_s h
  refine fp_callVi (As := [.int p1]) (rest := []) E hG (c_X7_hasWay l D G B fp_is7_8 c_2) cv_X7_hasWay tw_527 tw_528 tw_529 ⟨rfl, rfl⟩ ⟨Nat.le_of_ble_eq_true rfl, Nat.le_of_ble_eq_true rfl⟩ (fp_recv E hG fp_is7_8.1.1 (fp_o7 fp_is7_8.1 _) rfl) rfl rfl (Nat.le_of_ble_eq_true rfl) hl.1 dX11_way_5 ⟨Nat.zero_le _, Nat.zero_le _⟩ (fun H locs hG => ?_)
  refine lv_if_ne (tgt := 14) hx hb dX11_way_8 (by decide) (fun q => ?_) (fun q => ?_)
  · replace h := fp_ifF q h
    refine lv_iload_n hx hb dX11_way_14 rfl (lv_at hl 2 rfl) ?_
    by_cases q15_0 : p2 = (nI 0)
    · replace h := fp_ifT q15_0 h
      refine lv_tableIn (off := 25) (tgt := 40) hx hb dX11_way_15 (by rw [q15_0]; decide) (by rw [q15_0]; decide) (by rw [q15_0]; rfl) (by decide) ?_
      refine lv_aload_n hx hb dX11_way_40 rfl (lv_at hl 0 rfl) ?_
      refine fp_g11_1 E hG tw_314 dX11_way_41 ?_
      refine fp_g7_7 E hG fp_is7_8.1 tw_62 dX11_way_44 ?_
      refine lv_iload_n hx hb dX11_way_47 rfl (lv_at hl 1 rfl) ?_
      obtain ⟨g_3, h⟩ := fp_gd_s h
      refine fp_iald E hG (fp_is7_8.2.2.2.1).1 (fp_a21 (fp_is7_8.2.2.2.1)) (fp_in_s g_3) dX11_way_48 ?_
      exact fp_ireti E hG (Option.some.inj h) rfl dX11_way_49
    replace h := fp_ifF q15_0 h
    by_cases q15_1 : p2 = (nI 1)
    · replace h := fp_ifT q15_1 h
      refine lv_tableIn (off := 35) (tgt := 50) hx hb dX11_way_15 (by rw [q15_1]; decide) (by rw [q15_1]; decide) (by rw [q15_1]; rfl) (by decide) ?_
      refine lv_aload_n hx hb dX11_way_50 rfl (lv_at hl 0 rfl) ?_
      refine fp_g11_1 E hG tw_314 dX11_way_51 ?_
      refine fp_g7_8 E hG fp_is7_8.1 tw_65 dX11_way_54 ?_
      refine lv_iload_n hx hb dX11_way_57 rfl (lv_at hl 1 rfl) ?_
      obtain ⟨g_4, h⟩ := fp_gd_s h
      refine fp_iald E hG (fp_is7_8.2.2.2.2).1 (fp_a21 (fp_is7_8.2.2.2.2)) (fp_in_s g_4) dX11_way_58 ?_
      exact fp_ireti E hG (Option.some.inj h) rfl dX11_way_59
    replace h := fp_ifF q15_1 h
    by_cases q15_2 : p2 = (nI 2)
    · replace h := fp_ifT q15_2 h
      refine lv_tableIn (off := 45) (tgt := 60) hx hb dX11_way_15 (by rw [q15_2]; decide) (by rw [q15_2]; decide) (by rw [q15_2]; rfl) (by decide) ?_
      refine lv_aload_n hx hb dX11_way_60 rfl (lv_at hl 0 rfl) ?_
      refine fp_g11_2 E hG tw_315 dX11_way_61 ?_
      refine lv_iload_n hx hb dX11_way_64 rfl (lv_at hl 1 rfl) ?_
      obtain ⟨r_5, c_6, h⟩ := fp_b1_s h
      refine fp_callVi (As := [.int p1]) (rest := []) E hG (c_X9_isShut l D G B fp_is9_13 c_6) cv_X9_isShut tw_531 tw_532 tw_533 ⟨rfl, rfl⟩ ⟨Nat.le_of_ble_eq_true rfl, Nat.le_of_ble_eq_true rfl⟩ (fp_recv E hG fp_is9_13.1.1 (fp_o9 fp_is9_13.1 _) rfl) rfl rfl (Nat.le_of_ble_eq_true rfl) hl.1 dX11_way_65 ⟨Nat.zero_le _, Nat.zero_le _⟩ (fun H locs hG => ?_)
      refine lv_if_eq (tgt := 75) hx hb dX11_way_68 (by decide) (fun q => ?_) (fun q => ?_)
      · replace h := fp_ifT q h
        refine lv_iconst (v := (nI 0)) hx hb dX11_way_75 (by decide) ?_
        exact w_X11_way_76 E   _ hG (lv_sub hl [] rfl) h
      · replace h := fp_ifF q h
        refine lv_iconst (v := (nI 1)) hx hb dX11_way_71 (by decide) ?_
        refine lv_goto (tgt := 76) hx hb dX11_way_72 (by decide) ?_
        exact w_X11_way_76 E   _ hG (lv_sub hl [] rfl) h
    replace h := fp_ifF q15_2 h
    refine lv_tableOut (tgt := 77) hx hb dX11_way_15 (by have eq15_0 := lv_neT (a := 0) q15_0 rfl; have eq15_1 := lv_neT (a := 1) q15_1 rfl; have eq15_2 := lv_neT (a := 2) q15_2 rfl; omega) (by decide) ?_
    refine lv_ldc (v := (-1000000002 : Int32)) hx hb hown (fp_tabs E tw_351) dX11_way_77 ?_
    exact fp_ireti E hG (Option.some.inj h) rfl dX11_way_79
  · replace h := fp_ifT q h
    refine lv_ldc (v := (-1000000001 : Int32)) hx hb hown (fp_tabs E tw_515) dX11_way_11 ?_
    exact fp_ireti E hG (Option.some.inj h) rfl dX11_way_13
theorem c_X11_way (l : Launch) (D : va_G) (G : Nat → ClassId) (B : Nat) {M : fp_Mem}  {p1 : Int32} {p2 : Int32} {r : Int32}  (h : m_X11_way M p1 p2 = some r) : Met l yX11_way (Cond.code yX11_way cX11_way 3 (some .int) :: fp_T) rm_X11_way (va_Pc [.ref (B + 0), .int p1, .int p2] (fp_GS D G B M)) (fp_Qi D G B r M) 0 0 (fp_A B) :=
  fp_met (own := RX11) (by decide) rfl (Nat.le_of_ble_eq_true rfl) (fun E hG hl => w_X11_way_0 E  hG hl h)
abbrev rm_X11_come : Room := { frames := 4, cells := 0, slots := 0, locals := 97 }
theorem cv_X11_come : fp_CV yX11_come cX11_come 2 (some .int) 1 := ⟨tw_538, tw_1, by decide, by decide +kernel⟩
set_option maxHeartbeats 2000000 in
theorem w_X11_come_0 {p : Program} {l : Launch} {e : Env} {s : State} {m : MethodId} {args : Array Value} {below : List Frame} {meth : Method} {c : Code} {D : va_G} {G : Nat → ClassId} {B : Nat} {p1 : Int32} {r : Int32} {M' : fp_Mem} (E : fp_EV p s m args meth c cX11_come 2 RX11 (some .int) D G) {M : fp_Mem} {H : Heap} {locs : List Loc} {ls : Array Slot} (hG : fp_H D G B s M H locs) (hl : lv_has ls 2 [(0, .ref (B + 0)), (1, .int p1)]) (h : m_X11_come M p1 = some (r, M')) : W p l e rm_X11_come s m args below meth c H locs 0 0 (MQ below (fp_Qi D G B r M') args s 0 0 (fp_A B)) (F0 m 0 ls []) := by
  have hx := E.1
  have hb := E.2.1
  have hown := E.2.2.2.1
  unfold m_X11_come at h
  refine lv_aload_n hx hb dX11_come_0 rfl (lv_at hl 0 rfl) ?_
  refine fp_g11_1 E hG tw_314 dX11_come_1 ?_
  refine lv_iload_n hx hb dX11_come_4 rfl (lv_at hl 1 rfl) ?_
  obtain ⟨r_1, c_2, h⟩ := fp_b1_s h
  refine fp_callVi (As := [.int p1]) (rest := []) E hG (c_X7_hasTable l D G B fp_is7_8 c_2) cv_X7_hasTable tw_514 tw_437 tw_438 ⟨rfl, rfl⟩ ⟨Nat.le_of_ble_eq_true rfl, Nat.le_of_ble_eq_true rfl⟩ (fp_recv E hG fp_is7_8.1.1 (fp_o7 fp_is7_8.1 _) rfl) rfl rfl (Nat.le_of_ble_eq_true rfl) hl.1 dX11_come_5 ⟨Nat.zero_le _, Nat.zero_le _⟩ (fun H locs hG => ?_)
  refine lv_if_ne (tgt := 14) hx hb dX11_come_8 (by decide) (fun q => ?_) (fun q => ?_)
  · replace h := fp_ifF q h
    refine lv_aload_n hx hb dX11_come_14 rfl (lv_at hl 0 rfl) ?_
    refine fp_g11_2 E hG tw_315 dX11_come_15 ?_
    refine fp_g9_8 E hG fp_is9_13.1 tw_148 dX11_come_18 ?_
    refine lv_sipush (v := (nI 9000)) hx hb dX11_come_21 (by decide) ?_
    refine lv_icmp_le (tgt := 30) hx hb dX11_come_24 (by decide) (fun q => ?_) (fun q => ?_)
    · replace h := fp_ifT q h
      refine lv_aload_n hx hb dX11_come_30 rfl (lv_at hl 0 rfl) ?_
      refine fp_g11_9 E hG tw_322 dX11_come_31 ?_
      refine lv_aload_n hx hb dX11_come_34 rfl (lv_at hl 0 rfl) ?_
      refine fp_g11_2 E hG tw_315 dX11_come_35 ?_
      obtain ⟨M_3, c_4, h⟩ := fp_b1_s h
      refine fp_callVv (As := [.ref (B + 13)]) (rest := []) E hG (c_X4_push l D G B fp_is9_13 c_4) cv_X4_push tw_539 tw_540 tw_541 ⟨rfl, rfl⟩ ⟨Nat.le_of_ble_eq_true rfl, Nat.le_of_ble_eq_true rfl⟩ (fp_recv E hG (by decide) (fp_o4 _) rfl) rfl rfl (Nat.le_of_ble_eq_true rfl) hl.1 dX11_come_38 ⟨Nat.zero_le _, Nat.zero_le _⟩ (fun H locs hG => ?_)
      refine lv_aload_n hx hb dX11_come_41 rfl (lv_at hl 0 rfl) ?_
      refine fp_g11_4 E hG tw_317 dX11_come_42 ?_
      refine lv_aload_n hx hb dX11_come_45 rfl (lv_at hl 0 rfl) ?_
      refine fp_g11_1 E hG tw_314 dX11_come_46 ?_
      refine lv_aload_n hx hb dX11_come_49 rfl (lv_at hl 0 rfl) ?_
      refine fp_g11_2 E hG tw_315 dX11_come_50 ?_
      refine lv_iload_n hx hb dX11_come_53 rfl (lv_at hl 1 rfl) ?_
      obtain ⟨r_5, M_6, c_7, h⟩ := fp_b2_s h
      refine fp_callVi (As := [.ref (B + 8), .ref (B + 13), .int p1]) (rest := []) E hG (c_X0_guestComes l D G B fp_is0_21 fp_is7_8 fp_is9_13 c_7) cv_X0_guestComes tw_550 tw_551 tw_552 ⟨rfl, rfl⟩ ⟨Nat.le_of_ble_eq_true rfl, Nat.le_of_ble_eq_true rfl⟩ (fp_recv E hG fp_is0_21.1.1 (fp_o0 fp_is0_21.1 _) rfl) rfl rfl (Nat.le_of_ble_eq_true rfl) hl.1 dX11_come_54 ⟨Nat.zero_le _, Nat.zero_le _⟩ (fun H locs hG => ?_)
      exact fp_ireti E hG (fp_pr1 h) (fp_pr2 h) dX11_come_57
    · replace h := fp_ifF q h
      refine lv_ldc (v := (-1000000004 : Int32)) hx hb hown (fp_tabs E tw_356) dX11_come_27 ?_
      exact fp_ireti E hG (fp_pr1 h) (fp_pr2 h) dX11_come_29
  · replace h := fp_ifT q h
    refine lv_ldc (v := (-1000000001 : Int32)) hx hb hown (fp_tabs E tw_515) dX11_come_11 ?_
    exact fp_ireti E hG (fp_pr1 h) (fp_pr2 h) dX11_come_13
theorem c_X11_come (l : Launch) (D : va_G) (G : Nat → ClassId) (B : Nat) {M : fp_Mem}  {p1 : Int32} {r : Int32} {M' : fp_Mem}  (h : m_X11_come M p1 = some (r, M')) : Met l yX11_come (Cond.code yX11_come cX11_come 2 (some .int) :: fp_T) rm_X11_come (va_Pc [.ref (B + 0), .int p1] (fp_GS D G B M)) (fp_Qi D G B r M') 0 0 (fp_A B) :=
  fp_met (own := RX11) (by decide) rfl (Nat.le_of_ble_eq_true rfl) (fun E hG hl => w_X11_come_0 E  hG hl h)
abbrev rm_X11_go : Room := { frames := 2, cells := 0, slots := 0, locals := 43 }
theorem cv_X11_go : fp_CV yX11_go cX11_go 2 (some .int) 1 := ⟨tw_575, tw_1, by decide, by decide +kernel⟩
set_option maxHeartbeats 2000000 in
theorem w_X11_go_0 {p : Program} {l : Launch} {e : Env} {s : State} {m : MethodId} {args : Array Value} {below : List Frame} {meth : Method} {c : Code} {D : va_G} {G : Nat → ClassId} {B : Nat} {p1 : Int32} {r : Int32} {M' : fp_Mem} (E : fp_EV p s m args meth c cX11_go 2 RX11 (some .int) D G) {M : fp_Mem} {H : Heap} {locs : List Loc} {ls : Array Slot} (hG : fp_H D G B s M H locs) (hl : lv_has ls 2 [(0, .ref (B + 0)), (1, .int p1)]) (h : m_X11_go M p1 = some (r, M')) : W p l e rm_X11_go s m args below meth c H locs 0 0 (MQ below (fp_Qi D G B r M') args s 0 0 (fp_A B)) (F0 m 0 ls []) := by
  have hx := E.1
  have hb := E.2.1
  have hown := E.2.2.2.1
  unfold m_X11_go at h
  refine lv_aload_n hx hb dX11_go_0 rfl (lv_at hl 0 rfl) ?_
  refine fp_g11_1 E hG tw_314 dX11_go_1 ?_
  refine lv_iload_n hx hb dX11_go_4 rfl (lv_at hl 1 rfl) ?_
  obtain ⟨r_1, c_2, h⟩ := fp_b1_s h
  refine fp_callVi (As := [.int p1]) (rest := []) E hG (c_X7_hasTable l D G B fp_is7_8 c_2) cv_X7_hasTable tw_514 tw_437 tw_438 ⟨rfl, rfl⟩ ⟨Nat.le_of_ble_eq_true rfl, Nat.le_of_ble_eq_true rfl⟩ (fp_recv E hG fp_is7_8.1.1 (fp_o7 fp_is7_8.1 _) rfl) rfl rfl (Nat.le_of_ble_eq_true rfl) hl.1 dX11_go_5 ⟨Nat.zero_le _, Nat.zero_le _⟩ (fun H locs hG => ?_)
  refine lv_if_ne (tgt := 14) hx hb dX11_go_8 (by decide) (fun q => ?_) (fun q => ?_)
  · replace h := fp_ifF q h
    refine lv_aload_n hx hb dX11_go_14 rfl (lv_at hl 0 rfl) ?_
    refine fp_g11_2 E hG tw_315 dX11_go_15 ?_
    refine fp_g9_1 E hG fp_is9_13.1 tw_127 dX11_go_18 ?_
    refine lv_iload_n hx hb dX11_go_21 rfl (lv_at hl 1 rfl) ?_
    obtain ⟨g_3, h⟩ := fp_gd_s h
    refine fp_iald E hG (fp_is9_13.2.2).1 (fp_a20 (fp_is9_13.2.2)) (fp_in_s g_3) dX11_go_22 ?_
    refine lv_if_gt (tgt := 29) hx hb dX11_go_23 (by decide) (fun q => ?_) (fun q => ?_)
    · replace h := fp_ifT q h
      refine lv_aload_n hx hb dX11_go_29 rfl (lv_at hl 0 rfl) ?_
      refine fp_g11_9 E hG tw_322 dX11_go_30 ?_
      refine lv_aload_n hx hb dX11_go_33 rfl (lv_at hl 0 rfl) ?_
      refine fp_g11_2 E hG tw_315 dX11_go_34 ?_
      obtain ⟨M_4, c_5, h⟩ := fp_b1_s h
      refine fp_callVv (As := [.ref (B + 13)]) (rest := []) E hG (c_X4_push l D G B fp_is9_13 c_5) cv_X4_push tw_539 tw_540 tw_541 ⟨rfl, rfl⟩ ⟨Nat.le_of_ble_eq_true rfl, Nat.le_of_ble_eq_true rfl⟩ (fp_recv E hG (by decide) (fp_o4 _) rfl) rfl rfl (Nat.le_of_ble_eq_true rfl) hl.1 dX11_go_37 ⟨Nat.zero_le _, Nat.zero_le _⟩ (fun H locs hG => ?_)
      refine lv_aload_n hx hb dX11_go_40 rfl (lv_at hl 0 rfl) ?_
      refine fp_g11_2 E hG tw_315 dX11_go_41 ?_
      refine fp_g9_1 E hG fp_is9_13.1 tw_127 dX11_go_44 ?_
      refine lv_iload_n hx hb dX11_go_47 rfl (lv_at hl 1 rfl) ?_
      refine lv_dup2_11 hx hb dX11_go_48 rfl rfl ?_
      obtain ⟨g_6, h⟩ := fp_gd_s h
      refine fp_iald E hG (fp_is9_13.2.2).1 (fp_a20 (fp_is9_13.2.2)) (fp_in_s g_6) dX11_go_49 ?_
      refine lv_iconst (v := (nI 1)) hx hb dX11_go_50 (by decide) ?_
      refine lv_isub hx hb dX11_go_51 ?_
      obtain ⟨g_7, h⟩ := fp_gd_s h
      obtain ⟨M_8, eM_8, h⟩ := fp_lt_s h
      refine fp_iast E hG (fp_is9_13.2.2).1 (fp_a20 (fp_is9_13.2.2)) (fp_in_s g_7) dX11_go_52 (fun H locs hG => ?_)
      replace hG := fp_memH eM_8 hG
      refine lv_aload_n hx hb dX11_go_53 rfl (lv_at hl 0 rfl) ?_
      refine fp_g11_2 E hG tw_315 dX11_go_54 ?_
      refine fp_g9_1 E hG fp_is9_13.1 tw_127 dX11_go_57 ?_
      refine lv_iload_n hx hb dX11_go_60 rfl (lv_at hl 1 rfl) ?_
      obtain ⟨g_9, h⟩ := fp_gd_s h
      refine fp_iald E hG (fp_is9_13.2.2).1 (fp_a20 (fp_is9_13.2.2)) (fp_in_s g_9) dX11_go_61 ?_
      exact fp_ireti E hG (fp_pr1 h) (fp_pr2 h) dX11_go_62
    · replace h := fp_ifF q h
      refine lv_ldc (v := (-1000000003 : Int32)) hx hb hown (fp_tabs E tw_576) dX11_go_26 ?_
      exact fp_ireti E hG (fp_pr1 h) (fp_pr2 h) dX11_go_28
  · replace h := fp_ifT q h
    refine lv_ldc (v := (-1000000001 : Int32)) hx hb hown (fp_tabs E tw_515) dX11_go_11 ?_
    exact fp_ireti E hG (fp_pr1 h) (fp_pr2 h) dX11_go_13
theorem c_X11_go (l : Launch) (D : va_G) (G : Nat → ClassId) (B : Nat) {M : fp_Mem}  {p1 : Int32} {r : Int32} {M' : fp_Mem}  (h : m_X11_go M p1 = some (r, M')) : Met l yX11_go (Cond.code yX11_go cX11_go 2 (some .int) :: fp_T) rm_X11_go (va_Pc [.ref (B + 0), .int p1] (fp_GS D G B M)) (fp_Qi D G B r M') 0 0 (fp_A B) :=
  fp_met (own := RX11) (by decide) rfl (Nat.le_of_ble_eq_true rfl) (fun E hG hl => w_X11_go_0 E  hG hl h)
abbrev rm_X11_build : Room := { frames := 2, cells := 0, slots := 0, locals := 43 }
theorem cv_X11_build : fp_CV yX11_build cX11_build 2 (some .int) 1 := ⟨tw_580, tw_1, by decide, by decide +kernel⟩
set_option maxHeartbeats 2000000 in
theorem w_X11_build_38 {p : Program} {l : Launch} {e : Env} {s : State} {m : MethodId} {args : Array Value} {below : List Frame} {meth : Method} {c : Code} {D : va_G} {G : Nat → ClassId} {B : Nat} {p1 : Int32} {r : Int32} {M' : fp_Mem} (E : fp_EV p s m args meth c cX11_build 2 RX11 (some .int) D G) (M : fp_Mem) {H : Heap} {locs : List Loc} {ls : Array Slot} (hG : fp_H D G B s M H locs) (hl : lv_has ls 2 []) (h : m_X11_build_38 p1 M = some (r, M')) : W p l e rm_X11_build s m args below meth c H locs 0 0 (MQ below (fp_Qi D G B r M') args s 0 0 (fp_A B)) (F0 m 38 ls []) := by
  have hx := E.1
  have hb := E.2.1
  have hown := E.2.2.2.1
  unfold m_X11_build_38 at h
  refine lv_ldc (v := (-1000000003 : Int32)) hx hb hown (fp_tabs E tw_576) dX11_build_38 ?_
  exact fp_ireti E hG (fp_pr1 h) (fp_pr2 h) dX11_build_40
set_option maxHeartbeats 2000000 in
theorem w_X11_build_0 {p : Program} {l : Launch} {e : Env} {s : State} {m : MethodId} {args : Array Value} {below : List Frame} {meth : Method} {c : Code} {D : va_G} {G : Nat → ClassId} {B : Nat} {p1 : Int32} {r : Int32} {M' : fp_Mem} (E : fp_EV p s m args meth c cX11_build 2 RX11 (some .int) D G) {M : fp_Mem} {H : Heap} {locs : List Loc} {ls : Array Slot} (hG : fp_H D G B s M H locs) (hl : lv_has ls 2 [(0, .ref (B + 0)), (1, .int p1)]) (h : m_X11_build M p1 = some (r, M')) : W p l e rm_X11_build s m args below meth c H locs 0 0 (MQ below (fp_Qi D G B r M') args s 0 0 (fp_A B)) (F0 m 0 ls []) := by
  have hx := E.1
  have hb := E.2.1
  have hown := E.2.2.2.1
  unfold m_X11_build at h
  refine lv_aload_n hx hb dX11_build_0 rfl (lv_at hl 0 rfl) ?_
  refine fp_g11_1 E hG tw_314 dX11_build_1 ?_
  refine lv_iload_n hx hb dX11_build_4 rfl (lv_at hl 1 rfl) ?_
  obtain ⟨r_1, c_2, h⟩ := fp_b1_s h
  refine fp_callVi (As := [.int p1]) (rest := []) E hG (c_X7_hasTable l D G B fp_is7_8 c_2) cv_X7_hasTable tw_514 tw_437 tw_438 ⟨rfl, rfl⟩ ⟨Nat.le_of_ble_eq_true rfl, Nat.le_of_ble_eq_true rfl⟩ (fp_recv E hG fp_is7_8.1.1 (fp_o7 fp_is7_8.1 _) rfl) rfl rfl (Nat.le_of_ble_eq_true rfl) hl.1 dX11_build_5 ⟨Nat.zero_le _, Nat.zero_le _⟩ (fun H locs hG => ?_)
  refine lv_if_ne (tgt := 14) hx hb dX11_build_8 (by decide) (fun q => ?_) (fun q => ?_)
  · replace h := fp_ifF q h
    refine lv_aload_n hx hb dX11_build_14 rfl (lv_at hl 0 rfl) ?_
    refine fp_g11_2 E hG tw_315 dX11_build_15 ?_
    refine fp_g9_2 E hG fp_is9_13.1 tw_129 dX11_build_18 ?_
    refine lv_if_le (tgt := 38) hx hb dX11_build_21 (by decide) (fun q => ?_) (fun q => ?_)
    · replace h := fp_ifT q h
      exact w_X11_build_38 E   _ hG (lv_sub hl [] rfl) h
    · replace h := fp_ifF q h
      refine lv_aload_n hx hb dX11_build_24 rfl (lv_at hl 0 rfl) ?_
      refine fp_g11_2 E hG tw_315 dX11_build_25 ?_
      refine fp_g9_0 E hG fp_is9_13.1 tw_123 dX11_build_28 ?_
      refine lv_iload_n hx hb dX11_build_31 rfl (lv_at hl 1 rfl) ?_
      obtain ⟨g_3, h⟩ := fp_gd_s h
      refine fp_iald E hG (fp_is9_13.2.1).1 (fp_a20 (fp_is9_13.2.1)) (fp_in_s g_3) dX11_build_32 ?_
      refine lv_bipush (v := (nI 20)) hx hb dX11_build_33 (by decide) ?_
      refine lv_icmp_lt (tgt := 41) hx hb dX11_build_35 (by decide) (fun q => ?_) (fun q => ?_)
      · replace h := fp_ifT q h
        refine lv_aload_n hx hb dX11_build_41 rfl (lv_at hl 0 rfl) ?_
        refine fp_g11_9 E hG tw_322 dX11_build_42 ?_
        refine lv_aload_n hx hb dX11_build_45 rfl (lv_at hl 0 rfl) ?_
        refine fp_g11_2 E hG tw_315 dX11_build_46 ?_
        obtain ⟨M_4, c_5, h⟩ := fp_b1_s h
        refine fp_callVv (As := [.ref (B + 13)]) (rest := []) E hG (c_X4_push l D G B fp_is9_13 c_5) cv_X4_push tw_539 tw_540 tw_541 ⟨rfl, rfl⟩ ⟨Nat.le_of_ble_eq_true rfl, Nat.le_of_ble_eq_true rfl⟩ (fp_recv E hG (by decide) (fp_o4 _) rfl) rfl rfl (Nat.le_of_ble_eq_true rfl) hl.1 dX11_build_49 ⟨Nat.zero_le _, Nat.zero_le _⟩ (fun H locs hG => ?_)
        refine lv_aload_n hx hb dX11_build_52 rfl (lv_at hl 0 rfl) ?_
        refine fp_g11_2 E hG tw_315 dX11_build_53 ?_
        refine lv_dup hx hb dX11_build_56 rfl ?_
        refine fp_g9_2 E hG fp_is9_13.1 tw_129 dX11_build_57 ?_
        refine lv_iconst (v := (nI 1)) hx hb dX11_build_60 (by decide) ?_
        refine lv_isub hx hb dX11_build_61 ?_
        obtain ⟨M_6, eM_6, h⟩ := fp_lt_s h
        refine fp_p9_2 E hG fp_is9_13.1 tw_129 dX11_build_62 (fun H locs hG => ?_)
        replace hG := fp_memH eM_6 hG
        refine lv_aload_n hx hb dX11_build_65 rfl (lv_at hl 0 rfl) ?_
        refine fp_g11_2 E hG tw_315 dX11_build_66 ?_
        refine fp_g9_0 E hG fp_is9_13.1 tw_123 dX11_build_69 ?_
        refine lv_iload_n hx hb dX11_build_72 rfl (lv_at hl 1 rfl) ?_
        refine lv_dup2_11 hx hb dX11_build_73 rfl rfl ?_
        obtain ⟨g_7, h⟩ := fp_gd_s h
        refine fp_iald E hG (fp_is9_13.2.1).1 (fp_a20 (fp_is9_13.2.1)) (fp_in_s g_7) dX11_build_74 ?_
        refine lv_iconst (v := (nI 1)) hx hb dX11_build_75 (by decide) ?_
        refine lv_iadd hx hb dX11_build_76 ?_
        obtain ⟨g_8, h⟩ := fp_gd_s h
        obtain ⟨M_9, eM_9, h⟩ := fp_lt_s h
        refine fp_iast E hG (fp_is9_13.2.1).1 (fp_a20 (fp_is9_13.2.1)) (fp_in_s g_8) dX11_build_77 (fun H locs hG => ?_)
        replace hG := fp_memH eM_9 hG
        refine lv_aload_n hx hb dX11_build_78 rfl (lv_at hl 0 rfl) ?_
        refine fp_g11_2 E hG tw_315 dX11_build_79 ?_
        refine fp_g9_0 E hG fp_is9_13.1 tw_123 dX11_build_82 ?_
        refine lv_iload_n hx hb dX11_build_85 rfl (lv_at hl 1 rfl) ?_
        obtain ⟨g_10, h⟩ := fp_gd_s h
        refine fp_iald E hG (fp_is9_13.2.1).1 (fp_a20 (fp_is9_13.2.1)) (fp_in_s g_10) dX11_build_86 ?_
        exact fp_ireti E hG (fp_pr1 h) (fp_pr2 h) dX11_build_87
      · replace h := fp_ifF q h
        exact w_X11_build_38 E   _ hG (lv_sub hl [] rfl) h
  · replace h := fp_ifT q h
    refine lv_ldc (v := (-1000000001 : Int32)) hx hb hown (fp_tabs E tw_515) dX11_build_11 ?_
    exact fp_ireti E hG (fp_pr1 h) (fp_pr2 h) dX11_build_13
theorem c_X11_build (l : Launch) (D : va_G) (G : Nat → ClassId) (B : Nat) {M : fp_Mem}  {p1 : Int32} {r : Int32} {M' : fp_Mem}  (h : m_X11_build M p1 = some (r, M')) : Met l yX11_build (Cond.code yX11_build cX11_build 2 (some .int) :: fp_T) rm_X11_build (va_Pc [.ref (B + 0), .int p1] (fp_GS D G B M)) (fp_Qi D G B r M') 0 0 (fp_A B) :=
  fp_met (own := RX11) (by decide) rfl (Nat.le_of_ble_eq_true rfl) (fun E hG hl => w_X11_build_0 E  hG hl h)
abbrev rm_X11_breakOne : Room := { frames := 2, cells := 0, slots := 0, locals := 43 }
theorem cv_X11_breakOne : fp_CV yX11_breakOne cX11_breakOne 2 (some .int) 1 := ⟨tw_584, tw_1, by decide, by decide +kernel⟩
set_option maxHeartbeats 2000000 in
theorem w_X11_breakOne_0 {p : Program} {l : Launch} {e : Env} {s : State} {m : MethodId} {args : Array Value} {below : List Frame} {meth : Method} {c : Code} {D : va_G} {G : Nat → ClassId} {B : Nat} {p1 : Int32} {r : Int32} {M' : fp_Mem} (E : fp_EV p s m args meth c cX11_breakOne 2 RX11 (some .int) D G) {M : fp_Mem} {H : Heap} {locs : List Loc} {ls : Array Slot} (hG : fp_H D G B s M H locs) (hl : lv_has ls 2 [(0, .ref (B + 0)), (1, .int p1)]) (h : m_X11_breakOne M p1 = some (r, M')) : W p l e rm_X11_breakOne s m args below meth c H locs 0 0 (MQ below (fp_Qi D G B r M') args s 0 0 (fp_A B)) (F0 m 0 ls []) := by
  have hx := E.1
  have hb := E.2.1
  have hown := E.2.2.2.1
  unfold m_X11_breakOne at h
  refine lv_aload_n hx hb dX11_breakOne_0 rfl (lv_at hl 0 rfl) ?_
  refine fp_g11_1 E hG tw_314 dX11_breakOne_1 ?_
  refine lv_iload_n hx hb dX11_breakOne_4 rfl (lv_at hl 1 rfl) ?_
  obtain ⟨r_1, c_2, h⟩ := fp_b1_s h
  refine fp_callVi (As := [.int p1]) (rest := []) E hG (c_X7_hasTable l D G B fp_is7_8 c_2) cv_X7_hasTable tw_514 tw_437 tw_438 ⟨rfl, rfl⟩ ⟨Nat.le_of_ble_eq_true rfl, Nat.le_of_ble_eq_true rfl⟩ (fp_recv E hG fp_is7_8.1.1 (fp_o7 fp_is7_8.1 _) rfl) rfl rfl (Nat.le_of_ble_eq_true rfl) hl.1 dX11_breakOne_5 ⟨Nat.zero_le _, Nat.zero_le _⟩ (fun H locs hG => ?_)
  refine lv_if_ne (tgt := 14) hx hb dX11_breakOne_8 (by decide) (fun q => ?_) (fun q => ?_)
  · replace h := fp_ifF q h
    refine lv_aload_n hx hb dX11_breakOne_14 rfl (lv_at hl 0 rfl) ?_
    refine fp_g11_2 E hG tw_315 dX11_breakOne_15 ?_
    refine lv_iload_n hx hb dX11_breakOne_18 rfl (lv_at hl 1 rfl) ?_
    obtain ⟨r_3, c_4, h⟩ := fp_b1_s h
    refine fp_callVi (As := [.int p1]) (rest := []) E hG (c_X9_free l D G B fp_is9_13 c_4) cv_X9_free tw_516 tw_473 tw_474 ⟨rfl, rfl⟩ ⟨Nat.le_of_ble_eq_true rfl, Nat.le_of_ble_eq_true rfl⟩ (fp_recv E hG fp_is9_13.1.1 (fp_o9 fp_is9_13.1 _) rfl) rfl rfl (Nat.le_of_ble_eq_true rfl) hl.1 dX11_breakOne_19 ⟨Nat.zero_le _, Nat.zero_le _⟩ (fun H locs hG => ?_)
    refine lv_if_gt (tgt := 28) hx hb dX11_breakOne_22 (by decide) (fun q => ?_) (fun q => ?_)
    · replace h := fp_ifT q h
      refine lv_aload_n hx hb dX11_breakOne_28 rfl (lv_at hl 0 rfl) ?_
      refine fp_g11_9 E hG tw_322 dX11_breakOne_29 ?_
      refine lv_aload_n hx hb dX11_breakOne_32 rfl (lv_at hl 0 rfl) ?_
      refine fp_g11_2 E hG tw_315 dX11_breakOne_33 ?_
      obtain ⟨M_5, c_6, h⟩ := fp_b1_s h
      refine fp_callVv (As := [.ref (B + 13)]) (rest := []) E hG (c_X4_push l D G B fp_is9_13 c_6) cv_X4_push tw_539 tw_540 tw_541 ⟨rfl, rfl⟩ ⟨Nat.le_of_ble_eq_true rfl, Nat.le_of_ble_eq_true rfl⟩ (fp_recv E hG (by decide) (fp_o4 _) rfl) rfl rfl (Nat.le_of_ble_eq_true rfl) hl.1 dX11_breakOne_36 ⟨Nat.zero_le _, Nat.zero_le _⟩ (fun H locs hG => ?_)
      refine lv_aload_n hx hb dX11_breakOne_39 rfl (lv_at hl 0 rfl) ?_
      refine fp_g11_2 E hG tw_315 dX11_breakOne_40 ?_
      refine fp_g9_0 E hG fp_is9_13.1 tw_123 dX11_breakOne_43 ?_
      refine lv_iload_n hx hb dX11_breakOne_46 rfl (lv_at hl 1 rfl) ?_
      refine lv_dup2_11 hx hb dX11_breakOne_47 rfl rfl ?_
      obtain ⟨g_7, h⟩ := fp_gd_s h
      refine fp_iald E hG (fp_is9_13.2.1).1 (fp_a20 (fp_is9_13.2.1)) (fp_in_s g_7) dX11_breakOne_48 ?_
      refine lv_iconst (v := (nI 1)) hx hb dX11_breakOne_49 (by decide) ?_
      refine lv_isub hx hb dX11_breakOne_50 ?_
      obtain ⟨g_8, h⟩ := fp_gd_s h
      obtain ⟨M_9, eM_9, h⟩ := fp_lt_s h
      refine fp_iast E hG (fp_is9_13.2.1).1 (fp_a20 (fp_is9_13.2.1)) (fp_in_s g_8) dX11_breakOne_51 (fun H locs hG => ?_)
      replace hG := fp_memH eM_9 hG
      refine lv_aload_n hx hb dX11_breakOne_52 rfl (lv_at hl 0 rfl) ?_
      refine fp_g11_2 E hG tw_315 dX11_breakOne_53 ?_
      refine fp_g9_0 E hG fp_is9_13.1 tw_123 dX11_breakOne_56 ?_
      refine lv_iload_n hx hb dX11_breakOne_59 rfl (lv_at hl 1 rfl) ?_
      obtain ⟨g_10, h⟩ := fp_gd_s h
      refine fp_iald E hG (fp_is9_13.2.1).1 (fp_a20 (fp_is9_13.2.1)) (fp_in_s g_10) dX11_breakOne_60 ?_
      exact fp_ireti E hG (fp_pr1 h) (fp_pr2 h) dX11_breakOne_61
    · replace h := fp_ifF q h
      refine lv_ldc (v := (-1000000003 : Int32)) hx hb hown (fp_tabs E tw_576) dX11_breakOne_25 ?_
      exact fp_ireti E hG (fp_pr1 h) (fp_pr2 h) dX11_breakOne_27
  · replace h := fp_ifT q h
    refine lv_ldc (v := (-1000000001 : Int32)) hx hb hown (fp_tabs E tw_515) dX11_breakOne_11 ?_
    exact fp_ireti E hG (fp_pr1 h) (fp_pr2 h) dX11_breakOne_13
theorem c_X11_breakOne (l : Launch) (D : va_G) (G : Nat → ClassId) (B : Nat) {M : fp_Mem}  {p1 : Int32} {r : Int32} {M' : fp_Mem}  (h : m_X11_breakOne M p1 = some (r, M')) : Met l yX11_breakOne (Cond.code yX11_breakOne cX11_breakOne 2 (some .int) :: fp_T) rm_X11_breakOne (va_Pc [.ref (B + 0), .int p1] (fp_GS D G B M)) (fp_Qi D G B r M') 0 0 (fp_A B) :=
  fp_met (own := RX11) (by decide) rfl (Nat.le_of_ble_eq_true rfl) (fun E hG hl => w_X11_breakOne_0 E  hG hl h)
abbrev rm_X11_shut : Room := { frames := 2, cells := 0, slots := 0, locals := 43 }
theorem cv_X11_shut : fp_CV yX11_shut cX11_shut 4 (some .int) 2 := ⟨tw_588, tw_1, by decide, by decide +kernel⟩
set_option maxHeartbeats 2000000 in
theorem w_X11_shut_30 {p : Program} {l : Launch} {e : Env} {s : State} {m : MethodId} {args : Array Value} {below : List Frame} {meth : Method} {c : Code} {D : va_G} {G : Nat → ClassId} {B : Nat} {p1 : Int32} {p2 : Int32} {r : Int32} {M' : fp_Mem} (E : fp_EV p s m args meth c cX11_shut 4 RX11 (some .int) D G) (s0 : Int32) (M : fp_Mem) {H : Heap} {locs : List Loc} {ls : Array Slot} (hG : fp_H D G B s M H locs) (hl : lv_has ls 4 [(0, .ref (B + 0)), (1, .int p1), (2, .int p2)]) (h : m_X11_shut_30 p1 p2 s0 M = some (r, M')) : W p l e rm_X11_shut s m args below meth c H locs 0 0 (MQ below (fp_Qi D G B r M') args s 0 0 (fp_A B)) (F0 m 30 ls [.int s0]) := by
  have hx := E.1
  have hb := E.2.1
  have hown := E.2.2.2.1
  unfold m_X11_shut_30 at h
  refine lv_istore_n (lv' := [(3, .int s0), (0, .ref (B + 0)), (1, .int p1), (2, .int p2)]) hx hb dX11_shut_30 rfl hl (by decide) rfl (fun ls hl => ?_)
  refine lv_aload_n hx hb dX11_shut_31 rfl (lv_at hl 1 rfl) ?_
  refine fp_g11_9 E hG tw_322 dX11_shut_32 ?_
  refine lv_aload_n hx hb dX11_shut_35 rfl (lv_at hl 1 rfl) ?_
  refine fp_g11_2 E hG tw_315 dX11_shut_36 ?_
  obtain ⟨M_1, c_2, h⟩ := fp_b1_s h
  refine fp_callVv (As := [.ref (B + 13)]) (rest := []) E hG (c_X4_push l D G B fp_is9_13 c_2) cv_X4_push tw_539 tw_540 tw_541 ⟨rfl, rfl⟩ ⟨Nat.le_of_ble_eq_true rfl, Nat.le_of_ble_eq_true rfl⟩ (fp_recv E hG (by decide) (fp_o4 _) rfl) rfl rfl (Nat.le_of_ble_eq_true rfl) hl.1 dX11_shut_39 ⟨Nat.zero_le _, Nat.zero_le _⟩ (fun H locs hG => ?_)
  refine lv_aload_n hx hb dX11_shut_42 rfl (lv_at hl 1 rfl) ?_
  refine fp_g11_2 E hG tw_315 dX11_shut_43 ?_
  refine lv_iload_n hx hb dX11_shut_46 rfl (lv_at hl 2 rfl) ?_
  refine lv_iload_n hx hb dX11_shut_47 rfl (lv_at hl 3 rfl) ?_
  obtain ⟨M_3, c_4, h⟩ := fp_b1_s h
  refine fp_callVv (As := [.int p1, .int p2]) (rest := []) E hG (c_X9_setShut l D G B fp_is9_13 c_4) cv_X9_setShut tw_589 tw_590 tw_591 ⟨rfl, rfl⟩ ⟨Nat.le_of_ble_eq_true rfl, Nat.le_of_ble_eq_true rfl⟩ (fp_recv E hG fp_is9_13.1.1 (fp_o9 fp_is9_13.1 _) rfl) rfl rfl (Nat.le_of_ble_eq_true rfl) hl.1 dX11_shut_48 ⟨Nat.zero_le _, Nat.zero_le _⟩ (fun H locs hG => ?_)
  refine lv_iload_n hx hb dX11_shut_51 rfl (lv_at hl 0 rfl) ?_
  exact fp_ireti E hG (fp_pr1 h) (fp_pr2 h) dX11_shut_52
set_option maxHeartbeats 2000000 in
theorem w_X11_shut_0 {p : Program} {l : Launch} {e : Env} {s : State} {m : MethodId} {args : Array Value} {below : List Frame} {meth : Method} {c : Code} {D : va_G} {G : Nat → ClassId} {B : Nat} {p1 : Int32} {p2 : Int32} {r : Int32} {M' : fp_Mem} (E : fp_EV p s m args meth c cX11_shut 4 RX11 (some .int) D G) {M : fp_Mem} {H : Heap} {locs : List Loc} {ls : Array Slot} (hG : fp_H D G B s M H locs) (hl : lv_has ls 4 [(0, .ref (B + 0)), (1, .int p1), (2, .int p2)]) (h : m_X11_shut M p1 p2 = some (r, M')) : W p l e rm_X11_shut s m args below meth c H locs 0 0 (MQ below (fp_Qi D G B r M') args s 0 0 (fp_A B)) (F0 m 0 ls []) := by
  have hx := E.1
  have hb := E.2.1
  have hown := E.2.2.2.1
  unfold m_X11_shut at h
  refine lv_aload_n hx hb dX11_shut_0 rfl (lv_at hl 0 rfl) ?_
  refine fp_g11_1 E hG tw_314 dX11_shut_1 ?_
  refine lv_iload_n hx hb dX11_shut_4 rfl (lv_at hl 1 rfl) ?_
  obtain ⟨r_5, c_6, h⟩ := fp_b1_s h
  refine fp_callVi (As := [.int p1]) (rest := []) E hG (c_X7_hasWay l D G B fp_is7_8 c_6) cv_X7_hasWay tw_527 tw_528 tw_529 ⟨rfl, rfl⟩ ⟨Nat.le_of_ble_eq_true rfl, Nat.le_of_ble_eq_true rfl⟩ (fp_recv E hG fp_is7_8.1.1 (fp_o7 fp_is7_8.1 _) rfl) rfl rfl (Nat.le_of_ble_eq_true rfl) hl.1 dX11_shut_5 ⟨Nat.zero_le _, Nat.zero_le _⟩ (fun H locs hG => ?_)
  refine lv_if_ne (tgt := 14) hx hb dX11_shut_8 (by decide) (fun q => ?_) (fun q => ?_)
  · replace h := fp_ifF q h
    refine lv_aload_n hx hb dX11_shut_14 rfl (lv_at hl 0 rfl) ?_
    refine fp_g11_2 E hG tw_315 dX11_shut_15 ?_
    refine lv_iload_n hx hb dX11_shut_18 rfl (lv_at hl 1 rfl) ?_
    obtain ⟨r_7, c_8, h⟩ := fp_b1_s h
    refine fp_callVi (As := [.int p1]) (rest := []) E hG (c_X9_isShut l D G B fp_is9_13 c_8) cv_X9_isShut tw_531 tw_532 tw_533 ⟨rfl, rfl⟩ ⟨Nat.le_of_ble_eq_true rfl, Nat.le_of_ble_eq_true rfl⟩ (fp_recv E hG fp_is9_13.1.1 (fp_o9 fp_is9_13.1 _) rfl) rfl rfl (Nat.le_of_ble_eq_true rfl) hl.1 dX11_shut_19 ⟨Nat.zero_le _, Nat.zero_le _⟩ (fun H locs hG => ?_)
    refine lv_if_eq (tgt := 29) hx hb dX11_shut_22 (by decide) (fun q => ?_) (fun q => ?_)
    · replace h := fp_ifT q h
      refine lv_iconst (v := (nI 0)) hx hb dX11_shut_29 (by decide) ?_
      exact w_X11_shut_30 E   _ _ hG (lv_sub hl [0, 1, 2] rfl) h
    · replace h := fp_ifF q h
      refine lv_iconst (v := (nI 1)) hx hb dX11_shut_25 (by decide) ?_
      refine lv_goto (tgt := 30) hx hb dX11_shut_26 (by decide) ?_
      exact w_X11_shut_30 E   _ _ hG (lv_sub hl [0, 1, 2] rfl) h
  · replace h := fp_ifT q h
    refine lv_ldc (v := (-1000000001 : Int32)) hx hb hown (fp_tabs E tw_515) dX11_shut_11 ?_
    exact fp_ireti E hG (fp_pr1 h) (fp_pr2 h) dX11_shut_13
theorem c_X11_shut (l : Launch) (D : va_G) (G : Nat → ClassId) (B : Nat) {M : fp_Mem}  {p1 : Int32} {p2 : Int32} {r : Int32} {M' : fp_Mem}  (h : m_X11_shut M p1 p2 = some (r, M')) : Met l yX11_shut (Cond.code yX11_shut cX11_shut 4 (some .int) :: fp_T) rm_X11_shut (va_Pc [.ref (B + 0), .int p1, .int p2] (fp_GS D G B M)) (fp_Qi D G B r M') 0 0 (fp_A B) :=
  fp_met (own := RX11) (by decide) rfl (Nat.le_of_ble_eq_true rfl) (fun E hG hl => w_X11_shut_0 E  hG hl h)
abbrev rm_X11_drift : Room := { frames := 5, cells := 0, slots := 0, locals := 123 }
theorem cv_X11_drift : fp_CV yX11_drift cX11_drift 2 (some .int) 1 := ⟨tw_596, tw_1, by decide, by decide +kernel⟩
set_option maxHeartbeats 2000000 in
theorem w_X11_drift_11 {p : Program} {l : Launch} {e : Env} {s : State} {m : MethodId} {args : Array Value} {below : List Frame} {meth : Method} {c : Code} {D : va_G} {G : Nat → ClassId} {B : Nat} {p1 : Int32} {r : Int32} {M' : fp_Mem} (E : fp_EV p s m args meth c cX11_drift 2 RX11 (some .int) D G) (M : fp_Mem) {H : Heap} {locs : List Loc} {ls : Array Slot} (hG : fp_H D G B s M H locs) (hl : lv_has ls 2 []) (h : m_X11_drift_11 p1 M = some (r, M')) : W p l e rm_X11_drift s m args below meth c H locs 0 0 (MQ below (fp_Qi D G B r M') args s 0 0 (fp_A B)) (F0 m 11 ls []) := by
  have hx := E.1
  have hb := E.2.1
  have hown := E.2.2.2.1
  unfold m_X11_drift_11 at h
  refine lv_ldc (v := (-1000000002 : Int32)) hx hb hown (fp_tabs E tw_351) dX11_drift_11 ?_
  exact fp_ireti E hG (fp_pr1 h) (fp_pr2 h) dX11_drift_13
set_option maxHeartbeats 2000000 in
theorem w_X11_drift_0 {p : Program} {l : Launch} {e : Env} {s : State} {m : MethodId} {args : Array Value} {below : List Frame} {meth : Method} {c : Code} {D : va_G} {G : Nat → ClassId} {B : Nat} {p1 : Int32} {r : Int32} {M' : fp_Mem} (E : fp_EV p s m args meth c cX11_drift 2 RX11 (some .int) D G) {M : fp_Mem} {H : Heap} {locs : List Loc} {ls : Array Slot} (hG : fp_H D G B s M H locs) (hl : lv_has ls 2 [(0, .ref (B + 0)), (1, .int p1)]) (h : m_X11_drift M p1 = some (r, M')) : W p l e rm_X11_drift s m args below meth c H locs 0 0 (MQ below (fp_Qi D G B r M') args s 0 0 (fp_A B)) (F0 m 0 ls []) := by
  have hx := E.1
  have hb := E.2.1
  have hown := E.2.2.2.1
  unfold m_X11_drift at h
  refine lv_iload_n hx hb dX11_drift_0 rfl (lv_at hl 1 rfl) ?_
  refine lv_iconst (v := (nI 1)) hx hb dX11_drift_1 (by decide) ?_
  refine lv_icmp_lt (tgt := 11) hx hb dX11_drift_2 (by decide) (fun q => ?_) (fun q => ?_)
  · replace h := fp_ifT q h
    exact w_X11_drift_11 E   _ hG (lv_sub hl [] rfl) h
  · replace h := fp_ifF q h
    refine lv_iload_n hx hb dX11_drift_5 rfl (lv_at hl 1 rfl) ?_
    refine lv_bipush (v := (nI 60)) hx hb dX11_drift_6 (by decide) ?_
    refine lv_icmp_le (tgt := 14) hx hb dX11_drift_8 (by decide) (fun q => ?_) (fun q => ?_)
    · replace h := fp_ifT q h
      refine lv_aload_n hx hb dX11_drift_14 rfl (lv_at hl 0 rfl) ?_
      refine fp_g11_1 E hG tw_314 dX11_drift_15 ?_
      refine fp_g7_0 E hG fp_is7_8.1 tw_38 dX11_drift_18 ?_
      refine lv_if_ne (tgt := 27) hx hb dX11_drift_21 (by decide) (fun q => ?_) (fun q => ?_)
      · replace h := fp_ifF q h
        refine lv_aload_n hx hb dX11_drift_27 rfl (lv_at hl 0 rfl) ?_
        refine fp_g11_2 E hG tw_315 dX11_drift_28 ?_
        refine fp_g9_8 E hG fp_is9_13.1 tw_148 dX11_drift_31 ?_
        refine lv_sipush (v := (nI 9000)) hx hb dX11_drift_34 (by decide) ?_
        refine lv_icmp_le (tgt := 43) hx hb dX11_drift_37 (by decide) (fun q => ?_) (fun q => ?_)
        · replace h := fp_ifT q h
          refine lv_aload_n hx hb dX11_drift_43 rfl (lv_at hl 0 rfl) ?_
          refine fp_g11_9 E hG tw_322 dX11_drift_44 ?_
          refine lv_aload_n hx hb dX11_drift_47 rfl (lv_at hl 0 rfl) ?_
          refine fp_g11_2 E hG tw_315 dX11_drift_48 ?_
          obtain ⟨M_1, c_2, h⟩ := fp_b1_s h
          refine fp_callVv (As := [.ref (B + 13)]) (rest := []) E hG (c_X4_push l D G B fp_is9_13 c_2) cv_X4_push tw_539 tw_540 tw_541 ⟨rfl, rfl⟩ ⟨Nat.le_of_ble_eq_true rfl, Nat.le_of_ble_eq_true rfl⟩ (fp_recv E hG (by decide) (fp_o4 _) rfl) rfl rfl (Nat.le_of_ble_eq_true rfl) hl.1 dX11_drift_51 ⟨Nat.zero_le _, Nat.zero_le _⟩ (fun H locs hG => ?_)
          refine lv_aload_n hx hb dX11_drift_54 rfl (lv_at hl 0 rfl) ?_
          refine fp_g11_4 E hG tw_317 dX11_drift_55 ?_
          refine lv_aload_n hx hb dX11_drift_58 rfl (lv_at hl 0 rfl) ?_
          refine fp_g11_1 E hG tw_314 dX11_drift_59 ?_
          refine lv_aload_n hx hb dX11_drift_62 rfl (lv_at hl 0 rfl) ?_
          refine fp_g11_2 E hG tw_315 dX11_drift_63 ?_
          refine lv_aload_n hx hb dX11_drift_66 rfl (lv_at hl 0 rfl) ?_
          refine fp_g11_8 E hG tw_321 dX11_drift_67 ?_
          refine lv_iload_n hx hb dX11_drift_70 rfl (lv_at hl 1 rfl) ?_
          obtain ⟨M_3, c_4, h⟩ := fp_b1_s h
          refine fp_callVv (As := [.ref (B + 8), .ref (B + 13), .ref (B + 47), .int p1]) (rest := []) E hG (c_X0_drifts l D G B fp_is0_21 fp_is7_8 fp_is9_13 c_4) cv_X0_drifts tw_597 tw_598 tw_599 ⟨rfl, rfl⟩ ⟨Nat.le_of_ble_eq_true rfl, Nat.le_of_ble_eq_true rfl⟩ (fp_recv E hG fp_is0_21.1.1 (fp_o0 fp_is0_21.1 _) rfl) rfl rfl (Nat.le_of_ble_eq_true rfl) hl.1 dX11_drift_71 ⟨Nat.zero_le _, Nat.zero_le _⟩ (fun H locs hG => ?_)
          refine lv_aload_n hx hb dX11_drift_74 rfl (lv_at hl 0 rfl) ?_
          refine fp_g11_2 E hG tw_315 dX11_drift_75 ?_
          obtain ⟨r_5, c_6, h⟩ := fp_b1_s h
          refine fp_callVi (As := []) (rest := []) E hG (c_X9_sitting l D G B fp_is9_13 c_6) cv_X9_sitting tw_464 tw_465 tw_466 ⟨rfl, rfl⟩ ⟨Nat.le_of_ble_eq_true rfl, Nat.le_of_ble_eq_true rfl⟩ (fp_recv E hG fp_is9_13.1.1 (fp_o9 fp_is9_13.1 _) rfl) rfl rfl (Nat.le_of_ble_eq_true rfl) hl.1 dX11_drift_78 ⟨Nat.zero_le _, Nat.zero_le _⟩ (fun H locs hG => ?_)
          exact fp_ireti E hG (fp_pr1 h) (fp_pr2 h) dX11_drift_81
        · replace h := fp_ifF q h
          refine lv_ldc (v := (-1000000004 : Int32)) hx hb hown (fp_tabs E tw_356) dX11_drift_40 ?_
          exact fp_ireti E hG (fp_pr1 h) (fp_pr2 h) dX11_drift_42
      · replace h := fp_ifT q h
        refine lv_ldc (v := (-1000000003 : Int32)) hx hb hown (fp_tabs E tw_576) dX11_drift_24 ?_
        exact fp_ireti E hG (fp_pr1 h) (fp_pr2 h) dX11_drift_26
    · replace h := fp_ifF q h
      exact w_X11_drift_11 E   _ hG (lv_sub hl [] rfl) h
theorem c_X11_drift (l : Launch) (D : va_G) (G : Nat → ClassId) (B : Nat) {M : fp_Mem}  {p1 : Int32} {r : Int32} {M' : fp_Mem}  (h : m_X11_drift M p1 = some (r, M')) : Met l yX11_drift (Cond.code yX11_drift cX11_drift 2 (some .int) :: fp_T) rm_X11_drift (va_Pc [.ref (B + 0), .int p1] (fp_GS D G B M)) (fp_Qi D G B r M') 0 0 (fp_A B) :=
  fp_met (own := RX11) (by decide) rfl (Nat.le_of_ble_eq_true rfl) (fun E hG hl => w_X11_drift_0 E  hG hl h)
abbrev rm_X11_undo : Room := { frames := 2, cells := 0, slots := 0, locals := 44 }
theorem cv_X11_undo : fp_CV yX11_undo cX11_undo 1 (some .int) 0 := ⟨tw_613, tw_1, by decide, by decide +kernel⟩
set_option maxHeartbeats 2000000 in
theorem w_X11_undo_0 {p : Program} {l : Launch} {e : Env} {s : State} {m : MethodId} {args : Array Value} {below : List Frame} {meth : Method} {c : Code} {D : va_G} {G : Nat → ClassId} {B : Nat} {r : Int32} {M' : fp_Mem} (E : fp_EV p s m args meth c cX11_undo 1 RX11 (some .int) D G) {M : fp_Mem} {H : Heap} {locs : List Loc} {ls : Array Slot} (hG : fp_H D G B s M H locs) (hl : lv_has ls 1 [(0, .ref (B + 0))]) (h : m_X11_undo M = some (r, M')) : W p l e rm_X11_undo s m args below meth c H locs 0 0 (MQ below (fp_Qi D G B r M') args s 0 0 (fp_A B)) (F0 m 0 ls []) := by
  have hx := E.1
  have hb := E.2.1
  have hown := E.2.2.2.1
  unfold m_X11_undo at h
  refine lv_aload_n hx hb dX11_undo_0 rfl (lv_at hl 0 rfl) ?_
  refine fp_g11_9 E hG tw_322 dX11_undo_1 ?_
  refine lv_aload_n hx hb dX11_undo_4 rfl (lv_at hl 0 rfl) ?_
  refine fp_g11_2 E hG tw_315 dX11_undo_5 ?_
  obtain ⟨r_1, M_2, c_3, h⟩ := fp_b2_s h
  refine fp_callVi (As := [.ref (B + 13)]) (rest := []) E hG (c_X4_pop l D G B fp_is9_13 c_3) cv_X4_pop tw_614 tw_615 tw_616 ⟨rfl, rfl⟩ ⟨Nat.le_of_ble_eq_true rfl, Nat.le_of_ble_eq_true rfl⟩ (fp_recv E hG (by decide) (fp_o4 _) rfl) rfl rfl (Nat.le_of_ble_eq_true rfl) hl.1 dX11_undo_8 ⟨Nat.zero_le _, Nat.zero_le _⟩ (fun H locs hG => ?_)
  refine lv_if_ne (tgt := 17) hx hb dX11_undo_11 (by decide) (fun q => ?_) (fun q => ?_)
  · replace h := fp_ifF q h
    refine lv_aload_n hx hb dX11_undo_17 rfl (lv_at hl 0 rfl) ?_
    refine fp_g11_9 E hG tw_322 dX11_undo_18 ?_
    refine fp_g4_0 E hG tw_284 dX11_undo_21 ?_
    exact fp_ireti E hG (fp_pr1 h) (fp_pr2 h) dX11_undo_24
  · replace h := fp_ifT q h
    refine lv_ldc (v := (-1000000003 : Int32)) hx hb hown (fp_tabs E tw_576) dX11_undo_14 ?_
    exact fp_ireti E hG (fp_pr1 h) (fp_pr2 h) dX11_undo_16
theorem c_X11_undo (l : Launch) (D : va_G) (G : Nat → ClassId) (B : Nat) {M : fp_Mem}   {r : Int32} {M' : fp_Mem}  (h : m_X11_undo M = some (r, M')) : Met l yX11_undo (Cond.code yX11_undo cX11_undo 1 (some .int) :: fp_T) rm_X11_undo (va_Pc [.ref (B + 0)] (fp_GS D G B M)) (fp_Qi D G B r M') 0 0 (fp_A B) :=
  fp_met (own := RX11) (by decide) rfl (Nat.le_of_ble_eq_true rfl) (fun E hG hl => w_X11_undo_0 E  hG hl h)
abbrev rm_X11_chain : Room := { frames := 3, cells := 0, slots := 0, locals := 72 }
theorem cv_X11_chain : fp_CV yX11_chain cX11_chain 3 (some .int) 2 := ⟨tw_621, tw_1, by decide, by decide +kernel⟩
set_option maxHeartbeats 2000000 in
theorem w_X11_chain_54 {p : Program} {l : Launch} {e : Env} {s : State} {m : MethodId} {args : Array Value} {below : List Frame} {meth : Method} {c : Code} {D : va_G} {G : Nat → ClassId} {B : Nat} {p1 : Int32} {p2 : Int32} {r : Int32} {M' : fp_Mem} (E : fp_EV p s m args meth c cX11_chain 3 RX11 (some .int) D G) (s0 : Int32) (M : fp_Mem) {H : Heap} {locs : List Loc} {ls : Array Slot} (hG : fp_H D G B s M H locs) (hl : lv_has ls 3 []) (h : m_X11_chain_54 p1 p2 s0 M = some (r, M')) : W p l e rm_X11_chain s m args below meth c H locs 0 0 (MQ below (fp_Qi D G B r M') args s 0 0 (fp_A B)) (F0 m 54 ls [.int s0]) := by
  have hx := E.1
  have hb := E.2.1
  have hown := E.2.2.2.1
  unfold m_X11_chain_54 at h
  exact fp_ireti E hG (fp_pr1 h) (fp_pr2 h) dX11_chain_54
set_option maxHeartbeats 2000000 in
theorem w_X11_chain_0 {p : Program} {l : Launch} {e : Env} {s : State} {m : MethodId} {args : Array Value} {below : List Frame} {meth : Method} {c : Code} {D : va_G} {G : Nat → ClassId} {B : Nat} {p1 : Int32} {p2 : Int32} {r : Int32} {M' : fp_Mem} (E : fp_EV p s m args meth c cX11_chain 3 RX11 (some .int) D G) {M : fp_Mem} {H : Heap} {locs : List Loc} {ls : Array Slot} (hG : fp_H D G B s M H locs) (hl : lv_has ls 3 [(0, .ref (B + 0)), (1, .int p1), (2, .int p2)]) (h : m_X11_chain M p1 p2 = some (r, M')) : W p l e rm_X11_chain s m args below meth c H locs 0 0 (MQ below (fp_Qi D G B r M') args s 0 0 (fp_A B)) (F0 m 0 ls []) := by
  have hx := E.1
  have hb := E.2.1
  have hown := E.2.2.2.1
  unfold m_X11_chain at h
  refine lv_aload_n hx hb dX11_chain_0 rfl (lv_at hl 0 rfl) ?_
  refine fp_g11_1 E hG tw_314 dX11_chain_1 ?_
  refine lv_iload_n hx hb dX11_chain_4 rfl (lv_at hl 1 rfl) ?_
  obtain ⟨r_1, c_2, h⟩ := fp_b1_s h
  refine fp_callVi (As := [.int p1]) (rest := []) E hG (c_X7_hasTable l D G B fp_is7_8 c_2) cv_X7_hasTable tw_514 tw_437 tw_438 ⟨rfl, rfl⟩ ⟨Nat.le_of_ble_eq_true rfl, Nat.le_of_ble_eq_true rfl⟩ (fp_recv E hG fp_is7_8.1.1 (fp_o7 fp_is7_8.1 _) rfl) rfl rfl (Nat.le_of_ble_eq_true rfl) hl.1 dX11_chain_5 ⟨Nat.zero_le _, Nat.zero_le _⟩ (fun H locs hG => ?_)
  refine lv_if_ne (tgt := 14) hx hb dX11_chain_8 (by decide) (fun q => ?_) (fun q => ?_)
  · replace h := fp_ifF q h
    refine lv_aload_n hx hb dX11_chain_14 rfl (lv_at hl 0 rfl) ?_
    refine fp_g11_3 E hG tw_316 dX11_chain_15 ?_
    refine lv_aload_n hx hb dX11_chain_18 rfl (lv_at hl 0 rfl) ?_
    refine fp_g11_1 E hG tw_314 dX11_chain_19 ?_
    refine lv_aload_n hx hb dX11_chain_22 rfl (lv_at hl 0 rfl) ?_
    refine fp_g11_2 E hG tw_315 dX11_chain_23 ?_
    obtain ⟨M_3, c_4, h⟩ := fp_b1_s h
    refine fp_callVv (As := [.ref (B + 8), .ref (B + 13)]) (rest := []) E hG (c_X2_measure l D G B fp_is2_16 fp_is7_8 fp_is9_13 c_4) cv_X2_measure tw_480 tw_481 tw_482 ⟨rfl, rfl⟩ ⟨Nat.le_of_ble_eq_true rfl, Nat.le_of_ble_eq_true rfl⟩ (fp_recv E hG fp_is2_16.1.1 (fp_o2 fp_is2_16.1 _) rfl) rfl rfl (Nat.le_of_ble_eq_true rfl) hl.1 dX11_chain_26 ⟨Nat.zero_le _, Nat.zero_le _⟩ (fun H locs hG => ?_)
    refine lv_iload_n hx hb dX11_chain_29 rfl (lv_at hl 2 rfl) ?_
    refine lv_iconst (v := (-1 : Int32)) hx hb dX11_chain_30 (by decide) ?_
    refine lv_icmp_ne (tgt := 45) hx hb dX11_chain_31 (by decide) (fun q => ?_) (fun q => ?_)
    · replace h := fp_ifF q h
      refine lv_aload_n hx hb dX11_chain_45 rfl (lv_at hl 0 rfl) ?_
      refine fp_g11_3 E hG tw_316 dX11_chain_46 ?_
      refine lv_iload_n hx hb dX11_chain_49 rfl (lv_at hl 1 rfl) ?_
      refine lv_iload_n hx hb dX11_chain_50 rfl (lv_at hl 2 rfl) ?_
      obtain ⟨r_5, c_6, h⟩ := fp_b1_s h
      refine fp_callVi (As := [.int p1, .int p2]) (rest := []) E hG (c_X2_tableOf l D G B fp_is2_16 c_6) cv_X2_tableOf tw_623 tw_560 tw_561 ⟨rfl, rfl⟩ ⟨Nat.le_of_ble_eq_true rfl, Nat.le_of_ble_eq_true rfl⟩ (fp_recv E hG fp_is2_16.1.1 (fp_o2 fp_is2_16.1 _) rfl) rfl rfl (Nat.le_of_ble_eq_true rfl) hl.1 dX11_chain_51 ⟨Nat.zero_le _, Nat.zero_le _⟩ (fun H locs hG => ?_)
      exact w_X11_chain_54 E   _ _ hG (lv_sub hl [] rfl) h
    · replace h := fp_ifT q h
      refine lv_aload_n hx hb dX11_chain_34 rfl (lv_at hl 0 rfl) ?_
      refine fp_g11_3 E hG tw_316 dX11_chain_35 ?_
      refine lv_iload_n hx hb dX11_chain_38 rfl (lv_at hl 1 rfl) ?_
      obtain ⟨r_7, c_8, h⟩ := fp_b1_s h
      refine fp_callVi (As := [.int p1]) (rest := []) E hG (c_X2_movesFrom l D G B fp_is2_16 c_8) cv_X2_movesFrom tw_622 tw_556 tw_557 ⟨rfl, rfl⟩ ⟨Nat.le_of_ble_eq_true rfl, Nat.le_of_ble_eq_true rfl⟩ (fp_recv E hG fp_is2_16.1.1 (fp_o2 fp_is2_16.1 _) rfl) rfl rfl (Nat.le_of_ble_eq_true rfl) hl.1 dX11_chain_39 ⟨Nat.zero_le _, Nat.zero_le _⟩ (fun H locs hG => ?_)
      refine lv_goto (tgt := 54) hx hb dX11_chain_42 (by decide) ?_
      exact w_X11_chain_54 E   _ _ hG (lv_sub hl [] rfl) h
  · replace h := fp_ifT q h
    refine lv_ldc (v := (-1000000001 : Int32)) hx hb hown (fp_tabs E tw_515) dX11_chain_11 ?_
    exact fp_ireti E hG (fp_pr1 h) (fp_pr2 h) dX11_chain_13
theorem c_X11_chain (l : Launch) (D : va_G) (G : Nat → ClassId) (B : Nat) {M : fp_Mem}  {p1 : Int32} {p2 : Int32} {r : Int32} {M' : fp_Mem}  (h : m_X11_chain M p1 p2 = some (r, M')) : Met l yX11_chain (Cond.code yX11_chain cX11_chain 3 (some .int) :: fp_T) rm_X11_chain (va_Pc [.ref (B + 0), .int p1, .int p2] (fp_GS D G B M)) (fp_Qi D G B r M') 0 0 (fp_A B) :=
  fp_met (own := RX11) (by decide) rfl (Nat.le_of_ble_eq_true rfl) (fun E hG hl => w_X11_chain_0 E  hG hl h)
abbrev rm_X11_more : Room := { frames := 4, cells := 0, slots := 0, locals := 94 }
theorem cv_X11_more : fp_CV yX11_more cX11_more 2 (some .int) 1 := ⟨tw_627, tw_1, by decide, by decide +kernel⟩
set_option maxHeartbeats 2000000 in
theorem w_X11_more_0 {p : Program} {l : Launch} {e : Env} {s : State} {m : MethodId} {args : Array Value} {below : List Frame} {meth : Method} {c : Code} {D : va_G} {G : Nat → ClassId} {B : Nat} {p1 : Int32} {r : Int32} {M' : fp_Mem} (E : fp_EV p s m args meth c cX11_more 2 RX11 (some .int) D G) {M : fp_Mem} {H : Heap} {locs : List Loc} {ls : Array Slot} (hG : fp_H D G B s M H locs) (hl : lv_has ls 2 [(0, .ref (B + 0)), (1, .int p1)]) (h : m_X11_more M p1 = some (r, M')) : W p l e rm_X11_more s m args below meth c H locs 0 0 (MQ below (fp_Qi D G B r M') args s 0 0 (fp_A B)) (F0 m 0 ls []) := by
  have hx := E.1
  have hb := E.2.1
  have hown := E.2.2.2.1
  unfold m_X11_more at h
  refine lv_aload_n hx hb dX11_more_0 rfl (lv_at hl 0 rfl) ?_
  refine fp_g11_1 E hG tw_314 dX11_more_1 ?_
  refine lv_iload_n hx hb dX11_more_4 rfl (lv_at hl 1 rfl) ?_
  obtain ⟨r_1, c_2, h⟩ := fp_b1_s h
  refine fp_callVi (As := [.int p1]) (rest := []) E hG (c_X7_hasTable l D G B fp_is7_8 c_2) cv_X7_hasTable tw_514 tw_437 tw_438 ⟨rfl, rfl⟩ ⟨Nat.le_of_ble_eq_true rfl, Nat.le_of_ble_eq_true rfl⟩ (fp_recv E hG fp_is7_8.1.1 (fp_o7 fp_is7_8.1 _) rfl) rfl rfl (Nat.le_of_ble_eq_true rfl) hl.1 dX11_more_5 ⟨Nat.zero_le _, Nat.zero_le _⟩ (fun H locs hG => ?_)
  refine lv_if_ne (tgt := 14) hx hb dX11_more_8 (by decide) (fun q => ?_) (fun q => ?_)
  · replace h := fp_ifF q h
    refine lv_aload_n hx hb dX11_more_14 rfl (lv_at hl 0 rfl) ?_
    refine fp_g11_5 E hG tw_318 dX11_more_15 ?_
    refine lv_aload_n hx hb dX11_more_18 rfl (lv_at hl 0 rfl) ?_
    refine fp_g11_1 E hG tw_314 dX11_more_19 ?_
    refine lv_aload_n hx hb dX11_more_22 rfl (lv_at hl 0 rfl) ?_
    refine fp_g11_2 E hG tw_315 dX11_more_23 ?_
    refine lv_iload_n hx hb dX11_more_26 rfl (lv_at hl 1 rfl) ?_
    obtain ⟨r_3, M_4, c_5, h⟩ := fp_b2_s h
    refine fp_callVi (As := [.ref (B + 8), .ref (B + 13), .int p1]) (rest := []) E hG (c_X10_moreGuests l D G B fp_is7_8 fp_is9_13 c_5) cv_X10_moreGuests tw_628 tw_629 tw_630 ⟨rfl, rfl⟩ ⟨Nat.le_of_ble_eq_true rfl, Nat.le_of_ble_eq_true rfl⟩ (fp_recv E hG (by decide) (fp_o10 _) rfl) rfl rfl (Nat.le_of_ble_eq_true rfl) hl.1 dX11_more_27 ⟨Nat.zero_le _, Nat.zero_le _⟩ (fun H locs hG => ?_)
    exact fp_ireti E hG (fp_pr1 h) (fp_pr2 h) dX11_more_30
  · replace h := fp_ifT q h
    refine lv_ldc (v := (-1000000001 : Int32)) hx hb hown (fp_tabs E tw_515) dX11_more_11 ?_
    exact fp_ireti E hG (fp_pr1 h) (fp_pr2 h) dX11_more_13
theorem c_X11_more (l : Launch) (D : va_G) (G : Nat → ClassId) (B : Nat) {M : fp_Mem}  {p1 : Int32} {r : Int32} {M' : fp_Mem}  (h : m_X11_more M p1 = some (r, M')) : Met l yX11_more (Cond.code yX11_more cX11_more 2 (some .int) :: fp_T) rm_X11_more (va_Pc [.ref (B + 0), .int p1] (fp_GS D G B M)) (fp_Qi D G B r M') 0 0 (fp_A B) :=
  fp_met (own := RX11) (by decide) rfl (Nat.le_of_ble_eq_true rfl) (fun E hG hl => w_X11_more_0 E  hG hl h)
abbrev rm_X11_far : Room := { frames := 3, cells := 0, slots := 0, locals := 72 }
theorem cv_X11_far : fp_CV yX11_far cX11_far 3 (some .int) 1 := ⟨tw_648, tw_1, by decide, by decide +kernel⟩
set_option maxHeartbeats 2000000 in
theorem w_X11_far_9 {p : Program} {l : Launch} {e : Env} {s : State} {m : MethodId} {args : Array Value} {below : List Frame} {meth : Method} {c : Code} {D : va_G} {G : Nat → ClassId} {B : Nat} {p1 : Int32} {r : Int32} {M' : fp_Mem} (E : fp_EV p s m args meth c cX11_far 3 RX11 (some .int) D G) (M : fp_Mem) {H : Heap} {locs : List Loc} {ls : Array Slot} (hG : fp_H D G B s M H locs) (hl : lv_has ls 3 []) (h : m_X11_far_9 p1 M = some (r, M')) : W p l e rm_X11_far s m args below meth c H locs 0 0 (MQ below (fp_Qi D G B r M') args s 0 0 (fp_A B)) (F0 m 9 ls []) := by
  have hx := E.1
  have hb := E.2.1
  have hown := E.2.2.2.1
  unfold m_X11_far_9 at h
  refine lv_ldc (v := (-1000000002 : Int32)) hx hb hown (fp_tabs E tw_351) dX11_far_9 ?_
  exact fp_ireti E hG (fp_pr1 h) (fp_pr2 h) dX11_far_11
set_option maxHeartbeats 2000000 in
theorem w_X11_far_51 {p : Program} {l : Launch} {e : Env} {s : State} {m : MethodId} {args : Array Value} {below : List Frame} {meth : Method} {c : Code} {D : va_G} {G : Nat → ClassId} {B : Nat} {p1 : Int32} {r : Int32} {M' : fp_Mem} (E : fp_EV p s m args meth c cX11_far 3 RX11 (some .int) D G) (s0 : Int32) (M : fp_Mem) {H : Heap} {locs : List Loc} {ls : Array Slot} (hG : fp_H D G B s M H locs) (hl : lv_has ls 3 []) (h : m_X11_far_51 p1 s0 M = some (r, M')) : W p l e rm_X11_far s m args below meth c H locs 0 0 (MQ below (fp_Qi D G B r M') args s 0 0 (fp_A B)) (F0 m 51 ls [.int s0]) := by
  have hx := E.1
  have hb := E.2.1
  have hown := E.2.2.2.1
  unfold m_X11_far_51 at h
  exact fp_ireti E hG (fp_pr1 h) (fp_pr2 h) dX11_far_51
set_option maxHeartbeats 2000000 in
theorem w_X11_far_0 {p : Program} {l : Launch} {e : Env} {s : State} {m : MethodId} {args : Array Value} {below : List Frame} {meth : Method} {c : Code} {D : va_G} {G : Nat → ClassId} {B : Nat} {p1 : Int32} {r : Int32} {M' : fp_Mem} (E : fp_EV p s m args meth c cX11_far 3 RX11 (some .int) D G) {M : fp_Mem} {H : Heap} {locs : List Loc} {ls : Array Slot} (hG : fp_H D G B s M H locs) (hl : lv_has ls 3 [(0, .ref (B + 0)), (1, .int p1)]) (h : m_X11_far M p1 = some (r, M')) : W p l e rm_X11_far s m args below meth c H locs 0 0 (MQ below (fp_Qi D G B r M') args s 0 0 (fp_A B)) (F0 m 0 ls []) := by
  have hx := E.1
  have hb := E.2.1
  have hown := E.2.2.2.1
  unfold m_X11_far at h
  refine lv_iload_n hx hb dX11_far_0 rfl (lv_at hl 1 rfl) ?_
  refine lv_if_lt (tgt := 9) hx hb dX11_far_1 (by decide) (fun q => ?_) (fun q => ?_)
  · replace h := fp_ifT q h
    exact w_X11_far_9 E   _ hG (lv_sub hl [] rfl) h
  · replace h := fp_ifF q h
    refine lv_iload_n hx hb dX11_far_4 rfl (lv_at hl 1 rfl) ?_
    refine lv_iconst (v := (nI 1)) hx hb dX11_far_5 (by decide) ?_
    refine lv_icmp_le (tgt := 12) hx hb dX11_far_6 (by decide) (fun q => ?_) (fun q => ?_)
    · replace h := fp_ifT q h
      refine lv_aload_n hx hb dX11_far_12 rfl (lv_at hl 0 rfl) ?_
      refine fp_g11_3 E hG tw_316 dX11_far_13 ?_
      refine lv_aload_n hx hb dX11_far_16 rfl (lv_at hl 0 rfl) ?_
      refine fp_g11_1 E hG tw_314 dX11_far_17 ?_
      refine lv_aload_n hx hb dX11_far_20 rfl (lv_at hl 0 rfl) ?_
      refine fp_g11_2 E hG tw_315 dX11_far_21 ?_
      obtain ⟨M_1, c_2, h⟩ := fp_b1_s h
      refine fp_callVv (As := [.ref (B + 8), .ref (B + 13)]) (rest := []) E hG (c_X2_measure l D G B fp_is2_16 fp_is7_8 fp_is9_13 c_2) cv_X2_measure tw_480 tw_481 tw_482 ⟨rfl, rfl⟩ ⟨Nat.le_of_ble_eq_true rfl, Nat.le_of_ble_eq_true rfl⟩ (fp_recv E hG fp_is2_16.1.1 (fp_o2 fp_is2_16.1 _) rfl) rfl rfl (Nat.le_of_ble_eq_true rfl) hl.1 dX11_far_24 ⟨Nat.zero_le _, Nat.zero_le _⟩ (fun H locs hG => ?_)
      refine lv_aload_n hx hb dX11_far_27 rfl (lv_at hl 0 rfl) ?_
      refine fp_g11_3 E hG tw_316 dX11_far_28 ?_
      obtain ⟨r_3, c_4, h⟩ := fp_b1_s h
      refine fp_callVi (As := []) (rest := []) E hG (c_X2_farthest l D G B fp_is2_16 c_4) cv_X2_farthest tw_649 tw_650 tw_651 ⟨rfl, rfl⟩ ⟨Nat.le_of_ble_eq_true rfl, Nat.le_of_ble_eq_true rfl⟩ (fp_recv E hG fp_is2_16.1.1 (fp_o2 fp_is2_16.1 _) rfl) rfl rfl (Nat.le_of_ble_eq_true rfl) hl.1 dX11_far_31 ⟨Nat.zero_le _, Nat.zero_le _⟩ (fun H locs hG => ?_)
      refine lv_istore_n (lv' := [(2, .int r_3), (0, .ref (B + 0)), (1, .int p1)]) hx hb dX11_far_34 rfl hl (by decide) rfl (fun ls hl => ?_)
      refine lv_iload_n hx hb dX11_far_35 rfl (lv_at hl 2 rfl) ?_
      refine lv_if_ne (tgt := 50) hx hb dX11_far_36 (by decide) (fun q => ?_) (fun q => ?_)
      · replace h := fp_ifF q h
        refine lv_iload_n hx hb dX11_far_50 rfl (lv_at hl 0 rfl) ?_
        exact w_X11_far_51 E   _ _ hG (lv_sub hl [] rfl) h
      · replace h := fp_ifT q h
        refine lv_aload_n hx hb dX11_far_39 rfl (lv_at hl 1 rfl) ?_
        refine fp_g11_3 E hG tw_316 dX11_far_40 ?_
        refine lv_iload_n hx hb dX11_far_43 rfl (lv_at hl 0 rfl) ?_
        obtain ⟨r_5, c_6, h⟩ := fp_b1_s h
        refine fp_callVi (As := [.int r_3]) (rest := []) E hG (c_X2_movesFrom l D G B fp_is2_16 c_6) cv_X2_movesFrom tw_622 tw_556 tw_557 ⟨rfl, rfl⟩ ⟨Nat.le_of_ble_eq_true rfl, Nat.le_of_ble_eq_true rfl⟩ (fp_recv E hG fp_is2_16.1.1 (fp_o2 fp_is2_16.1 _) rfl) rfl rfl (Nat.le_of_ble_eq_true rfl) hl.1 dX11_far_44 ⟨Nat.zero_le _, Nat.zero_le _⟩ (fun H locs hG => ?_)
        refine lv_goto (tgt := 51) hx hb dX11_far_47 (by decide) ?_
        exact w_X11_far_51 E   _ _ hG (lv_sub hl [] rfl) h
    · replace h := fp_ifF q h
      exact w_X11_far_9 E   _ hG (lv_sub hl [] rfl) h
theorem c_X11_far (l : Launch) (D : va_G) (G : Nat → ClassId) (B : Nat) {M : fp_Mem}  {p1 : Int32} {r : Int32} {M' : fp_Mem}  (h : m_X11_far M p1 = some (r, M')) : Met l yX11_far (Cond.code yX11_far cX11_far 3 (some .int) :: fp_T) rm_X11_far (va_Pc [.ref (B + 0), .int p1] (fp_GS D G B M)) (fp_Qi D G B r M') 0 0 (fp_A B) :=
  fp_met (own := RX11) (by decide) rfl (Nat.le_of_ble_eq_true rfl) (fun E hG hl => w_X11_far_0 E  hG hl h)
abbrev rm_X11_two : Room := { frames := 6, cells := 0, slots := 0, locals := 144 }
theorem cv_X11_two : fp_CV yX11_two cX11_two 6 (some .int) 3 := ⟨tw_656, tw_1, by decide, by decide +kernel⟩
set_option maxHeartbeats 2000000 in
theorem w_X11_two_22 {p : Program} {l : Launch} {e : Env} {s : State} {m : MethodId} {args : Array Value} {below : List Frame} {meth : Method} {c : Code} {D : va_G} {G : Nat → ClassId} {B : Nat} {p1 : Int32} {p2 : Int32} {p3 : Int32} {r : Int32} {M' : fp_Mem} (E : fp_EV p s m args meth c cX11_two 6 RX11 (some .int) D G) (M : fp_Mem) {H : Heap} {locs : List Loc} {ls : Array Slot} (hG : fp_H D G B s M H locs) (hl : lv_has ls 6 []) (h : m_X11_two_22 p1 p2 p3 M = some (r, M')) : W p l e rm_X11_two s m args below meth c H locs 0 0 (MQ below (fp_Qi D G B r M') args s 0 0 (fp_A B)) (F0 m 22 ls []) := by
  have hx := E.1
  have hb := E.2.1
  have hown := E.2.2.2.1
  unfold m_X11_two_22 at h
  refine lv_ldc (v := (-1000000001 : Int32)) hx hb hown (fp_tabs E tw_515) dX11_two_22 ?_
  exact fp_ireti E hG (fp_pr1 h) (fp_pr2 h) dX11_two_24
set_option maxHeartbeats 2000000 in
theorem w_X11_two_34 {p : Program} {l : Launch} {e : Env} {s : State} {m : MethodId} {args : Array Value} {below : List Frame} {meth : Method} {c : Code} {D : va_G} {G : Nat → ClassId} {B : Nat} {p1 : Int32} {p2 : Int32} {p3 : Int32} {r : Int32} {M' : fp_Mem} (E : fp_EV p s m args meth c cX11_two 6 RX11 (some .int) D G) (M : fp_Mem) {H : Heap} {locs : List Loc} {ls : Array Slot} (hG : fp_H D G B s M H locs) (hl : lv_has ls 6 []) (h : m_X11_two_34 p1 p2 p3 M = some (r, M')) : W p l e rm_X11_two s m args below meth c H locs 0 0 (MQ below (fp_Qi D G B r M') args s 0 0 (fp_A B)) (F0 m 34 ls []) := by
  have hx := E.1
  have hb := E.2.1
  have hown := E.2.2.2.1
  unfold m_X11_two_34 at h
  refine lv_ldc (v := (-1000000002 : Int32)) hx hb hown (fp_tabs E tw_351) dX11_two_34 ?_
  exact fp_ireti E hG (fp_pr1 h) (fp_pr2 h) dX11_two_36
set_option maxHeartbeats 2000000 in
theorem w_X11_two_91 {p : Program} {l : Launch} {e : Env} {s : State} {m : MethodId} {args : Array Value} {below : List Frame} {meth : Method} {c : Code} {D : va_G} {G : Nat → ClassId} {B : Nat} {p1 : Int32} {p2 : Int32} {p3 : Int32} {r : Int32} {M' : fp_Mem} (E : fp_EV p s m args meth c cX11_two 6 RX11 (some .int) D G) (s0 : Int32) (M : fp_Mem) {H : Heap} {locs : List Loc} {ls : Array Slot} (hG : fp_H D G B s M H locs) (hl : lv_has ls 6 []) (h : m_X11_two_91 p1 p2 p3 s0 M = some (r, M')) : W p l e rm_X11_two s m args below meth c H locs 0 0 (MQ below (fp_Qi D G B r M') args s 0 0 (fp_A B)) (F0 m 91 ls [.int s0]) := by
  have hx := E.1
  have hb := E.2.1
  have hown := E.2.2.2.1
  unfold m_X11_two_91 at h
  exact fp_ireti E hG (fp_pr1 h) (fp_pr2 h) dX11_two_91
set_option maxHeartbeats 2000000 in
theorem w_X11_two_0 {p : Program} {l : Launch} {e : Env} {s : State} {m : MethodId} {args : Array Value} {below : List Frame} {meth : Method} {c : Code} {D : va_G} {G : Nat → ClassId} {B : Nat} {p1 : Int32} {p2 : Int32} {p3 : Int32} {r : Int32} {M' : fp_Mem} (E : fp_EV p s m args meth c cX11_two 6 RX11 (some .int) D G) {M : fp_Mem} {H : Heap} {locs : List Loc} {ls : Array Slot} (hG : fp_H D G B s M H locs) (hl : lv_has ls 6 [(0, .ref (B + 0)), (1, .int p1), (2, .int p2), (3, .int p3)]) (h : m_X11_two M p1 p2 p3 = some (r, M')) : W p l e rm_X11_two s m args below meth c H locs 0 0 (MQ below (fp_Qi D G B r M') args s 0 0 (fp_A B)) (F0 m 0 ls []) := by
  have hx := E.1
  have hb := E.2.1
  have hown := E.2.2.2.1
  unfold m_X11_two at h
  refine lv_aload_n hx hb dX11_two_0 rfl (lv_at hl 0 rfl) ?_
  refine fp_g11_1 E hG tw_314 dX11_two_1 ?_
  refine lv_iload_n hx hb dX11_two_4 rfl (lv_at hl 1 rfl) ?_
  obtain ⟨r_1, c_2, h⟩ := fp_b1_s h
  refine fp_callVi (As := [.int p1]) (rest := []) E hG (c_X7_hasTable l D G B fp_is7_8 c_2) cv_X7_hasTable tw_514 tw_437 tw_438 ⟨rfl, rfl⟩ ⟨Nat.le_of_ble_eq_true rfl, Nat.le_of_ble_eq_true rfl⟩ (fp_recv E hG fp_is7_8.1.1 (fp_o7 fp_is7_8.1 _) rfl) rfl rfl (Nat.le_of_ble_eq_true rfl) hl.1 dX11_two_5 ⟨Nat.zero_le _, Nat.zero_le _⟩ (fun H locs hG => ?_)
  refine lv_if_eq (tgt := 22) hx hb dX11_two_8 (by decide) (fun q => ?_) (fun q => ?_)
  · replace h := fp_ifT q h
    exact w_X11_two_22 E   _ hG (lv_sub hl [] rfl) h
  · replace h := fp_ifF q h
    refine lv_aload_n hx hb dX11_two_11 rfl (lv_at hl 0 rfl) ?_
    refine fp_g11_1 E hG tw_314 dX11_two_12 ?_
    refine lv_iload_n hx hb dX11_two_15 rfl (lv_at hl 2 rfl) ?_
    obtain ⟨r_3, c_4, h⟩ := fp_b1_s h
    refine fp_callVi (As := [.int p2]) (rest := []) E hG (c_X7_hasTable l D G B fp_is7_8 c_4) cv_X7_hasTable tw_514 tw_437 tw_438 ⟨rfl, rfl⟩ ⟨Nat.le_of_ble_eq_true rfl, Nat.le_of_ble_eq_true rfl⟩ (fp_recv E hG fp_is7_8.1.1 (fp_o7 fp_is7_8.1 _) rfl) rfl rfl (Nat.le_of_ble_eq_true rfl) hl.1 dX11_two_16 ⟨Nat.zero_le _, Nat.zero_le _⟩ (fun H locs hG => ?_)
    refine lv_if_ne (tgt := 25) hx hb dX11_two_19 (by decide) (fun q => ?_) (fun q => ?_)
    · replace h := fp_ifF q h
      refine lv_iload_n hx hb dX11_two_25 rfl (lv_at hl 3 rfl) ?_
      refine lv_if_lt (tgt := 34) hx hb dX11_two_26 (by decide) (fun q => ?_) (fun q => ?_)
      · replace h := fp_ifT q h
        exact w_X11_two_34 E   _ hG (lv_sub hl [] rfl) h
      · replace h := fp_ifF q h
        refine lv_iload_n hx hb dX11_two_29 rfl (lv_at hl 3 rfl) ?_
        refine lv_iconst (v := (nI 1)) hx hb dX11_two_30 (by decide) ?_
        refine lv_icmp_le (tgt := 37) hx hb dX11_two_31 (by decide) (fun q => ?_) (fun q => ?_)
        · replace h := fp_ifT q h
          refine lv_aload_n hx hb dX11_two_37 rfl (lv_at hl 0 rfl) ?_
          refine fp_g11_5 E hG tw_318 dX11_two_38 ?_
          refine lv_aload_n hx hb dX11_two_41 rfl (lv_at hl 0 rfl) ?_
          refine fp_g11_1 E hG tw_314 dX11_two_42 ?_
          refine lv_aload_n hx hb dX11_two_45 rfl (lv_at hl 0 rfl) ?_
          refine fp_g11_2 E hG tw_315 dX11_two_46 ?_
          refine lv_iload_n hx hb dX11_two_49 rfl (lv_at hl 1 rfl) ?_
          refine lv_iload_n hx hb dX11_two_50 rfl (lv_at hl 2 rfl) ?_
          obtain ⟨r_5, M_6, c_7, h⟩ := fp_b2_s h
          refine fp_callVi (As := [.ref (B + 8), .ref (B + 13), .int p1, .int p2]) (rest := []) E hG (c_X10_movesOfTwo l D G B fp_is7_8 fp_is9_13 c_7) cv_X10_movesOfTwo tw_657 tw_658 tw_659 ⟨rfl, rfl⟩ ⟨Nat.le_of_ble_eq_true rfl, Nat.le_of_ble_eq_true rfl⟩ (fp_recv E hG (by decide) (fp_o10 _) rfl) rfl rfl (Nat.le_of_ble_eq_true rfl) hl.1 dX11_two_51 ⟨Nat.zero_le _, Nat.zero_le _⟩ (fun H locs hG => ?_)
          refine lv_istore (lv' := [(4, .int r_5), (0, .ref (B + 0)), (1, .int p1), (2, .int p2), (3, .int p3)]) hx hb dX11_two_54 hl (by decide) rfl (fun ls hl => ?_)
          refine lv_aload_n hx hb dX11_two_56 rfl (lv_at hl 1 rfl) ?_
          refine fp_g11_5 E hG tw_318 dX11_two_57 ?_
          refine lv_aload_n hx hb dX11_two_60 rfl (lv_at hl 1 rfl) ?_
          refine fp_g11_1 E hG tw_314 dX11_two_61 ?_
          refine lv_aload_n hx hb dX11_two_64 rfl (lv_at hl 1 rfl) ?_
          refine fp_g11_2 E hG tw_315 dX11_two_65 ?_
          refine lv_iload_n hx hb dX11_two_68 rfl (lv_at hl 3 rfl) ?_
          refine lv_iload_n hx hb dX11_two_69 rfl (lv_at hl 2 rfl) ?_
          obtain ⟨r_8, M_9, c_10, h⟩ := fp_b2_s h
          refine fp_callVi (As := [.ref (B + 8), .ref (B + 13), .int p2, .int p1]) (rest := []) E hG (c_X10_movesOfTwo l D G B fp_is7_8 fp_is9_13 c_10) cv_X10_movesOfTwo tw_657 tw_658 tw_659 ⟨rfl, rfl⟩ ⟨Nat.le_of_ble_eq_true rfl, Nat.le_of_ble_eq_true rfl⟩ (fp_recv E hG (by decide) (fp_o10 _) rfl) rfl rfl (Nat.le_of_ble_eq_true rfl) hl.1 dX11_two_70 ⟨Nat.zero_le _, Nat.zero_le _⟩ (fun H locs hG => ?_)
          refine lv_istore (lv' := [(5, .int r_8), (4, .int r_5), (0, .ref (B + 0)), (1, .int p1), (2, .int p2), (3, .int p3)]) hx hb dX11_two_73 hl (by decide) rfl (fun ls hl => ?_)
          refine lv_iload_n hx hb dX11_two_75 rfl (lv_at hl 5 rfl) ?_
          refine lv_if_ne (tgt := 92) hx hb dX11_two_76 (by decide) (fun q => ?_) (fun q => ?_)
          · replace h := fp_ifF q h
            refine lv_iload hx hb dX11_two_92 (lv_at hl 1 rfl) ?_
            refine lv_iload hx hb dX11_two_94 (lv_at hl 0 rfl) ?_
            refine va_mmin hx hb (E.2.2.1.trans hl.1.symm) hown (fp_tabs E tw_667) (fp_tabs E tw_548) (fp_tabs E tw_15) (fp_tabs E tw_549) (Nat.le_of_ble_eq_true rfl) (Nat.le_of_ble_eq_true rfl) (Nat.zero_le _) (Nat.zero_le _) dX11_two_96 ?_
            exact fp_ireti E hG (fp_pr1 h) (fp_pr2 h) dX11_two_99
          · replace h := fp_ifT q h
            refine lv_iload hx hb dX11_two_79 (lv_at hl 0 rfl) ?_
            refine lv_iload hx hb dX11_two_81 (lv_at hl 1 rfl) ?_
            refine lv_icmp_ge (tgt := 90) hx hb dX11_two_83 (by decide) (fun q => ?_) (fun q => ?_)
            · replace h := fp_ifT q h
              refine lv_iconst (v := (nI 0)) hx hb dX11_two_90 (by decide) ?_
              exact w_X11_two_91 E   _ _ hG (lv_sub hl [] rfl) h
            · replace h := fp_ifF q h
              refine lv_iconst (v := (nI 1)) hx hb dX11_two_86 (by decide) ?_
              refine lv_goto (tgt := 91) hx hb dX11_two_87 (by decide) ?_
              exact w_X11_two_91 E   _ _ hG (lv_sub hl [] rfl) h
        · replace h := fp_ifF q h
          exact w_X11_two_34 E   _ hG (lv_sub hl [] rfl) h
    · replace h := fp_ifT q h
      exact w_X11_two_22 E   _ hG (lv_sub hl [] rfl) h
theorem c_X11_two (l : Launch) (D : va_G) (G : Nat → ClassId) (B : Nat) {M : fp_Mem}  {p1 : Int32} {p2 : Int32} {p3 : Int32} {r : Int32} {M' : fp_Mem}  (h : m_X11_two M p1 p2 p3 = some (r, M')) : Met l yX11_two (Cond.code yX11_two cX11_two 6 (some .int) :: fp_T) rm_X11_two (va_Pc [.ref (B + 0), .int p1, .int p2, .int p3] (fp_GS D G B M)) (fp_Qi D G B r M') 0 0 (fp_A B) :=
  fp_met (own := RX11) (by decide) rfl (Nat.le_of_ble_eq_true rfl) (fun E hG hl => w_X11_two_0 E  hG hl h)
abbrev rm_X11_chairs : Room := { frames := 3, cells := 0, slots := 0, locals := 77 }
theorem cv_X11_chairs : fp_CV yX11_chairs cX11_chairs 5 (some .int) 3 := ⟨tw_671, tw_1, by decide, by decide +kernel⟩
set_option maxHeartbeats 2000000 in
theorem w_X11_chairs_27 {p : Program} {l : Launch} {e : Env} {s : State} {m : MethodId} {args : Array Value} {below : List Frame} {meth : Method} {c : Code} {D : va_G} {G : Nat → ClassId} {B : Nat} {p1 : Int32} {p2 : Int32} {p3 : Int32} {r : Int32} {M' : fp_Mem} (E : fp_EV p s m args meth c cX11_chairs 5 RX11 (some .int) D G) (M : fp_Mem) {H : Heap} {locs : List Loc} {ls : Array Slot} (hG : fp_H D G B s M H locs) (hl : lv_has ls 5 []) (h : m_X11_chairs_27 p1 p2 p3 M = some (r, M')) : W p l e rm_X11_chairs s m args below meth c H locs 0 0 (MQ below (fp_Qi D G B r M') args s 0 0 (fp_A B)) (F0 m 27 ls []) := by
  have hx := E.1
  have hb := E.2.1
  have hown := E.2.2.2.1
  unfold m_X11_chairs_27 at h
  refine lv_ldc (v := (-1000000001 : Int32)) hx hb hown (fp_tabs E tw_515) dX11_chairs_27 ?_
  exact fp_ireti E hG (fp_pr1 h) (fp_pr2 h) dX11_chairs_29
set_option maxHeartbeats 2000000 in
theorem w_X11_chairs_40 {p : Program} {l : Launch} {e : Env} {s : State} {m : MethodId} {args : Array Value} {below : List Frame} {meth : Method} {c : Code} {D : va_G} {G : Nat → ClassId} {B : Nat} {p1 : Int32} {p2 : Int32} {p3 : Int32} {r : Int32} {M' : fp_Mem} (E : fp_EV p s m args meth c cX11_chairs 5 RX11 (some .int) D G) (M : fp_Mem) {H : Heap} {locs : List Loc} {ls : Array Slot} (hG : fp_H D G B s M H locs) (hl : lv_has ls 5 []) (h : m_X11_chairs_40 p1 p2 p3 M = some (r, M')) : W p l e rm_X11_chairs s m args below meth c H locs 0 0 (MQ below (fp_Qi D G B r M') args s 0 0 (fp_A B)) (F0 m 40 ls []) := by
  have hx := E.1
  have hb := E.2.1
  have hown := E.2.2.2.1
  unfold m_X11_chairs_40 at h
  refine lv_ldc (v := (-1000000002 : Int32)) hx hb hown (fp_tabs E tw_351) dX11_chairs_40 ?_
  exact fp_ireti E hG (fp_pr1 h) (fp_pr2 h) dX11_chairs_42
set_option maxHeartbeats 2000000 in
theorem w_X11_chairs_100 {p : Program} {l : Launch} {e : Env} {s : State} {m : MethodId} {args : Array Value} {below : List Frame} {meth : Method} {c : Code} {D : va_G} {G : Nat → ClassId} {B : Nat} {p1 : Int32} {p2 : Int32} {p3 : Int32} {r : Int32} {M' : fp_Mem} (E : fp_EV p s m args meth c cX11_chairs 5 RX11 (some .int) D G) (s0 : Int32) (M : fp_Mem) {H : Heap} {locs : List Loc} {ls : Array Slot} (hG : fp_H D G B s M H locs) (hl : lv_has ls 5 []) (h : m_X11_chairs_100 p1 p2 p3 s0 M = some (r, M')) : W p l e rm_X11_chairs s m args below meth c H locs 0 0 (MQ below (fp_Qi D G B r M') args s 0 0 (fp_A B)) (F0 m 100 ls [.int s0]) := by
  have hx := E.1
  have hb := E.2.1
  have hown := E.2.2.2.1
  unfold m_X11_chairs_100 at h
  exact fp_ireti E hG (fp_pr1 h) (fp_pr2 h) dX11_chairs_100
set_option maxHeartbeats 2000000 in
theorem w_X11_chairs_30 {p : Program} {l : Launch} {e : Env} {s : State} {m : MethodId} {args : Array Value} {below : List Frame} {meth : Method} {c : Code} {D : va_G} {G : Nat → ClassId} {B : Nat} {p1 : Int32} {p2 : Int32} {p3 : Int32} {r : Int32} {M' : fp_Mem} (E : fp_EV p s m args meth c cX11_chairs 5 RX11 (some .int) D G) (M : fp_Mem) {H : Heap} {locs : List Loc} {ls : Array Slot} (hG : fp_H D G B s M H locs) (hl : lv_has ls 5 [(0, .ref (B + 0)), (1, .int p1), (2, .int p2), (3, .int p3)]) (h : m_X11_chairs_30 p1 p2 p3 M = some (r, M')) : W p l e rm_X11_chairs s m args below meth c H locs 0 0 (MQ below (fp_Qi D G B r M') args s 0 0 (fp_A B)) (F0 m 30 ls []) := by
  have hx := E.1
  have hb := E.2.1
  have hown := E.2.2.2.1
  unfold m_X11_chairs_30 at h
  refine lv_iload_n hx hb dX11_chairs_30 rfl (lv_at hl 2 rfl) ?_
  refine lv_if_lt (tgt := 40) hx hb dX11_chairs_31 (by decide) (fun q => ?_) (fun q => ?_)
  · replace h := fp_ifT q h
    exact w_X11_chairs_40 E   _ hG (lv_sub hl [] rfl) h
  · replace h := fp_ifF q h
    refine lv_iload_n hx hb dX11_chairs_34 rfl (lv_at hl 2 rfl) ?_
    refine lv_bipush (v := (nI 8)) hx hb dX11_chairs_35 (by decide) ?_
    refine lv_icmp_le (tgt := 43) hx hb dX11_chairs_37 (by decide) (fun q => ?_) (fun q => ?_)
    · replace h := fp_ifT q h
      refine lv_aload_n hx hb dX11_chairs_43 rfl (lv_at hl 0 rfl) ?_
      refine fp_g11_5 E hG tw_318 dX11_chairs_44 ?_
      refine lv_aload_n hx hb dX11_chairs_47 rfl (lv_at hl 0 rfl) ?_
      refine fp_g11_1 E hG tw_314 dX11_chairs_48 ?_
      refine lv_aload_n hx hb dX11_chairs_51 rfl (lv_at hl 0 rfl) ?_
      refine fp_g11_2 E hG tw_315 dX11_chairs_52 ?_
      refine lv_iload_n hx hb dX11_chairs_55 rfl (lv_at hl 1 rfl) ?_
      refine lv_iload_n hx hb dX11_chairs_56 rfl (lv_at hl 2 rfl) ?_
      obtain ⟨r_1, M_2, c_3, h⟩ := fp_b2_s h
      refine fp_callVi (As := [.ref (B + 8), .ref (B + 13), .int p1, .int p2]) (rest := []) E hG (c_X10_opened l D G B fp_is7_8 fp_is9_13 c_3) cv_X10_opened tw_677 tw_678 tw_679 ⟨rfl, rfl⟩ ⟨Nat.le_of_ble_eq_true rfl, Nat.le_of_ble_eq_true rfl⟩ (fp_recv E hG (by decide) (fp_o10 _) rfl) rfl rfl (Nat.le_of_ble_eq_true rfl) hl.1 dX11_chairs_57 ⟨Nat.zero_le _, Nat.zero_le _⟩ (fun H locs hG => ?_)
      refine lv_istore (lv' := [(4, .int r_1), (0, .ref (B + 0)), (1, .int p1), (2, .int p2), (3, .int p3)]) hx hb dX11_chairs_60 hl (by decide) rfl (fun ls hl => ?_)
      refine lv_iload hx hb dX11_chairs_62 (lv_at hl 0 rfl) ?_
      refine lv_iconst (v := (-1 : Int32)) hx hb dX11_chairs_64 (by decide) ?_
      refine lv_icmp_ne (tgt := 70) hx hb dX11_chairs_65 (by decide) (fun q => ?_) (fun q => ?_)
      · replace h := fp_ifF q h
        refine lv_iload_n hx hb dX11_chairs_70 rfl (lv_at hl 4 rfl) ?_
        refine lv_iconst (v := (-1 : Int32)) hx hb dX11_chairs_71 (by decide) ?_
        refine lv_icmp_ne (tgt := 87) hx hb dX11_chairs_72 (by decide) (fun q => ?_) (fun q => ?_)
        · replace h := fp_ifF q h
          refine lv_aload_n hx hb dX11_chairs_87 rfl (lv_at hl 1 rfl) ?_
          refine fp_g11_2 E hG tw_315 dX11_chairs_88 ?_
          refine lv_iload hx hb dX11_chairs_91 (lv_at hl 0 rfl) ?_
          refine lv_iconst (v := (nI 1)) hx hb dX11_chairs_93 (by decide) ?_
          refine lv_iload_n hx hb dX11_chairs_94 rfl (lv_at hl 4 rfl) ?_
          refine lv_ishl hx hb dX11_chairs_95 ?_
          refine lv_iand hx hb dX11_chairs_96 ?_
          obtain ⟨r_4, c_5, h⟩ := fp_b1_s h
          refine fp_callVi (As := [.int (r_1 &&& ((nI 1) <<< (p3 &&& 31)))]) (rest := []) E hG (c_X9_chairsFor l D G B fp_is9_13 c_5) cv_X9_chairsFor tw_702 tw_695 tw_696 ⟨rfl, rfl⟩ ⟨Nat.le_of_ble_eq_true rfl, Nat.le_of_ble_eq_true rfl⟩ (fp_recv E hG fp_is9_13.1.1 (fp_o9 fp_is9_13.1 _) rfl) rfl rfl (Nat.le_of_ble_eq_true rfl) hl.1 dX11_chairs_97 ⟨Nat.zero_le _, Nat.zero_le _⟩ (fun H locs hG => ?_)
          exact w_X11_chairs_100 E   _ _ hG (lv_sub hl [] rfl) h
        · replace h := fp_ifT q h
          refine lv_aload_n hx hb dX11_chairs_75 rfl (lv_at hl 1 rfl) ?_
          refine fp_g11_2 E hG tw_315 dX11_chairs_76 ?_
          refine lv_iload hx hb dX11_chairs_79 (lv_at hl 0 rfl) ?_
          obtain ⟨r_6, c_7, h⟩ := fp_b1_s h
          refine fp_callVi (As := [.int r_1]) (rest := []) E hG (c_X9_chairsFor l D G B fp_is9_13 c_7) cv_X9_chairsFor tw_702 tw_695 tw_696 ⟨rfl, rfl⟩ ⟨Nat.le_of_ble_eq_true rfl, Nat.le_of_ble_eq_true rfl⟩ (fp_recv E hG fp_is9_13.1.1 (fp_o9 fp_is9_13.1 _) rfl) rfl rfl (Nat.le_of_ble_eq_true rfl) hl.1 dX11_chairs_81 ⟨Nat.zero_le _, Nat.zero_le _⟩ (fun H locs hG => ?_)
          refine lv_goto (tgt := 100) hx hb dX11_chairs_84 (by decide) ?_
          exact w_X11_chairs_100 E   _ _ hG (lv_sub hl [] rfl) h
      · replace h := fp_ifT q h
        refine lv_iconst (v := (-1 : Int32)) hx hb dX11_chairs_68 (by decide) ?_
        exact fp_ireti E hG (fp_pr1 h) (fp_pr2 h) dX11_chairs_69
    · replace h := fp_ifF q h
      exact w_X11_chairs_40 E   _ hG (lv_sub hl [] rfl) h
set_option maxHeartbeats 2000000 in
theorem w_X11_chairs_0 {p : Program} {l : Launch} {e : Env} {s : State} {m : MethodId} {args : Array Value} {below : List Frame} {meth : Method} {c : Code} {D : va_G} {G : Nat → ClassId} {B : Nat} {p1 : Int32} {p2 : Int32} {p3 : Int32} {r : Int32} {M' : fp_Mem} (E : fp_EV p s m args meth c cX11_chairs 5 RX11 (some .int) D G) {M : fp_Mem} {H : Heap} {locs : List Loc} {ls : Array Slot} (hG : fp_H D G B s M H locs) (hl : lv_has ls 5 [(0, .ref (B + 0)), (1, .int p1), (2, .int p2), (3, .int p3)]) (h : m_X11_chairs M p1 p2 p3 = some (r, M')) : W p l e rm_X11_chairs s m args below meth c H locs 0 0 (MQ below (fp_Qi D G B r M') args s 0 0 (fp_A B)) (F0 m 0 ls []) := by
  have hx := E.1
  have hb := E.2.1
  have hown := E.2.2.2.1
  unfold m_X11_chairs at h
  refine lv_aload_n hx hb dX11_chairs_0 rfl (lv_at hl 0 rfl) ?_
  refine fp_g11_1 E hG tw_314 dX11_chairs_1 ?_
  refine lv_iload_n hx hb dX11_chairs_4 rfl (lv_at hl 1 rfl) ?_
  obtain ⟨r_8, c_9, h⟩ := fp_b1_s h
  refine fp_callVi (As := [.int p1]) (rest := []) E hG (c_X7_hasAll l D G B fp_is7_8 c_9) cv_X7_hasAll tw_672 tw_673 tw_674 ⟨rfl, rfl⟩ ⟨Nat.le_of_ble_eq_true rfl, Nat.le_of_ble_eq_true rfl⟩ (fp_recv E hG fp_is7_8.1.1 (fp_o7 fp_is7_8.1 _) rfl) rfl rfl (Nat.le_of_ble_eq_true rfl) hl.1 dX11_chairs_5 ⟨Nat.zero_le _, Nat.zero_le _⟩ (fun H locs hG => ?_)
  refine lv_if_eq (tgt := 27) hx hb dX11_chairs_8 (by decide) (fun q => ?_) (fun q => ?_)
  · replace h := fp_ifT q h
    exact w_X11_chairs_27 E   _ hG (lv_sub hl [] rfl) h
  · replace h := fp_ifF q h
    refine lv_iload_n hx hb dX11_chairs_11 rfl (lv_at hl 3 rfl) ?_
    refine lv_iconst (v := (-1 : Int32)) hx hb dX11_chairs_12 (by decide) ?_
    refine lv_icmp_eq (tgt := 30) hx hb dX11_chairs_13 (by decide) (fun q => ?_) (fun q => ?_)
    · replace h := fp_ifT q h
      exact w_X11_chairs_30 E   _ hG (lv_sub hl [0, 1, 2, 3] rfl) h
    · replace h := fp_ifF q h
      refine lv_aload_n hx hb dX11_chairs_16 rfl (lv_at hl 0 rfl) ?_
      refine fp_g11_1 E hG tw_314 dX11_chairs_17 ?_
      refine lv_iload_n hx hb dX11_chairs_20 rfl (lv_at hl 3 rfl) ?_
      obtain ⟨r_10, c_11, h⟩ := fp_b1_s h
      refine fp_callVi (As := [.int p3]) (rest := []) E hG (c_X7_hasTable l D G B fp_is7_8 c_11) cv_X7_hasTable tw_514 tw_437 tw_438 ⟨rfl, rfl⟩ ⟨Nat.le_of_ble_eq_true rfl, Nat.le_of_ble_eq_true rfl⟩ (fp_recv E hG fp_is7_8.1.1 (fp_o7 fp_is7_8.1 _) rfl) rfl rfl (Nat.le_of_ble_eq_true rfl) hl.1 dX11_chairs_21 ⟨Nat.zero_le _, Nat.zero_le _⟩ (fun H locs hG => ?_)
      refine lv_if_ne (tgt := 30) hx hb dX11_chairs_24 (by decide) (fun q => ?_) (fun q => ?_)
      · replace h := fp_ifF q h
        exact w_X11_chairs_30 E   _ hG (lv_sub hl [0, 1, 2, 3] rfl) h
      · replace h := fp_ifT q h
        exact w_X11_chairs_27 E   _ hG (lv_sub hl [] rfl) h
theorem c_X11_chairs (l : Launch) (D : va_G) (G : Nat → ClassId) (B : Nat) {M : fp_Mem}  {p1 : Int32} {p2 : Int32} {p3 : Int32} {r : Int32} {M' : fp_Mem}  (h : m_X11_chairs M p1 p2 p3 = some (r, M')) : Met l yX11_chairs (Cond.code yX11_chairs cX11_chairs 5 (some .int) :: fp_T) rm_X11_chairs (va_Pc [.ref (B + 0), .int p1, .int p2, .int p3] (fp_GS D G B M)) (fp_Qi D G B r M') 0 0 (fp_A B) :=
  fp_met (own := RX11) (by decide) rfl (Nat.le_of_ble_eq_true rfl) (fun E hG hl => w_X11_chairs_0 E  hG hl h)
abbrev rm_X11_spread : Room := { frames := 4, cells := 0, slots := 0, locals := 96 }
theorem cv_X11_spread : fp_CV yX11_spread cX11_spread 2 (some .int) 1 := ⟨tw_706, tw_1, by decide, by decide +kernel⟩
set_option maxHeartbeats 2000000 in
theorem w_X11_spread_0 {p : Program} {l : Launch} {e : Env} {s : State} {m : MethodId} {args : Array Value} {below : List Frame} {meth : Method} {c : Code} {D : va_G} {G : Nat → ClassId} {B : Nat} {p1 : Int32} {r : Int32} {M' : fp_Mem} (E : fp_EV p s m args meth c cX11_spread 2 RX11 (some .int) D G) {M : fp_Mem} {H : Heap} {locs : List Loc} {ls : Array Slot} (hG : fp_H D G B s M H locs) (hl : lv_has ls 2 [(0, .ref (B + 0)), (1, .int p1)]) (h : m_X11_spread M p1 = some (r, M')) : W p l e rm_X11_spread s m args below meth c H locs 0 0 (MQ below (fp_Qi D G B r M') args s 0 0 (fp_A B)) (F0 m 0 ls []) := by
  have hx := E.1
  have hb := E.2.1
  have hown := E.2.2.2.1
  unfold m_X11_spread at h
  refine lv_aload_n hx hb dX11_spread_0 rfl (lv_at hl 0 rfl) ?_
  refine fp_g11_1 E hG tw_314 dX11_spread_1 ?_
  refine lv_iload_n hx hb dX11_spread_4 rfl (lv_at hl 1 rfl) ?_
  obtain ⟨r_1, c_2, h⟩ := fp_b1_s h
  refine fp_callVi (As := [.int p1]) (rest := []) E hG (c_X7_hasTable l D G B fp_is7_8 c_2) cv_X7_hasTable tw_514 tw_437 tw_438 ⟨rfl, rfl⟩ ⟨Nat.le_of_ble_eq_true rfl, Nat.le_of_ble_eq_true rfl⟩ (fp_recv E hG fp_is7_8.1.1 (fp_o7 fp_is7_8.1 _) rfl) rfl rfl (Nat.le_of_ble_eq_true rfl) hl.1 dX11_spread_5 ⟨Nat.zero_le _, Nat.zero_le _⟩ (fun H locs hG => ?_)
  refine lv_if_ne (tgt := 14) hx hb dX11_spread_8 (by decide) (fun q => ?_) (fun q => ?_)
  · replace h := fp_ifF q h
    refine lv_aload_n hx hb dX11_spread_14 rfl (lv_at hl 0 rfl) ?_
    refine fp_g11_5 E hG tw_318 dX11_spread_15 ?_
    refine lv_aload_n hx hb dX11_spread_18 rfl (lv_at hl 0 rfl) ?_
    refine fp_g11_1 E hG tw_314 dX11_spread_19 ?_
    refine lv_aload_n hx hb dX11_spread_22 rfl (lv_at hl 0 rfl) ?_
    refine fp_g11_2 E hG tw_315 dX11_spread_23 ?_
    refine lv_iload_n hx hb dX11_spread_26 rfl (lv_at hl 1 rfl) ?_
    obtain ⟨r_3, M_4, c_5, h⟩ := fp_b2_s h
    refine fp_callVi (As := [.ref (B + 8), .ref (B + 13), .int p1]) (rest := []) E hG (c_X10_leastFree l D G B fp_is7_8 fp_is9_13 c_5) cv_X10_leastFree tw_707 tw_708 tw_709 ⟨rfl, rfl⟩ ⟨Nat.le_of_ble_eq_true rfl, Nat.le_of_ble_eq_true rfl⟩ (fp_recv E hG (by decide) (fp_o10 _) rfl) rfl rfl (Nat.le_of_ble_eq_true rfl) hl.1 dX11_spread_27 ⟨Nat.zero_le _, Nat.zero_le _⟩ (fun H locs hG => ?_)
    exact fp_ireti E hG (fp_pr1 h) (fp_pr2 h) dX11_spread_30
  · replace h := fp_ifT q h
    refine lv_ldc (v := (-1000000001 : Int32)) hx hb hown (fp_tabs E tw_515) dX11_spread_11 ?_
    exact fp_ireti E hG (fp_pr1 h) (fp_pr2 h) dX11_spread_13
theorem c_X11_spread (l : Launch) (D : va_G) (G : Nat → ClassId) (B : Nat) {M : fp_Mem}  {p1 : Int32} {r : Int32} {M' : fp_Mem}  (h : m_X11_spread M p1 = some (r, M')) : Met l yX11_spread (Cond.code yX11_spread cX11_spread 2 (some .int) :: fp_T) rm_X11_spread (va_Pc [.ref (B + 0), .int p1] (fp_GS D G B M)) (fp_Qi D G B r M') 0 0 (fp_A B) :=
  fp_met (own := RX11) (by decide) rfl (Nat.le_of_ble_eq_true rfl) (fun E hG hl => w_X11_spread_0 E  hG hl h)
abbrev rm_X11_quiet : Room := { frames := 0, cells := 0, slots := 0, locals := 0 }
theorem cv_X11_quiet : fp_CV yX11_quiet cX11_quiet 6 (some .int) 2 := ⟨tw_715, tw_1, by decide, by decide +kernel⟩
set_option maxHeartbeats 2000000 in
theorem w_X11_quiet_20 {p : Program} {l : Launch} {e : Env} {s : State} {m : MethodId} {args : Array Value} {below : List Frame} {meth : Method} {c : Code} {D : va_G} {G : Nat → ClassId} {B : Nat} {M : fp_Mem} {p1 : Int32} {p2 : Int32} {r : Int32} (E : fp_EV p s m args meth c cX11_quiet 6 RX11 (some .int) D G) {H : Heap} {locs : List Loc} {ls : Array Slot} (hG : fp_H D G B s M H locs) (hl : lv_has ls 6 []) (h : m_X11_quiet_20 M p1 p2 = some r) : W p l e rm_X11_quiet s m args below meth c H locs 0 0 (MQ below (fp_Qi D G B r M) args s 0 0 (fp_A B)) (F0 m 20 ls []) := by
  have hx := E.1
  have hb := E.2.1
  have hown := E.2.2.2.1
  unfold m_X11_quiet_20 at h
  refine lv_ldc (v := (-1000000002 : Int32)) hx hb hown (fp_tabs E tw_351) dX11_quiet_20 ?_
  exact fp_ireti E hG (Option.some.inj h) rfl dX11_quiet_22
set_option maxHeartbeats 2000000 in
theorem w_X11_quiet_30 {p : Program} {l : Launch} {e : Env} {s : State} {m : MethodId} {args : Array Value} {below : List Frame} {meth : Method} {c : Code} {D : va_G} {G : Nat → ClassId} {B : Nat} {M : fp_Mem} {p1 : Int32} {p2 : Int32} {r : Int32} (E : fp_EV p s m args meth c cX11_quiet 6 RX11 (some .int) D G) : ∀ (n : Nat) (v3 : Int64) (v5 : Int32) {H : Heap} {locs : List Loc} {ls : Array Slot}, fp_H D G B s M H locs → lv_has ls 6 [(1, .int p1), (2, .int p2), (3, .long v3), (5, .int v5)] → m_X11_quiet_30 M p1 p2 n v3 v5 = some r → W p l e rm_X11_quiet s m args below meth c H locs 0 0 (MQ below (fp_Qi D G B r M) args s 0 0 (fp_A B)) (F0 m 30 ls []) := by
  have hx := E.1
  have hb := E.2.1
  have hown := E.2.2.2.1
  intro n
  induction n with
  | zero =>
    intro v3 v5 H locs ls hG hl h
    exact nomatch h
  | succ n ih =>
    have ihK := @ih
    intro v3 v5 H locs ls hG hl h
    rw [m_X11_quiet_30] at h
    refine lv_iload hx hb dX11_quiet_30 (lv_at hl 3 rfl) ?_
    refine lv_iload_n hx hb dX11_quiet_32 rfl (lv_at hl 0 rfl) ?_
    refine lv_icmp_ge (tgt := 54) hx hb dX11_quiet_33 (by decide) (fun q => ?_) (fun q => ?_)
    · replace h := fp_ifT q h
      refine lv_lload_n hx hb dX11_quiet_54 rfl (lv_at hl 2 rfl) ?_
      refine lv_l2i hx hb dX11_quiet_55 rfl ?_
      exact fp_ireti E hG (Option.some.inj h) rfl dX11_quiet_56
    · replace h := fp_ifF q h
      refine lv_lload_n hx hb dX11_quiet_36 rfl (lv_at hl 2 rfl) ?_
      refine lv_bipush (v := (nI 100)) hx hb dX11_quiet_37 (by decide) ?_
      refine lv_iload_n hx hb dX11_quiet_39 rfl (lv_at hl 1 rfl) ?_
      refine lv_isub hx hb dX11_quiet_40 ?_
      refine lv_i2l hx hb dX11_quiet_41 rfl ?_
      refine lv_lmul hx hb dX11_quiet_42 ?_
      refine lv_ldc2 (v := (lN 100)) hx hb hown (fp_tabs E tw_717) dX11_quiet_43 ?_
      refine lv_ldiv hx hb dX11_quiet_46 (by decide) ?_
      obtain ⟨x_1, ex_1, h⟩ := fp_lt_s h
      refine fp_topL ex_1 ?_
      refine lv_lstore_n (lv' := [(3, .long x_1), (1, .int p1), (2, .int p2), (5, .int v5)]) hx hb dX11_quiet_47 rfl hl (by decide) rfl (fun ls hl => ?_)
      obtain ⟨x_2, ex_2, h⟩ := fp_lt_s h
      refine lv_iinc (v := x_2) (lv' := [(5, .int x_2), (3, .long x_1), (1, .int p1), (2, .int p2)]) hx hb dX11_quiet_48 hl (k := 3) rfl (by rw [ex_2]; rfl) (by decide) rfl (fun ls hl => ?_)
      refine lv_goto (tgt := 30) hx hb dX11_quiet_51 (by decide) ?_
      exact ih _ _ hG (lv_sub hl [2, 3, 1, 0] rfl) h
set_option maxHeartbeats 2000000 in
theorem w_X11_quiet_0 {p : Program} {l : Launch} {e : Env} {s : State} {m : MethodId} {args : Array Value} {below : List Frame} {meth : Method} {c : Code} {D : va_G} {G : Nat → ClassId} {B : Nat} {M : fp_Mem} {p1 : Int32} {p2 : Int32} {r : Int32} (E : fp_EV p s m args meth c cX11_quiet 6 RX11 (some .int) D G) {H : Heap} {locs : List Loc} {ls : Array Slot} (hG : fp_H D G B s M H locs) (hl : lv_has ls 6 [(0, .ref (B + 0)), (1, .int p1), (2, .int p2)]) (h : m_X11_quiet M p1 p2 = some r) : W p l e rm_X11_quiet s m args below meth c H locs 0 0 (MQ below (fp_Qi D G B r M) args s 0 0 (fp_A B)) (F0 m 0 ls []) := by
  have hx := E.1
  have hb := E.2.1
  have hown := E.2.2.2.1
  unfold m_X11_quiet at h
  refine lv_iload_n hx hb dX11_quiet_0 rfl (lv_at hl 1 rfl) ?_
  refine lv_if_lt (tgt := 20) hx hb dX11_quiet_1 (by decide) (fun q => ?_) (fun q => ?_)
  · replace h := fp_ifT q h
    exact w_X11_quiet_20 E    hG (lv_sub hl [] rfl) h
  · replace h := fp_ifF q h
    refine lv_iload_n hx hb dX11_quiet_4 rfl (lv_at hl 1 rfl) ?_
    refine lv_bipush (v := (nI 60)) hx hb dX11_quiet_5 (by decide) ?_
    refine lv_icmp_gt (tgt := 20) hx hb dX11_quiet_7 (by decide) (fun q => ?_) (fun q => ?_)
    · replace h := fp_ifT q h
      exact w_X11_quiet_20 E    hG (lv_sub hl [] rfl) h
    · replace h := fp_ifF q h
      refine lv_iload_n hx hb dX11_quiet_10 rfl (lv_at hl 2 rfl) ?_
      refine lv_if_lt (tgt := 20) hx hb dX11_quiet_11 (by decide) (fun q => ?_) (fun q => ?_)
      · replace h := fp_ifT q h
        exact w_X11_quiet_20 E    hG (lv_sub hl [] rfl) h
      · replace h := fp_ifF q h
        refine lv_iload_n hx hb dX11_quiet_14 rfl (lv_at hl 2 rfl) ?_
        refine lv_bipush (v := (nI 100)) hx hb dX11_quiet_15 (by decide) ?_
        refine lv_icmp_le (tgt := 23) hx hb dX11_quiet_17 (by decide) (fun q => ?_) (fun q => ?_)
        · replace h := fp_ifT q h
          refine lv_ldc2 (v := (lN 1000000000)) hx hb hown (fp_tabs E tw_716) dX11_quiet_23 ?_
          refine lv_lstore_n (lv' := [(3, .long (lN 1000000000)), (0, .ref (B + 0)), (1, .int p1), (2, .int p2)]) hx hb dX11_quiet_26 rfl hl (by decide) rfl (fun ls hl => ?_)
          refine lv_iconst (v := (nI 0)) hx hb dX11_quiet_27 (by decide) ?_
          refine lv_istore (lv' := [(5, .int (nI 0)), (3, .long (lN 1000000000)), (0, .ref (B + 0)), (1, .int p1), (2, .int p2)]) hx hb dX11_quiet_28 hl (by decide) rfl (fun ls hl => ?_)
          exact w_X11_quiet_30 E   fp_fu _ _ hG (lv_sub hl [3, 4, 1, 0] rfl) h
        · replace h := fp_ifF q h
          exact w_X11_quiet_20 E    hG (lv_sub hl [] rfl) h
theorem c_X11_quiet (l : Launch) (D : va_G) (G : Nat → ClassId) (B : Nat) {M : fp_Mem}  {p1 : Int32} {p2 : Int32} {r : Int32}  (h : m_X11_quiet M p1 p2 = some r) : Met l yX11_quiet (Cond.code yX11_quiet cX11_quiet 6 (some .int) :: fp_T) rm_X11_quiet (va_Pc [.ref (B + 0), .int p1, .int p2] (fp_GS D G B M)) (fp_Qi D G B r M) 0 0 (fp_A B) :=
  fp_met (own := RX11) (by decide) rfl (Nat.le_of_ble_eq_true rfl) (fun E hG hl => w_X11_quiet_0 E  hG hl h)
abbrev rm_X11_see : Room := { frames := 1, cells := 0, slots := 0, locals := 22 }
theorem cv_X11_see : fp_CV yX11_see cX11_see 3 (some .int) 2 := ⟨tw_721, tw_1, by decide, by decide +kernel⟩
set_option maxHeartbeats 2000000 in
theorem w_X11_see_0 {p : Program} {l : Launch} {e : Env} {s : State} {m : MethodId} {args : Array Value} {below : List Frame} {meth : Method} {c : Code} {D : va_G} {G : Nat → ClassId} {B : Nat} {p1 : Int32} {p2 : Int32} {r : Int32} {M' : fp_Mem} (E : fp_EV p s m args meth c cX11_see 3 RX11 (some .int) D G) {M : fp_Mem} {H : Heap} {locs : List Loc} {ls : Array Slot} (hG : fp_H D G B s M H locs) (hl : lv_has ls 3 [(0, .ref (B + 0)), (1, .int p1), (2, .int p2)]) (h : m_X11_see M p1 p2 = some (r, M')) : W p l e rm_X11_see s m args below meth c H locs 0 0 (MQ below (fp_Qi D G B r M') args s 0 0 (fp_A B)) (F0 m 0 ls []) := by
  have hx := E.1
  have hb := E.2.1
  have hown := E.2.2.2.1
  unfold m_X11_see at h
  refine lv_aload_n hx hb dX11_see_0 rfl (lv_at hl 0 rfl) ?_
  refine fp_g11_1 E hG tw_314 dX11_see_1 ?_
  refine lv_iload_n hx hb dX11_see_4 rfl (lv_at hl 1 rfl) ?_
  obtain ⟨r_1, c_2, h⟩ := fp_b1_s h
  refine fp_callVi (As := [.int p1]) (rest := []) E hG (c_X7_hasTable l D G B fp_is7_8 c_2) cv_X7_hasTable tw_514 tw_437 tw_438 ⟨rfl, rfl⟩ ⟨Nat.le_of_ble_eq_true rfl, Nat.le_of_ble_eq_true rfl⟩ (fp_recv E hG fp_is7_8.1.1 (fp_o7 fp_is7_8.1 _) rfl) rfl rfl (Nat.le_of_ble_eq_true rfl) hl.1 dX11_see_5 ⟨Nat.zero_le _, Nat.zero_le _⟩ (fun H locs hG => ?_)
  refine lv_if_ne (tgt := 14) hx hb dX11_see_8 (by decide) (fun q => ?_) (fun q => ?_)
  · replace h := fp_ifF q h
    refine lv_aload_n hx hb dX11_see_14 rfl (lv_at hl 0 rfl) ?_
    refine fp_g11_6 E hG tw_319 dX11_see_15 ?_
    refine fp_g8_0 E hG tw_235 dX11_see_18 ?_
    refine lv_bipush (v := (nI 6)) hx hb dX11_see_21 (by decide) ?_
    refine lv_icmp_lt (tgt := 29) hx hb dX11_see_23 (by decide) (fun q => ?_) (fun q => ?_)
    · replace h := fp_ifT q h
      refine lv_aload_n hx hb dX11_see_29 rfl (lv_at hl 0 rfl) ?_
      refine fp_g11_6 E hG tw_319 dX11_see_30 ?_
      refine lv_iload_n hx hb dX11_see_33 rfl (lv_at hl 1 rfl) ?_
      refine lv_iload_n hx hb dX11_see_34 rfl (lv_at hl 2 rfl) ?_
      obtain ⟨M_3, c_4, h⟩ := fp_b1_s h
      refine fp_callVv (As := [.int p1, .int p2]) (rest := []) E hG (c_X8_add l D G B c_4) cv_X8_add tw_722 tw_723 tw_724 ⟨rfl, rfl⟩ ⟨Nat.le_of_ble_eq_true rfl, Nat.le_of_ble_eq_true rfl⟩ (fp_recv E hG (by decide) (fp_o8 _) rfl) rfl rfl (Nat.le_of_ble_eq_true rfl) hl.1 dX11_see_35 ⟨Nat.zero_le _, Nat.zero_le _⟩ (fun H locs hG => ?_)
      refine lv_aload_n hx hb dX11_see_38 rfl (lv_at hl 0 rfl) ?_
      refine fp_g11_6 E hG tw_319 dX11_see_39 ?_
      refine fp_g8_0 E hG tw_235 dX11_see_42 ?_
      exact fp_ireti E hG (fp_pr1 h) (fp_pr2 h) dX11_see_45
    · replace h := fp_ifF q h
      refine lv_ldc (v := (-1000000004 : Int32)) hx hb hown (fp_tabs E tw_356) dX11_see_26 ?_
      exact fp_ireti E hG (fp_pr1 h) (fp_pr2 h) dX11_see_28
  · replace h := fp_ifT q h
    refine lv_ldc (v := (-1000000001 : Int32)) hx hb hown (fp_tabs E tw_515) dX11_see_11 ?_
    exact fp_ireti E hG (fp_pr1 h) (fp_pr2 h) dX11_see_13
theorem c_X11_see (l : Launch) (D : va_G) (G : Nat → ClassId) (B : Nat) {M : fp_Mem}  {p1 : Int32} {p2 : Int32} {r : Int32} {M' : fp_Mem}  (h : m_X11_see M p1 p2 = some (r, M')) : Met l yX11_see (Cond.code yX11_see cX11_see 3 (some .int) :: fp_T) rm_X11_see (va_Pc [.ref (B + 0), .int p1, .int p2] (fp_GS D G B M)) (fp_Qi D G B r M') 0 0 (fp_A B) :=
  fp_met (own := RX11) (by decide) rfl (Nat.le_of_ble_eq_true rfl) (fun E hG hl => w_X11_see_0 E  hG hl h)
abbrev rm_X11_came : Room := { frames := 3, cells := 0, slots := 0, locals := 72 }
theorem cv_X11_came : fp_CV yX11_came cX11_came 1 (some .int) 0 := ⟨tw_729, tw_1, by decide, by decide +kernel⟩
set_option maxHeartbeats 2000000 in
theorem w_X11_came_0 {p : Program} {l : Launch} {e : Env} {s : State} {m : MethodId} {args : Array Value} {below : List Frame} {meth : Method} {c : Code} {D : va_G} {G : Nat → ClassId} {B : Nat} {r : Int32} {M' : fp_Mem} (E : fp_EV p s m args meth c cX11_came 1 RX11 (some .int) D G) {M : fp_Mem} {H : Heap} {locs : List Loc} {ls : Array Slot} (hG : fp_H D G B s M H locs) (hl : lv_has ls 1 [(0, .ref (B + 0))]) (h : m_X11_came M = some (r, M')) : W p l e rm_X11_came s m args below meth c H locs 0 0 (MQ below (fp_Qi D G B r M') args s 0 0 (fp_A B)) (F0 m 0 ls []) := by
  have hx := E.1
  have hb := E.2.1
  have hown := E.2.2.2.1
  unfold m_X11_came at h
  refine lv_aload_n hx hb dX11_came_0 rfl (lv_at hl 0 rfl) ?_
  refine fp_g11_3 E hG tw_316 dX11_came_1 ?_
  refine lv_aload_n hx hb dX11_came_4 rfl (lv_at hl 0 rfl) ?_
  refine fp_g11_1 E hG tw_314 dX11_came_5 ?_
  refine lv_aload_n hx hb dX11_came_8 rfl (lv_at hl 0 rfl) ?_
  refine fp_g11_2 E hG tw_315 dX11_came_9 ?_
  obtain ⟨M_1, c_2, h⟩ := fp_b1_s h
  refine fp_callVv (As := [.ref (B + 8), .ref (B + 13)]) (rest := []) E hG (c_X2_measure l D G B fp_is2_16 fp_is7_8 fp_is9_13 c_2) cv_X2_measure tw_480 tw_481 tw_482 ⟨rfl, rfl⟩ ⟨Nat.le_of_ble_eq_true rfl, Nat.le_of_ble_eq_true rfl⟩ (fp_recv E hG fp_is2_16.1.1 (fp_o2 fp_is2_16.1 _) rfl) rfl rfl (Nat.le_of_ble_eq_true rfl) hl.1 dX11_came_12 ⟨Nat.zero_le _, Nat.zero_le _⟩ (fun H locs hG => ?_)
  refine lv_aload_n hx hb dX11_came_15 rfl (lv_at hl 0 rfl) ?_
  refine fp_g11_6 E hG tw_319 dX11_came_16 ?_
  refine lv_aload_n hx hb dX11_came_19 rfl (lv_at hl 0 rfl) ?_
  refine fp_g11_3 E hG tw_316 dX11_came_20 ?_
  obtain ⟨r_3, c_4, h⟩ := fp_b1_s h
  refine fp_callVi (As := [.ref (B + 16)]) (rest := []) E hG (c_X8_fitting l D G B fp_is2_16 c_4) cv_X8_fitting tw_730 tw_731 tw_732 ⟨rfl, rfl⟩ ⟨Nat.le_of_ble_eq_true rfl, Nat.le_of_ble_eq_true rfl⟩ (fp_recv E hG (by decide) (fp_o8 _) rfl) rfl rfl (Nat.le_of_ble_eq_true rfl) hl.1 dX11_came_23 ⟨Nat.zero_le _, Nat.zero_le _⟩ (fun H locs hG => ?_)
  exact fp_ireti E hG (fp_pr1 h) (fp_pr2 h) dX11_came_26
theorem c_X11_came (l : Launch) (D : va_G) (G : Nat → ClassId) (B : Nat) {M : fp_Mem}   {r : Int32} {M' : fp_Mem}  (h : m_X11_came M = some (r, M')) : Met l yX11_came (Cond.code yX11_came cX11_came 1 (some .int) :: fp_T) rm_X11_came (va_Pc [.ref (B + 0)] (fp_GS D G B M)) (fp_Qi D G B r M') 0 0 (fp_A B) :=
  fp_met (own := RX11) (by decide) rfl (Nat.le_of_ble_eq_true rfl) (fun E hG hl => w_X11_came_0 E  hG hl h)
abbrev rm_X11_look : Room := { frames := 3, cells := 0, slots := 0, locals := 72 }
theorem cv_X11_look : fp_CV yX11_look cX11_look 1 (some .int) 0 := ⟨tw_742, tw_1, by decide, by decide +kernel⟩
set_option maxHeartbeats 2000000 in
theorem w_X11_look_0 {p : Program} {l : Launch} {e : Env} {s : State} {m : MethodId} {args : Array Value} {below : List Frame} {meth : Method} {c : Code} {D : va_G} {G : Nat → ClassId} {B : Nat} {r : Int32} {M' : fp_Mem} (E : fp_EV p s m args meth c cX11_look 1 RX11 (some .int) D G) {M : fp_Mem} {H : Heap} {locs : List Loc} {ls : Array Slot} (hG : fp_H D G B s M H locs) (hl : lv_has ls 1 [(0, .ref (B + 0))]) (h : m_X11_look M = some (r, M')) : W p l e rm_X11_look s m args below meth c H locs 0 0 (MQ below (fp_Qi D G B r M') args s 0 0 (fp_A B)) (F0 m 0 ls []) := by
  have hx := E.1
  have hb := E.2.1
  have hown := E.2.2.2.1
  unfold m_X11_look at h
  refine lv_aload_n hx hb dX11_look_0 rfl (lv_at hl 0 rfl) ?_
  refine fp_g11_3 E hG tw_316 dX11_look_1 ?_
  refine lv_aload_n hx hb dX11_look_4 rfl (lv_at hl 0 rfl) ?_
  refine fp_g11_1 E hG tw_314 dX11_look_5 ?_
  refine lv_aload_n hx hb dX11_look_8 rfl (lv_at hl 0 rfl) ?_
  refine fp_g11_2 E hG tw_315 dX11_look_9 ?_
  obtain ⟨M_1, c_2, h⟩ := fp_b1_s h
  refine fp_callVv (As := [.ref (B + 8), .ref (B + 13)]) (rest := []) E hG (c_X2_measure l D G B fp_is2_16 fp_is7_8 fp_is9_13 c_2) cv_X2_measure tw_480 tw_481 tw_482 ⟨rfl, rfl⟩ ⟨Nat.le_of_ble_eq_true rfl, Nat.le_of_ble_eq_true rfl⟩ (fp_recv E hG fp_is2_16.1.1 (fp_o2 fp_is2_16.1 _) rfl) rfl rfl (Nat.le_of_ble_eq_true rfl) hl.1 dX11_look_12 ⟨Nat.zero_le _, Nat.zero_le _⟩ (fun H locs hG => ?_)
  refine lv_aload_n hx hb dX11_look_15 rfl (lv_at hl 0 rfl) ?_
  refine fp_g11_6 E hG tw_319 dX11_look_16 ?_
  refine lv_aload_n hx hb dX11_look_19 rfl (lv_at hl 0 rfl) ?_
  refine fp_g11_3 E hG tw_316 dX11_look_20 ?_
  obtain ⟨r_3, c_4, h⟩ := fp_b1_s h
  refine fp_callVi (As := [.ref (B + 16)]) (rest := []) E hG (c_X8_best l D G B fp_is2_16 c_4) cv_X8_best tw_743 tw_744 tw_745 ⟨rfl, rfl⟩ ⟨Nat.le_of_ble_eq_true rfl, Nat.le_of_ble_eq_true rfl⟩ (fp_recv E hG (by decide) (fp_o8 _) rfl) rfl rfl (Nat.le_of_ble_eq_true rfl) hl.1 dX11_look_23 ⟨Nat.zero_le _, Nat.zero_le _⟩ (fun H locs hG => ?_)
  exact fp_ireti E hG (fp_pr1 h) (fp_pr2 h) dX11_look_26
theorem c_X11_look (l : Launch) (D : va_G) (G : Nat → ClassId) (B : Nat) {M : fp_Mem}   {r : Int32} {M' : fp_Mem}  (h : m_X11_look M = some (r, M')) : Met l yX11_look (Cond.code yX11_look cX11_look 1 (some .int) :: fp_T) rm_X11_look (va_Pc [.ref (B + 0)] (fp_GS D G B M)) (fp_Qi D G B r M') 0 0 (fp_A B) :=
  fp_met (own := RX11) (by decide) rfl (Nat.le_of_ble_eq_true rfl) (fun E hG hl => w_X11_look_0 E  hG hl h)
abbrev rm_X11_write : Room := { frames := 1, cells := 0, slots := 0, locals := 22 }
theorem cv_X11_write : fp_CV yX11_write cX11_write 3 (some .int) 2 := ⟨tw_756, tw_1, by decide, by decide +kernel⟩
set_option maxHeartbeats 2000000 in
theorem w_X11_write_24 {p : Program} {l : Launch} {e : Env} {s : State} {m : MethodId} {args : Array Value} {below : List Frame} {meth : Method} {c : Code} {D : va_G} {G : Nat → ClassId} {B : Nat} {p1 : Int32} {p2 : Int32} {r : Int32} {M' : fp_Mem} (E : fp_EV p s m args meth c cX11_write 3 RX11 (some .int) D G) (M : fp_Mem) {H : Heap} {locs : List Loc} {ls : Array Slot} (hG : fp_H D G B s M H locs) (hl : lv_has ls 3 []) (h : m_X11_write_24 p1 p2 M = some (r, M')) : W p l e rm_X11_write s m args below meth c H locs 0 0 (MQ below (fp_Qi D G B r M') args s 0 0 (fp_A B)) (F0 m 24 ls []) := by
  have hx := E.1
  have hb := E.2.1
  have hown := E.2.2.2.1
  unfold m_X11_write_24 at h
  refine lv_ldc (v := (-1000000002 : Int32)) hx hb hown (fp_tabs E tw_351) dX11_write_24 ?_
  exact fp_ireti E hG (fp_pr1 h) (fp_pr2 h) dX11_write_26
set_option maxHeartbeats 2000000 in
theorem w_X11_write_0 {p : Program} {l : Launch} {e : Env} {s : State} {m : MethodId} {args : Array Value} {below : List Frame} {meth : Method} {c : Code} {D : va_G} {G : Nat → ClassId} {B : Nat} {p1 : Int32} {p2 : Int32} {r : Int32} {M' : fp_Mem} (E : fp_EV p s m args meth c cX11_write 3 RX11 (some .int) D G) {M : fp_Mem} {H : Heap} {locs : List Loc} {ls : Array Slot} (hG : fp_H D G B s M H locs) (hl : lv_has ls 3 [(0, .ref (B + 0)), (1, .int p1), (2, .int p2)]) (h : m_X11_write M p1 p2 = some (r, M')) : W p l e rm_X11_write s m args below meth c H locs 0 0 (MQ below (fp_Qi D G B r M') args s 0 0 (fp_A B)) (F0 m 0 ls []) := by
  have hx := E.1
  have hb := E.2.1
  have hown := E.2.2.2.1
  unfold m_X11_write at h
  refine lv_aload_n hx hb dX11_write_0 rfl (lv_at hl 0 rfl) ?_
  refine fp_g11_1 E hG tw_314 dX11_write_1 ?_
  refine lv_iload_n hx hb dX11_write_4 rfl (lv_at hl 1 rfl) ?_
  obtain ⟨r_1, c_2, h⟩ := fp_b1_s h
  refine fp_callVi (As := [.int p1]) (rest := []) E hG (c_X7_hasTable l D G B fp_is7_8 c_2) cv_X7_hasTable tw_514 tw_437 tw_438 ⟨rfl, rfl⟩ ⟨Nat.le_of_ble_eq_true rfl, Nat.le_of_ble_eq_true rfl⟩ (fp_recv E hG fp_is7_8.1.1 (fp_o7 fp_is7_8.1 _) rfl) rfl rfl (Nat.le_of_ble_eq_true rfl) hl.1 dX11_write_5 ⟨Nat.zero_le _, Nat.zero_le _⟩ (fun H locs hG => ?_)
  refine lv_if_ne (tgt := 14) hx hb dX11_write_8 (by decide) (fun q => ?_) (fun q => ?_)
  · replace h := fp_ifF q h
    refine lv_iload_n hx hb dX11_write_14 rfl (lv_at hl 2 rfl) ?_
    refine lv_if_lt (tgt := 24) hx hb dX11_write_15 (by decide) (fun q => ?_) (fun q => ?_)
    · replace h := fp_ifT q h
      exact w_X11_write_24 E   _ hG (lv_sub hl [] rfl) h
    · replace h := fp_ifF q h
      refine lv_iload_n hx hb dX11_write_18 rfl (lv_at hl 2 rfl) ?_
      refine lv_bipush (v := (nI 20)) hx hb dX11_write_19 (by decide) ?_
      refine lv_icmp_le (tgt := 27) hx hb dX11_write_21 (by decide) (fun q => ?_) (fun q => ?_)
      · replace h := fp_ifT q h
        refine lv_aload_n hx hb dX11_write_27 rfl (lv_at hl 0 rfl) ?_
        refine fp_g11_7 E hG tw_320 dX11_write_28 ?_
        refine lv_iload_n hx hb dX11_write_31 rfl (lv_at hl 1 rfl) ?_
        refine lv_iload_n hx hb dX11_write_32 rfl (lv_at hl 2 rfl) ?_
        obtain ⟨r_3, M_4, c_5, h⟩ := fp_b2_s h
        refine fp_callVi (As := [.int p1, .int p2]) (rest := []) E hG (c_X1_add l D G B c_5) cv_X1_add tw_757 tw_758 tw_759 ⟨rfl, rfl⟩ ⟨Nat.le_of_ble_eq_true rfl, Nat.le_of_ble_eq_true rfl⟩ (fp_recv E hG (by decide) (fp_o1 _) rfl) rfl rfl (Nat.le_of_ble_eq_true rfl) hl.1 dX11_write_33 ⟨Nat.zero_le _, Nat.zero_le _⟩ (fun H locs hG => ?_)
        refine lv_if_ne (tgt := 42) hx hb dX11_write_36 (by decide) (fun q => ?_) (fun q => ?_)
        · replace h := fp_ifF q h
          refine lv_aload_n hx hb dX11_write_42 rfl (lv_at hl 0 rfl) ?_
          refine fp_g11_7 E hG tw_320 dX11_write_43 ?_
          refine fp_g1_0 E hG tw_252 dX11_write_46 ?_
          exact fp_ireti E hG (fp_pr1 h) (fp_pr2 h) dX11_write_49
        · replace h := fp_ifT q h
          refine lv_ldc (v := (-1000000004 : Int32)) hx hb hown (fp_tabs E tw_356) dX11_write_39 ?_
          exact fp_ireti E hG (fp_pr1 h) (fp_pr2 h) dX11_write_41
      · replace h := fp_ifF q h
        exact w_X11_write_24 E   _ hG (lv_sub hl [] rfl) h
  · replace h := fp_ifT q h
    refine lv_ldc (v := (-1000000001 : Int32)) hx hb hown (fp_tabs E tw_515) dX11_write_11 ?_
    exact fp_ireti E hG (fp_pr1 h) (fp_pr2 h) dX11_write_13
theorem c_X11_write (l : Launch) (D : va_G) (G : Nat → ClassId) (B : Nat) {M : fp_Mem}  {p1 : Int32} {p2 : Int32} {r : Int32} {M' : fp_Mem}  (h : m_X11_write M p1 p2 = some (r, M')) : Met l yX11_write (Cond.code yX11_write cX11_write 3 (some .int) :: fp_T) rm_X11_write (va_Pc [.ref (B + 0), .int p1, .int p2] (fp_GS D G B M)) (fp_Qi D G B r M') 0 0 (fp_A B) :=
  fp_met (own := RX11) (by decide) rfl (Nat.le_of_ble_eq_true rfl) (fun E hG hl => w_X11_write_0 E  hG hl h)
abbrev rm_X11_tear : Room := { frames := 1, cells := 0, slots := 0, locals := 20 }
theorem cv_X11_tear : fp_CV yX11_tear cX11_tear 2 (some .int) 0 := ⟨tw_764, tw_1, by decide, by decide +kernel⟩
set_option maxHeartbeats 2000000 in
theorem w_X11_tear_0 {p : Program} {l : Launch} {e : Env} {s : State} {m : MethodId} {args : Array Value} {below : List Frame} {meth : Method} {c : Code} {D : va_G} {G : Nat → ClassId} {B : Nat} {r : Int32} {M' : fp_Mem} (E : fp_EV p s m args meth c cX11_tear 2 RX11 (some .int) D G) {M : fp_Mem} {H : Heap} {locs : List Loc} {ls : Array Slot} (hG : fp_H D G B s M H locs) (hl : lv_has ls 2 [(0, .ref (B + 0))]) (h : m_X11_tear M = some (r, M')) : W p l e rm_X11_tear s m args below meth c H locs 0 0 (MQ below (fp_Qi D G B r M') args s 0 0 (fp_A B)) (F0 m 0 ls []) := by
  have hx := E.1
  have hb := E.2.1
  have hown := E.2.2.2.1
  unfold m_X11_tear at h
  refine lv_aload_n hx hb dX11_tear_0 rfl (lv_at hl 0 rfl) ?_
  refine fp_g11_6 E hG tw_319 dX11_tear_1 ?_
  refine fp_g8_0 E hG tw_235 dX11_tear_4 ?_
  refine lv_aload_n hx hb dX11_tear_7 rfl (lv_at hl 0 rfl) ?_
  refine fp_g11_7 E hG tw_320 dX11_tear_8 ?_
  refine fp_g1_0 E hG tw_252 dX11_tear_11 ?_
  refine lv_iadd hx hb dX11_tear_14 ?_
  obtain ⟨x_1, ex_1, h⟩ := fp_lt_s h
  refine fp_top ex_1 ?_
  refine lv_istore_n (lv' := [(1, .int x_1), (0, .ref (B + 0))]) hx hb dX11_tear_15 rfl hl (by decide) rfl (fun ls hl => ?_)
  refine lv_aload_n hx hb dX11_tear_16 rfl (lv_at hl 1 rfl) ?_
  refine fp_g11_6 E hG tw_319 dX11_tear_17 ?_
  obtain ⟨M_2, c_3, h⟩ := fp_b1_s h
  refine fp_callVv (As := []) (rest := []) E hG (c_X8_forget l D G B c_3) cv_X8_forget tw_440 tw_441 tw_442 ⟨rfl, rfl⟩ ⟨Nat.le_of_ble_eq_true rfl, Nat.le_of_ble_eq_true rfl⟩ (fp_recv E hG (by decide) (fp_o8 _) rfl) rfl rfl (Nat.le_of_ble_eq_true rfl) hl.1 dX11_tear_20 ⟨Nat.zero_le _, Nat.zero_le _⟩ (fun H locs hG => ?_)
  refine lv_aload_n hx hb dX11_tear_23 rfl (lv_at hl 1 rfl) ?_
  refine fp_g11_7 E hG tw_320 dX11_tear_24 ?_
  obtain ⟨M_4, c_5, h⟩ := fp_b1_s h
  refine fp_callVv (As := []) (rest := []) E hG (c_X1_forget l D G B c_5) cv_X1_forget tw_444 tw_445 tw_446 ⟨rfl, rfl⟩ ⟨Nat.le_of_ble_eq_true rfl, Nat.le_of_ble_eq_true rfl⟩ (fp_recv E hG (by decide) (fp_o1 _) rfl) rfl rfl (Nat.le_of_ble_eq_true rfl) hl.1 dX11_tear_27 ⟨Nat.zero_le _, Nat.zero_le _⟩ (fun H locs hG => ?_)
  refine lv_iload_n hx hb dX11_tear_30 rfl (lv_at hl 0 rfl) ?_
  exact fp_ireti E hG (fp_pr1 h) (fp_pr2 h) dX11_tear_31
theorem c_X11_tear (l : Launch) (D : va_G) (G : Nat → ClassId) (B : Nat) {M : fp_Mem}   {r : Int32} {M' : fp_Mem}  (h : m_X11_tear M = some (r, M')) : Met l yX11_tear (Cond.code yX11_tear cX11_tear 2 (some .int) :: fp_T) rm_X11_tear (va_Pc [.ref (B + 0)] (fp_GS D G B M)) (fp_Qi D G B r M') 0 0 (fp_A B) :=
  fp_met (own := RX11) (by decide) rfl (Nat.le_of_ble_eq_true rfl) (fun E hG hl => w_X11_tear_0 E  hG hl h)
abbrev rm_X11_judge : Room := { frames := 1, cells := 0, slots := 0, locals := 23 }
theorem cv_X11_judge : fp_CV yX11_judge cX11_judge 1 (some .int) 0 := ⟨tw_768, tw_1, by decide, by decide +kernel⟩
set_option maxHeartbeats 2000000 in
theorem w_X11_judge_0 {p : Program} {l : Launch} {e : Env} {s : State} {m : MethodId} {args : Array Value} {below : List Frame} {meth : Method} {c : Code} {D : va_G} {G : Nat → ClassId} {B : Nat} {M : fp_Mem} {r : Int32} (E : fp_EV p s m args meth c cX11_judge 1 RX11 (some .int) D G) {H : Heap} {locs : List Loc} {ls : Array Slot} (hG : fp_H D G B s M H locs) (hl : lv_has ls 1 [(0, .ref (B + 0))]) (h : m_X11_judge M = some r) : W p l e rm_X11_judge s m args below meth c H locs 0 0 (MQ below (fp_Qi D G B r M) args s 0 0 (fp_A B)) (F0 m 0 ls []) := by
  have hx := E.1
  have hb := E.2.1
  have hown := E.2.2.2.1
  unfold m_X11_judge at h
  refine lv_aload_n hx hb dX11_judge_0 rfl (lv_at hl 0 rfl) ?_
  refine fp_g11_7 E hG tw_320 dX11_judge_1 ?_
  refine lv_aload_n hx hb dX11_judge_4 rfl (lv_at hl 0 rfl) ?_
  refine fp_g11_2 E hG tw_315 dX11_judge_5 ?_
  obtain ⟨r_1, c_2, h⟩ := fp_b1_s h
  refine fp_callVi (As := [.ref (B + 13)]) (rest := []) E hG (c_X1_firstWrong l D G B fp_is9_13 c_2) cv_X1_firstWrong tw_769 tw_770 tw_771 ⟨rfl, rfl⟩ ⟨Nat.le_of_ble_eq_true rfl, Nat.le_of_ble_eq_true rfl⟩ (fp_recv E hG (by decide) (fp_o1 _) rfl) rfl rfl (Nat.le_of_ble_eq_true rfl) hl.1 dX11_judge_8 ⟨Nat.zero_le _, Nat.zero_le _⟩ (fun H locs hG => ?_)
  exact fp_ireti E hG (Option.some.inj h) rfl dX11_judge_11
theorem c_X11_judge (l : Launch) (D : va_G) (G : Nat → ClassId) (B : Nat) {M : fp_Mem}   {r : Int32}  (h : m_X11_judge M = some r) : Met l yX11_judge (Cond.code yX11_judge cX11_judge 1 (some .int) :: fp_T) rm_X11_judge (va_Pc [.ref (B + 0)] (fp_GS D G B M)) (fp_Qi D G B r M) 0 0 (fp_A B) :=
  fp_met (own := RX11) (by decide) rfl (Nat.le_of_ble_eq_true rfl) (fun E hG hl => w_X11_judge_0 E  hG hl h)
abbrev rm_X11_seed : Room := { frames := 0, cells := 0, slots := 0, locals := 0 }
theorem cv_X11_seed : fp_CV yX11_seed cX11_seed 3 (some .int) 1 := ⟨tw_776, tw_1, by decide, by decide +kernel⟩
set_option maxHeartbeats 2000000 in
theorem w_X11_seed_0 {p : Program} {l : Launch} {e : Env} {s : State} {m : MethodId} {args : Array Value} {below : List Frame} {meth : Method} {c : Code} {D : va_G} {G : Nat → ClassId} {B : Nat} {p1 : Int32} {r : Int32} {M' : fp_Mem} (E : fp_EV p s m args meth c cX11_seed 3 RX11 (some .int) D G) {M : fp_Mem} {H : Heap} {locs : List Loc} {ls : Array Slot} (hG : fp_H D G B s M H locs) (hl : lv_has ls 3 [(0, .ref (B + 0)), (1, .int p1)]) (h : m_X11_seed M p1 = some (r, M')) : W p l e rm_X11_seed s m args below meth c H locs 0 0 (MQ below (fp_Qi D G B r M') args s 0 0 (fp_A B)) (F0 m 0 ls []) := by
  have hx := E.1
  have hb := E.2.1
  have hown := E.2.2.2.1
  unfold m_X11_seed at h
  refine lv_iload_n hx hb dX11_seed_0 rfl (lv_at hl 1 rfl) ?_
  refine lv_if_ge (tgt := 7) hx hb dX11_seed_1 (by decide) (fun q => ?_) (fun q => ?_)
  · replace h := fp_ifT q h
    refine lv_aload_n hx hb dX11_seed_7 rfl (lv_at hl 0 rfl) ?_
    refine fp_g11_8 E hG tw_321 dX11_seed_8 ?_
    refine fp_g3_0 E hG tw_270 dX11_seed_11 ?_
    obtain ⟨x_1, ex_1, h⟩ := fp_lt_s h
    refine fp_top ex_1 ?_
    refine lv_istore_n (lv' := [(2, .int x_1), (0, .ref (B + 0)), (1, .int p1)]) hx hb dX11_seed_14 rfl hl (by decide) rfl (fun ls hl => ?_)
    refine lv_aload_n hx hb dX11_seed_15 rfl (lv_at hl 1 rfl) ?_
    refine fp_g11_8 E hG tw_321 dX11_seed_16 ?_
    refine lv_iload_n hx hb dX11_seed_19 rfl (lv_at hl 2 rfl) ?_
    obtain ⟨M_2, eM_2, h⟩ := fp_lt_s h
    refine fp_p3_0 E hG tw_270 dX11_seed_20 (fun H locs hG => ?_)
    replace hG := fp_memH eM_2 hG
    refine lv_iload_n hx hb dX11_seed_23 rfl (lv_at hl 0 rfl) ?_
    exact fp_ireti E hG (fp_pr1 h) (fp_pr2 h) dX11_seed_24
  · replace h := fp_ifF q h
    refine lv_ldc (v := (-1000000002 : Int32)) hx hb hown (fp_tabs E tw_351) dX11_seed_4 ?_
    exact fp_ireti E hG (fp_pr1 h) (fp_pr2 h) dX11_seed_6
theorem c_X11_seed (l : Launch) (D : va_G) (G : Nat → ClassId) (B : Nat) {M : fp_Mem}  {p1 : Int32} {r : Int32} {M' : fp_Mem}  (h : m_X11_seed M p1 = some (r, M')) : Met l yX11_seed (Cond.code yX11_seed cX11_seed 3 (some .int) :: fp_T) rm_X11_seed (va_Pc [.ref (B + 0), .int p1] (fp_GS D G B M)) (fp_Qi D G B r M') 0 0 (fp_A B) :=
  fp_met (own := RX11) (by decide) rfl (Nat.le_of_ble_eq_true rfl) (fun E hG hl => w_X11_seed_0 E  hG hl h)
abbrev rm_X11_keep : Room := { frames := 2, cells := 0, slots := 0, locals := 45 }
theorem cv_X11_keep : fp_CV yX11_keep cX11_keep 2 (some .int) 1 := ⟨tw_780, tw_1, by decide, by decide +kernel⟩
set_option maxHeartbeats 2000000 in
theorem w_X11_keep_0 {p : Program} {l : Launch} {e : Env} {s : State} {m : MethodId} {args : Array Value} {below : List Frame} {meth : Method} {c : Code} {D : va_G} {G : Nat → ClassId} {B : Nat} {p1 : Int32} {r : Int32} {M' : fp_Mem} (E : fp_EV p s m args meth c cX11_keep 2 RX11 (some .int) D G) {M : fp_Mem} {H : Heap} {locs : List Loc} {ls : Array Slot} (hG : fp_H D G B s M H locs) (hl : lv_has ls 2 [(0, .ref (B + 0)), (1, .int p1)]) (h : m_X11_keep M p1 = some (r, M')) : W p l e rm_X11_keep s m args below meth c H locs 0 0 (MQ below (fp_Qi D G B r M') args s 0 0 (fp_A B)) (F0 m 0 ls []) := by
  have hx := E.1
  have hb := E.2.1
  have hown := E.2.2.2.1
  unfold m_X11_keep at h
  refine lv_aload_n hx hb dX11_keep_0 rfl (lv_at hl 0 rfl) ?_
  refine fp_g11_10 E hG tw_323 dX11_keep_1 ?_
  refine lv_iload_n hx hb dX11_keep_4 rfl (lv_at hl 1 rfl) ?_
  obtain ⟨r_1, c_2, h⟩ := fp_b1_s h
  refine fp_callVi (As := [.int p1]) (rest := []) E hG (c_X5_has l D G B c_2) cv_X5_has tw_781 tw_782 tw_783 ⟨rfl, rfl⟩ ⟨Nat.le_of_ble_eq_true rfl, Nat.le_of_ble_eq_true rfl⟩ (fp_recv E hG (by decide) (fp_o5 _) rfl) rfl rfl (Nat.le_of_ble_eq_true rfl) hl.1 dX11_keep_5 ⟨Nat.zero_le _, Nat.zero_le _⟩ (fun H locs hG => ?_)
  refine lv_if_ne (tgt := 14) hx hb dX11_keep_8 (by decide) (fun q => ?_) (fun q => ?_)
  · replace h := fp_ifF q h
    refine lv_aload_n hx hb dX11_keep_14 rfl (lv_at hl 0 rfl) ?_
    refine fp_g11_10 E hG tw_323 dX11_keep_15 ?_
    refine lv_iload_n hx hb dX11_keep_18 rfl (lv_at hl 1 rfl) ?_
    refine lv_aload_n hx hb dX11_keep_19 rfl (lv_at hl 0 rfl) ?_
    refine fp_g11_2 E hG tw_315 dX11_keep_20 ?_
    refine lv_aload_n hx hb dX11_keep_23 rfl (lv_at hl 0 rfl) ?_
    refine fp_g11_8 E hG tw_321 dX11_keep_24 ?_
    obtain ⟨M_3, c_4, h⟩ := fp_b1_s h
    refine fp_callVv (As := [.int p1, .ref (B + 13), .ref (B + 47)]) (rest := []) E hG (c_X5_take l D G B fp_is9_13 c_4) cv_X5_take tw_785 tw_786 tw_787 ⟨rfl, rfl⟩ ⟨Nat.le_of_ble_eq_true rfl, Nat.le_of_ble_eq_true rfl⟩ (fp_recv E hG (by decide) (fp_o5 _) rfl) rfl rfl (Nat.le_of_ble_eq_true rfl) hl.1 dX11_keep_27 ⟨Nat.zero_le _, Nat.zero_le _⟩ (fun H locs hG => ?_)
    refine lv_aload_n hx hb dX11_keep_30 rfl (lv_at hl 0 rfl) ?_
    refine fp_g11_9 E hG tw_322 dX11_keep_31 ?_
    obtain ⟨M_5, c_6, h⟩ := fp_b1_s h
    refine fp_callVv (As := []) (rest := []) E hG (c_X4_forget l D G B c_6) cv_X4_forget tw_448 tw_449 tw_450 ⟨rfl, rfl⟩ ⟨Nat.le_of_ble_eq_true rfl, Nat.le_of_ble_eq_true rfl⟩ (fp_recv E hG (by decide) (fp_o4 _) rfl) rfl rfl (Nat.le_of_ble_eq_true rfl) hl.1 dX11_keep_34 ⟨Nat.zero_le _, Nat.zero_le _⟩ (fun H locs hG => ?_)
    refine lv_iconst (v := (nI 1)) hx hb dX11_keep_37 (by decide) ?_
    exact fp_ireti E hG (fp_pr1 h) (fp_pr2 h) dX11_keep_38
  · replace h := fp_ifT q h
    refine lv_ldc (v := (-1000000001 : Int32)) hx hb hown (fp_tabs E tw_515) dX11_keep_11 ?_
    exact fp_ireti E hG (fp_pr1 h) (fp_pr2 h) dX11_keep_13
theorem c_X11_keep (l : Launch) (D : va_G) (G : Nat → ClassId) (B : Nat) {M : fp_Mem}  {p1 : Int32} {r : Int32} {M' : fp_Mem}  (h : m_X11_keep M p1 = some (r, M')) : Met l yX11_keep (Cond.code yX11_keep cX11_keep 2 (some .int) :: fp_T) rm_X11_keep (va_Pc [.ref (B + 0), .int p1] (fp_GS D G B M)) (fp_Qi D G B r M') 0 0 (fp_A B) :=
  fp_met (own := RX11) (by decide) rfl (Nat.le_of_ble_eq_true rfl) (fun E hG hl => w_X11_keep_0 E  hG hl h)
abbrev rm_X11_goBack : Room := { frames := 2, cells := 0, slots := 0, locals := 45 }
theorem cv_X11_goBack : fp_CV yX11_goBack cX11_goBack 2 (some .int) 1 := ⟨tw_794, tw_1, by decide, by decide +kernel⟩
set_option maxHeartbeats 2000000 in
theorem w_X11_goBack_0 {p : Program} {l : Launch} {e : Env} {s : State} {m : MethodId} {args : Array Value} {below : List Frame} {meth : Method} {c : Code} {D : va_G} {G : Nat → ClassId} {B : Nat} {p1 : Int32} {r : Int32} {M' : fp_Mem} (E : fp_EV p s m args meth c cX11_goBack 2 RX11 (some .int) D G) {M : fp_Mem} {H : Heap} {locs : List Loc} {ls : Array Slot} (hG : fp_H D G B s M H locs) (hl : lv_has ls 2 [(0, .ref (B + 0)), (1, .int p1)]) (h : m_X11_goBack M p1 = some (r, M')) : W p l e rm_X11_goBack s m args below meth c H locs 0 0 (MQ below (fp_Qi D G B r M') args s 0 0 (fp_A B)) (F0 m 0 ls []) := by
  have hx := E.1
  have hb := E.2.1
  have hown := E.2.2.2.1
  unfold m_X11_goBack at h
  refine lv_aload_n hx hb dX11_goBack_0 rfl (lv_at hl 0 rfl) ?_
  refine fp_g11_10 E hG tw_323 dX11_goBack_1 ?_
  refine lv_iload_n hx hb dX11_goBack_4 rfl (lv_at hl 1 rfl) ?_
  obtain ⟨r_1, c_2, h⟩ := fp_b1_s h
  refine fp_callVi (As := [.int p1]) (rest := []) E hG (c_X5_has l D G B c_2) cv_X5_has tw_781 tw_782 tw_783 ⟨rfl, rfl⟩ ⟨Nat.le_of_ble_eq_true rfl, Nat.le_of_ble_eq_true rfl⟩ (fp_recv E hG (by decide) (fp_o5 _) rfl) rfl rfl (Nat.le_of_ble_eq_true rfl) hl.1 dX11_goBack_5 ⟨Nat.zero_le _, Nat.zero_le _⟩ (fun H locs hG => ?_)
  refine lv_if_ne (tgt := 14) hx hb dX11_goBack_8 (by decide) (fun q => ?_) (fun q => ?_)
  · replace h := fp_ifF q h
    refine lv_aload_n hx hb dX11_goBack_14 rfl (lv_at hl 0 rfl) ?_
    refine fp_g11_10 E hG tw_323 dX11_goBack_15 ?_
    refine lv_iload_n hx hb dX11_goBack_18 rfl (lv_at hl 1 rfl) ?_
    refine lv_aload_n hx hb dX11_goBack_19 rfl (lv_at hl 0 rfl) ?_
    refine fp_g11_2 E hG tw_315 dX11_goBack_20 ?_
    refine lv_aload_n hx hb dX11_goBack_23 rfl (lv_at hl 0 rfl) ?_
    refine fp_g11_8 E hG tw_321 dX11_goBack_24 ?_
    obtain ⟨r_3, M_4, c_5, h⟩ := fp_b2_s h
    refine fp_callVi (As := [.int p1, .ref (B + 13), .ref (B + 47)]) (rest := []) E hG (c_X5_give l D G B fp_is9_13 c_5) cv_X5_give tw_795 tw_796 tw_797 ⟨rfl, rfl⟩ ⟨Nat.le_of_ble_eq_true rfl, Nat.le_of_ble_eq_true rfl⟩ (fp_recv E hG (by decide) (fp_o5 _) rfl) rfl rfl (Nat.le_of_ble_eq_true rfl) hl.1 dX11_goBack_27 ⟨Nat.zero_le _, Nat.zero_le _⟩ (fun H locs hG => ?_)
    refine lv_if_ne (tgt := 36) hx hb dX11_goBack_30 (by decide) (fun q => ?_) (fun q => ?_)
    · replace h := fp_ifF q h
      refine lv_aload_n hx hb dX11_goBack_36 rfl (lv_at hl 0 rfl) ?_
      refine fp_g11_9 E hG tw_322 dX11_goBack_37 ?_
      obtain ⟨M_6, c_7, h⟩ := fp_b1_s h
      refine fp_callVv (As := []) (rest := []) E hG (c_X4_forget l D G B c_7) cv_X4_forget tw_448 tw_449 tw_450 ⟨rfl, rfl⟩ ⟨Nat.le_of_ble_eq_true rfl, Nat.le_of_ble_eq_true rfl⟩ (fp_recv E hG (by decide) (fp_o4 _) rfl) rfl rfl (Nat.le_of_ble_eq_true rfl) hl.1 dX11_goBack_40 ⟨Nat.zero_le _, Nat.zero_le _⟩ (fun H locs hG => ?_)
      refine lv_iconst (v := (nI 1)) hx hb dX11_goBack_43 (by decide) ?_
      exact fp_ireti E hG (fp_pr1 h) (fp_pr2 h) dX11_goBack_44
    · replace h := fp_ifT q h
      refine lv_ldc (v := (-1000000003 : Int32)) hx hb hown (fp_tabs E tw_576) dX11_goBack_33 ?_
      exact fp_ireti E hG (fp_pr1 h) (fp_pr2 h) dX11_goBack_35
  · replace h := fp_ifT q h
    refine lv_ldc (v := (-1000000001 : Int32)) hx hb hown (fp_tabs E tw_515) dX11_goBack_11 ?_
    exact fp_ireti E hG (fp_pr1 h) (fp_pr2 h) dX11_goBack_13
theorem c_X11_goBack (l : Launch) (D : va_G) (G : Nat → ClassId) (B : Nat) {M : fp_Mem}  {p1 : Int32} {r : Int32} {M' : fp_Mem}  (h : m_X11_goBack M p1 = some (r, M')) : Met l yX11_goBack (Cond.code yX11_goBack cX11_goBack 2 (some .int) :: fp_T) rm_X11_goBack (va_Pc [.ref (B + 0), .int p1] (fp_GS D G B M)) (fp_Qi D G B r M') 0 0 (fp_A B) :=
  fp_met (own := RX11) (by decide) rfl (Nat.le_of_ble_eq_true rfl) (fun E hG hl => w_X11_goBack_0 E  hG hl h)

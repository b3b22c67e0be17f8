abbrev rm_X12_in : Room := { frames := 0, cells := 0, slots := 0, locals := 0 }
theorem cv_X12_in : fp_CV yX12_in cX12_in 6 (some .boolean) 3 := ⟨tw_918, tw_13, by decide, by decide +kernel⟩
set_option maxHeartbeats 2000000 in
theorem w_X12_in_18 {p : Program} {l : Launch} {e : Env} {s : State} {m : MethodId} {args : Array Value} {below : List Frame} {meth : Method} {c : Code} {D : va_G} {G : Nat → ClassId} {B : Nat} {M : fp_Mem} {p0 : Int64} {p2 : Int64} {p4 : Int64} {r : Int32} (E : fp_EV p s m args meth c cX12_in 6 RX12 (some .boolean) D G) (s0 : Int32) {H : Heap} {locs : List Loc} {ls : Array Slot} (hG : fp_H D G B s M H locs) (hl : lv_has ls 6 []) (h : m_X12_in_18 M p0 p2 p4 s0 = some r) : W p l e rm_X12_in s m args below meth c H locs 0 0 (MQ below (fp_Qi D G B r M) args s 0 0 (fp_A B)) (F0 m 18 ls [.int s0]) := by
  have hx := E.1
  have hb := E.2.1
  have hown := E.2.2.2.1
  unfold m_X12_in_18 at h
  obtain ⟨g_1, h⟩ := fp_gd_s h
  exact fp_iretz E hG g_1 (Option.some.inj h) rfl dX12_in_18
set_option maxHeartbeats 2000000 in
theorem w_X12_in_17 {p : Program} {l : Launch} {e : Env} {s : State} {m : MethodId} {args : Array Value} {below : List Frame} {meth : Method} {c : Code} {D : va_G} {G : Nat → ClassId} {B : Nat} {M : fp_Mem} {p0 : Int64} {p2 : Int64} {p4 : Int64} {r : Int32} (E : fp_EV p s m args meth c cX12_in 6 RX12 (some .boolean) D G) {H : Heap} {locs : List Loc} {ls : Array Slot} (hG : fp_H D G B s M H locs) (hl : lv_has ls 6 []) (h : m_X12_in_17 M p0 p2 p4 = some r) : W p l e rm_X12_in s m args below meth c H locs 0 0 (MQ below (fp_Qi D G B r M) args s 0 0 (fp_A B)) (F0 m 17 ls []) := by
  have hx := E.1
  have hb := E.2.1
  have hown := E.2.2.2.1
  unfold m_X12_in_17 at h
  refine lv_iconst (v := (nI 0)) hx hb dX12_in_17 (by decide) ?_
  exact w_X12_in_18 E   _ hG (lv_sub hl [] rfl) h
set_option maxHeartbeats 2000000 in
theorem w_X12_in_0 {p : Program} {l : Launch} {e : Env} {s : State} {m : MethodId} {args : Array Value} {below : List Frame} {meth : Method} {c : Code} {D : va_G} {G : Nat → ClassId} {B : Nat} {M : fp_Mem} {p0 : Int64} {p2 : Int64} {p4 : Int64} {r : Int32} (E : fp_EV p s m args meth c cX12_in 6 RX12 (some .boolean) D G) {H : Heap} {locs : List Loc} {ls : Array Slot} (hG : fp_H D G B s M H locs) (hl : lv_has ls 6 [(0, .long p0), (2, .long p2), (4, .long p4)]) (h : m_X12_in M p0 p2 p4 = some r) : W p l e rm_X12_in s m args below meth c H locs 0 0 (MQ below (fp_Qi D G B r M) args s 0 0 (fp_A B)) (F0 m 0 ls []) := by
  have hx := E.1
  have hb := E.2.1
  have hown := E.2.2.2.1
  unfold m_X12_in at h
  refine lv_lload_n hx hb dX12_in_0 rfl (lv_at hl 0 rfl) ?_
  refine lv_lload_n hx hb dX12_in_1 rfl (lv_at hl 1 rfl) ?_
  refine W.lcmp hx hb dX12_in_2 ?_
  refine lv_if_lt (tgt := 17) hx hb dX12_in_3 (by decide) (fun q => ?_) (fun q => ?_)
  · replace h := fp_ifT q h
    exact w_X12_in_17 E    hG (lv_sub hl [] rfl) h
  · replace h := fp_ifF q h
    refine lv_lload_n hx hb dX12_in_6 rfl (lv_at hl 0 rfl) ?_
    refine lv_lload hx hb dX12_in_7 (lv_at hl 2 rfl) ?_
    refine W.lcmp hx hb dX12_in_9 ?_
    refine lv_if_gt (tgt := 17) hx hb dX12_in_10 (by decide) (fun q => ?_) (fun q => ?_)
    · replace h := fp_ifT q h
      exact w_X12_in_17 E    hG (lv_sub hl [] rfl) h
    · replace h := fp_ifF q h
      refine lv_iconst (v := (nI 1)) hx hb dX12_in_13 (by decide) ?_
      refine lv_goto (tgt := 18) hx hb dX12_in_14 (by decide) ?_
      exact w_X12_in_18 E   _ hG (lv_sub hl [] rfl) h
theorem c_X12_in (l : Launch) (D : va_G) (G : Nat → ClassId) (B : Nat) {M : fp_Mem}  {p0 : Int64} {p2 : Int64} {p4 : Int64} {r : Int32}  (h : m_X12_in M p0 p2 p4 = some r) : Met l yX12_in (Cond.code yX12_in cX12_in 6 (some .boolean) :: fp_T) rm_X12_in (va_Pc [.long p0, .long p2, .long p4] (fp_GS D G B M)) (fp_Qi D G B r M) 0 0 (fp_A B) :=
  fp_met (own := RX12) (by decide) rfl (Nat.le_of_ble_eq_true rfl) (fun E hG hl => w_X12_in_0 E  hG hl h)
abbrev rm_X12_has : Room := { frames := 0, cells := 0, slots := 0, locals := 0 }
theorem cv_X12_has : fp_CV yX12_has cX12_has 2 (some .boolean) 2 := ⟨tw_1001, tw_13, by decide, by decide +kernel⟩
set_option maxHeartbeats 2000000 in
theorem w_X12_has_14 {p : Program} {l : Launch} {e : Env} {s : State} {m : MethodId} {args : Array Value} {below : List Frame} {meth : Method} {c : Code} {D : va_G} {G : Nat → ClassId} {B : Nat} {M : fp_Mem} {p0 : Int32} {p1 : Int32} {r : Int32} (E : fp_EV p s m args meth c cX12_has 2 RX12 (some .boolean) D G) (s0 : Int32) {H : Heap} {locs : List Loc} {ls : Array Slot} (hG : fp_H D G B s M H locs) (hl : lv_has ls 2 []) (h : m_X12_has_14 M p0 p1 s0 = some r) : W p l e rm_X12_has s m args below meth c H locs 0 0 (MQ below (fp_Qi D G B r M) args s 0 0 (fp_A B)) (F0 m 14 ls [.int s0]) := by
  have hx := E.1
  have hb := E.2.1
  have hown := E.2.2.2.1
  unfold m_X12_has_14 at h
  obtain ⟨g_1, h⟩ := fp_gd_s h
  exact fp_iretz E hG g_1 (Option.some.inj h) rfl dX12_has_14
set_option maxHeartbeats 2000000 in
theorem w_X12_has_0 {p : Program} {l : Launch} {e : Env} {s : State} {m : MethodId} {args : Array Value} {below : List Frame} {meth : Method} {c : Code} {D : va_G} {G : Nat → ClassId} {B : Nat} {M : fp_Mem} {p0 : Int32} {p1 : Int32} {r : Int32} (E : fp_EV p s m args meth c cX12_has 2 RX12 (some .boolean) D G) {H : Heap} {locs : List Loc} {ls : Array Slot} (hG : fp_H D G B s M H locs) (hl : lv_has ls 2 [(0, .int p0), (1, .int p1)]) (h : m_X12_has M p0 p1 = some r) : W p l e rm_X12_has s m args below meth c H locs 0 0 (MQ below (fp_Qi D G B r M) args s 0 0 (fp_A B)) (F0 m 0 ls []) := by
  have hx := E.1
  have hb := E.2.1
  have hown := E.2.2.2.1
  unfold m_X12_has at h
  refine lv_iload_n hx hb dX12_has_0 rfl (lv_at hl 0 rfl) ?_
  refine lv_iload_n hx hb dX12_has_1 rfl (lv_at hl 1 rfl) ?_
  refine lv_ishr hx hb dX12_has_2 ?_
  refine lv_iconst (v := (nI 1)) hx hb dX12_has_3 (by decide) ?_
  refine lv_iand hx hb dX12_has_4 ?_
  refine lv_iconst (v := (nI 1)) hx hb dX12_has_5 (by decide) ?_
  refine lv_icmp_ne (tgt := 13) hx hb dX12_has_6 (by decide) (fun q => ?_) (fun q => ?_)
  · replace h := fp_ifF q h
    refine lv_iconst (v := (nI 0)) hx hb dX12_has_13 (by decide) ?_
    exact w_X12_has_14 E   _ hG (lv_sub hl [] rfl) h
  · replace h := fp_ifT q h
    refine lv_iconst (v := (nI 1)) hx hb dX12_has_9 (by decide) ?_
    refine lv_goto (tgt := 14) hx hb dX12_has_10 (by decide) ?_
    exact w_X12_has_14 E   _ hG (lv_sub hl [] rfl) h
theorem c_X12_has (l : Launch) (D : va_G) (G : Nat → ClassId) (B : Nat) {M : fp_Mem}  {p0 : Int32} {p1 : Int32} {r : Int32}  (h : m_X12_has M p0 p1 = some r) : Met l yX12_has (Cond.code yX12_has cX12_has 2 (some .boolean) :: fp_T) rm_X12_has (va_Pc [.int p0, .int p1] (fp_GS D G B M)) (fp_Qi D G B r M) 0 0 (fp_A B) :=
  fp_met (own := RX12) (by decide) rfl (Nat.le_of_ble_eq_true rfl) (fun E hG hl => w_X12_has_0 E  hG hl h)
abbrev rm_X12_bits : Room := { frames := 0, cells := 0, slots := 0, locals := 0 }
theorem cv_X12_bits : fp_CV yX12_bits cX12_bits 3 (some .int) 1 := ⟨tw_1159, tw_13, by decide, by decide +kernel⟩
set_option maxHeartbeats 2000000 in
theorem w_X12_bits_4 {p : Program} {l : Launch} {e : Env} {s : State} {m : MethodId} {args : Array Value} {below : List Frame} {meth : Method} {c : Code} {D : va_G} {G : Nat → ClassId} {B : Nat} {M : fp_Mem} {p0 : Int32} {r : Int32} (E : fp_EV p s m args meth c cX12_bits 3 RX12 (some .int) D G) : ∀ (n : Nat) (v1 : Int32) (v2 : Int32) {H : Heap} {locs : List Loc} {ls : Array Slot}, fp_H D G B s M H locs → lv_has ls 3 [(0, .int p0), (1, .int v1), (2, .int v2)] → m_X12_bits_4 M p0 n v1 v2 = some r → W p l e rm_X12_bits s m args below meth c H locs 0 0 (MQ below (fp_Qi D G B r M) args s 0 0 (fp_A B)) (F0 m 4 ls []) := by
  have hx := E.1
  have hb := E.2.1
  have hown := E.2.2.2.1
  intro n
  induction n with
  | zero =>
    intro v1 v2 H locs ls hG hl h
    exact nomatch h
  | succ n ih =>
    have ihK := @ih
    intro v1 v2 H locs ls hG hl h
    rw [m_X12_bits_4] at h
    refine lv_iload_n hx hb dX12_bits_4 rfl (lv_at hl 2 rfl) ?_
    refine lv_bipush (v := (nI 9)) hx hb dX12_bits_5 (by decide) ?_
    refine lv_icmp_ge (tgt := 24) hx hb dX12_bits_7 (by decide) (fun q => ?_) (fun q => ?_)
    · replace h := fp_ifT q h
      refine lv_iload_n hx hb dX12_bits_24 rfl (lv_at hl 1 rfl) ?_
      exact fp_ireti E hG (Option.some.inj h) rfl dX12_bits_25
    · replace h := fp_ifF q h
      refine lv_iload_n hx hb dX12_bits_10 rfl (lv_at hl 1 rfl) ?_
      refine lv_iload_n hx hb dX12_bits_11 rfl (lv_at hl 0 rfl) ?_
      refine lv_iload_n hx hb dX12_bits_12 rfl (lv_at hl 2 rfl) ?_
      refine lv_ishr hx hb dX12_bits_13 ?_
      refine lv_iconst (v := (nI 1)) hx hb dX12_bits_14 (by decide) ?_
      refine lv_iand hx hb dX12_bits_15 ?_
      refine lv_iadd hx hb dX12_bits_16 ?_
      obtain ⟨x_1, ex_1, h⟩ := fp_lt_s h
      refine fp_top ex_1 ?_
      refine lv_istore_n (lv' := [(1, .int x_1), (0, .int p0), (2, .int v2)]) hx hb dX12_bits_17 rfl hl (by decide) rfl (fun ls hl => ?_)
      obtain ⟨x_2, ex_2, h⟩ := fp_lt_s h
      refine lv_iinc (v := x_2) (lv' := [(2, .int x_2), (1, .int x_1), (0, .int p0)]) hx hb dX12_bits_18 hl (k := 2) rfl (by rw [ex_2]; rfl) (by decide) rfl (fun ls hl => ?_)
      refine lv_goto (tgt := 4) hx hb dX12_bits_21 (by decide) ?_
      exact ih _ _ hG (lv_sub hl [2, 1, 0] rfl) h
set_option maxHeartbeats 2000000 in
theorem w_X12_bits_0 {p : Program} {l : Launch} {e : Env} {s : State} {m : MethodId} {args : Array Value} {below : List Frame} {meth : Method} {c : Code} {D : va_G} {G : Nat → ClassId} {B : Nat} {M : fp_Mem} {p0 : Int32} {r : Int32} (E : fp_EV p s m args meth c cX12_bits 3 RX12 (some .int) D G) {H : Heap} {locs : List Loc} {ls : Array Slot} (hG : fp_H D G B s M H locs) (hl : lv_has ls 3 [(0, .int p0)]) (h : m_X12_bits M p0 = some r) : W p l e rm_X12_bits s m args below meth c H locs 0 0 (MQ below (fp_Qi D G B r M) args s 0 0 (fp_A B)) (F0 m 0 ls []) := by
  have hx := E.1
  have hb := E.2.1
  have hown := E.2.2.2.1
  unfold m_X12_bits at h
  refine lv_iconst (v := (nI 0)) hx hb dX12_bits_0 (by decide) ?_
  refine lv_istore_n (lv' := [(1, .int (nI 0)), (0, .int p0)]) hx hb dX12_bits_1 rfl hl (by decide) rfl (fun ls hl => ?_)
  refine lv_iconst (v := (nI 0)) hx hb dX12_bits_2 (by decide) ?_
  refine lv_istore_n (lv' := [(2, .int (nI 0)), (1, .int (nI 0)), (0, .int p0)]) hx hb dX12_bits_3 rfl hl (by decide) rfl (fun ls hl => ?_)
  exact w_X12_bits_4 E   fp_fu _ _ hG (lv_sub hl [2, 1, 0] rfl) h
theorem c_X12_bits (l : Launch) (D : va_G) (G : Nat → ClassId) (B : Nat) {M : fp_Mem}  {p0 : Int32} {r : Int32}  (h : m_X12_bits M p0 = some r) : Met l yX12_bits (Cond.code yX12_bits cX12_bits 3 (some .int) :: fp_T) rm_X12_bits (va_Pc [.int p0] (fp_GS D G B M)) (fp_Qi D G B r M) 0 0 (fp_A B) :=
  fp_met (own := RX12) (by decide) rfl (Nat.le_of_ble_eq_true rfl) (fun E hG hl => w_X12_bits_0 E  hG hl h)
abbrev rm_X12_isTable : Room := { frames := 1, cells := 0, slots := 0, locals := 25 }
theorem cv_X12_isTable : fp_CV yX12_isTable cX12_isTable 2 (some .boolean) 1 := ⟨tw_1009, tw_13, by decide, by decide +kernel⟩
set_option maxHeartbeats 2000000 in
theorem w_X12_isTable_0 {p : Program} {l : Launch} {e : Env} {s : State} {m : MethodId} {args : Array Value} {below : List Frame} {meth : Method} {c : Code} {D : va_G} {G : Nat → ClassId} {B : Nat} {M : fp_Mem} {p1 : Int32} {r : Int32} (E : fp_EV p s m args meth c cX12_isTable 2 RX12 (some .boolean) D G) {H : Heap} {locs : List Loc} {ls : Array Slot} (hG : fp_H D G B s M H locs) (hl : lv_has ls 2 [(0, .ref (B + 120)), (1, .int p1)]) (h : m_X12_isTable M p1 = some r) : W p l e rm_X12_isTable s m args below meth c H locs 0 0 (MQ below (fp_Qi D G B r M) args s 0 0 (fp_A B)) (F0 m 0 ls []) := by
  have hx := E.1
  have hb := E.2.1
  have hown := E.2.2.2.1
  unfold m_X12_isTable at h
  refine lv_iload_n hx hb dX12_isTable_0 rfl (lv_at hl 1 rfl) ?_
  refine lv_i2l hx hb dX12_isTable_1 rfl ?_
  refine lv_lconst (v := (lN 0)) hx hb dX12_isTable_2 (by decide) ?_
  refine lv_aload_n hx hb dX12_isTable_3 rfl (lv_at hl 0 rfl) ?_
  refine fp_g12_1 E hG tw_806 dX12_isTable_4 ?_
  refine lv_iconst (v := (nI 1)) hx hb dX12_isTable_7 (by decide) ?_
  refine lv_isub hx hb dX12_isTable_8 ?_
  refine lv_i2l hx hb dX12_isTable_9 rfl ?_
  obtain ⟨r_1, c_2, h⟩ := fp_b1_s h
  refine fp_callSi (As := [.long (Int32.toInt64 p1), .long (lN 0), .long (Int32.toInt64 ((M 120 1) - (nI 1)))]) (rest := []) E hG (c_X12_in l D G B c_2) cv_X12_in tw_916 tw_917 ⟨rfl, rfl⟩ ⟨Nat.le_of_ble_eq_true rfl, Nat.le_of_ble_eq_true rfl⟩ rfl rfl (Nat.le_of_ble_eq_true rfl) hl.1 dX12_isTable_10 ⟨Nat.zero_le _, Nat.zero_le _⟩ (fun H locs hG => ?_)
  obtain ⟨g_3, h⟩ := fp_gd_s h
  exact fp_iretz E hG g_3 (Option.some.inj h) rfl dX12_isTable_13
theorem c_X12_isTable (l : Launch) (D : va_G) (G : Nat → ClassId) (B : Nat) {M : fp_Mem}  {p1 : Int32} {r : Int32}  (h : m_X12_isTable M p1 = some r) : Met l yX12_isTable (Cond.code yX12_isTable cX12_isTable 2 (some .boolean) :: fp_T) rm_X12_isTable (va_Pc [.ref (B + 120), .int p1] (fp_GS D G B M)) (fp_Qi D G B r M) 0 0 (fp_A B) :=
  fp_met (own := RX12) (by decide) rfl (Nat.le_of_ble_eq_true rfl) (fun E hG hl => w_X12_isTable_0 E  hG hl h)
abbrev rm_X12_feed : Room := { frames := 1, cells := 0, slots := 0, locals := 25 }
theorem cv_X12_feed : fp_CV yX12_feed cX12_feed 2 (some .int) 1 := ⟨tw_914, tw_13, by decide, by decide +kernel⟩
set_option maxHeartbeats 2000000 in
theorem w_X12_feed_0 {p : Program} {l : Launch} {e : Env} {s : State} {m : MethodId} {args : Array Value} {below : List Frame} {meth : Method} {c : Code} {D : va_G} {G : Nat → ClassId} {B : Nat} {p1 : Int32} {r : Int32} {M' : fp_Mem} (E : fp_EV p s m args meth c cX12_feed 2 RX12 (some .int) D G) {M : fp_Mem} {H : Heap} {locs : List Loc} {ls : Array Slot} (hG : fp_H D G B s M H locs) (hl : lv_has ls 2 [(0, .ref (B + 120)), (1, .int p1)]) (h : m_X12_feed M p1 = some (r, M')) : W p l e rm_X12_feed s m args below meth c H locs 0 0 (MQ below (fp_Qi D G B r M') args s 0 0 (fp_A B)) (F0 m 0 ls []) := by
  have hx := E.1
  have hb := E.2.1
  have hown := E.2.2.2.1
  unfold m_X12_feed at h
  refine lv_iload_n hx hb dX12_feed_0 rfl (lv_at hl 1 rfl) ?_
  refine lv_i2l hx hb dX12_feed_1 rfl ?_
  refine lv_lconst (v := (lN 0)) hx hb dX12_feed_2 (by decide) ?_
  refine lv_ldc2 (v := (lN 255)) hx hb hown (fp_tabs E tw_915) dX12_feed_3 ?_
  obtain ⟨r_1, c_2, h⟩ := fp_b1_s h
  refine fp_callSi (As := [.long (Int32.toInt64 p1), .long (lN 0), .long (lN 255)]) (rest := []) E hG (c_X12_in l D G B c_2) cv_X12_in tw_916 tw_917 ⟨rfl, rfl⟩ ⟨Nat.le_of_ble_eq_true rfl, Nat.le_of_ble_eq_true rfl⟩ rfl rfl (Nat.le_of_ble_eq_true rfl) hl.1 dX12_feed_6 ⟨Nat.zero_le _, Nat.zero_le _⟩ (fun H locs hG => ?_)
  refine lv_if_ne (tgt := 15) hx hb dX12_feed_9 (by decide) (fun q => ?_) (fun q => ?_)
  · replace h := fp_ifF q h
    refine lv_aload_n hx hb dX12_feed_15 rfl (lv_at hl 0 rfl) ?_
    refine fp_g12_9 E hG tw_814 dX12_feed_16 ?_
    refine lv_sipush (v := (nI 240)) hx hb dX12_feed_19 (by decide) ?_
    refine lv_icmp_ne (tgt := 28) hx hb dX12_feed_22 (by decide) (fun q => ?_) (fun q => ?_)
    · replace h := fp_ifF q h
      refine lv_aload_n hx hb dX12_feed_28 rfl (lv_at hl 0 rfl) ?_
      refine fp_g12_8 E hG tw_813 dX12_feed_29 ?_
      refine lv_aload_n hx hb dX12_feed_32 rfl (lv_at hl 0 rfl) ?_
      refine fp_g12_9 E hG tw_814 dX12_feed_33 ?_
      refine lv_iload_n hx hb dX12_feed_36 rfl (lv_at hl 1 rfl) ?_
      obtain ⟨g_3, h⟩ := fp_gd_s h
      obtain ⟨M_4, eM_4, h⟩ := fp_lt_s h
      refine fp_iast E hG fp_cc124.1 (fp_a29 fp_cc124) (fp_in_s g_3) dX12_feed_37 (fun H locs hG => ?_)
      replace hG := fp_memH eM_4 hG
      refine lv_aload_n hx hb dX12_feed_38 rfl (lv_at hl 0 rfl) ?_
      refine lv_dup hx hb dX12_feed_39 rfl ?_
      refine fp_g12_9 E hG tw_814 dX12_feed_40 ?_
      refine lv_iconst (v := (nI 1)) hx hb dX12_feed_43 (by decide) ?_
      refine lv_iadd hx hb dX12_feed_44 ?_
      obtain ⟨M_5, eM_5, h⟩ := fp_lt_s h
      refine fp_p12_9 E hG tw_814 dX12_feed_45 (fun H locs hG => ?_)
      replace hG := fp_memH eM_5 hG
      refine lv_aload_n hx hb dX12_feed_48 rfl (lv_at hl 0 rfl) ?_
      refine fp_g12_9 E hG tw_814 dX12_feed_49 ?_
      exact fp_ireti E hG (fp_pr1 h) (fp_pr2 h) dX12_feed_52
    · replace h := fp_ifT q h
      refine lv_ldc (v := (-1000000004 : Int32)) hx hb hown (fp_tabs E tw_920) dX12_feed_25 ?_
      exact fp_ireti E hG (fp_pr1 h) (fp_pr2 h) dX12_feed_27
  · replace h := fp_ifT q h
    refine lv_ldc (v := (-1000000002 : Int32)) hx hb hown (fp_tabs E tw_919) dX12_feed_12 ?_
    exact fp_ireti E hG (fp_pr1 h) (fp_pr2 h) dX12_feed_14
theorem c_X12_feed (l : Launch) (D : va_G) (G : Nat → ClassId) (B : Nat) {M : fp_Mem}  {p1 : Int32} {r : Int32} {M' : fp_Mem}  (h : m_X12_feed M p1 = some (r, M')) : Met l yX12_feed (Cond.code yX12_feed cX12_feed 2 (some .int) :: fp_T) rm_X12_feed (va_Pc [.ref (B + 120), .int p1] (fp_GS D G B M)) (fp_Qi D G B r M') 0 0 (fp_A B) :=
  fp_met (own := RX12) (by decide) rfl (Nat.le_of_ble_eq_true rfl) (fun E hG hl => w_X12_feed_0 E  hG hl h)
abbrev rm_X12_here : Room := { frames := 0, cells := 0, slots := 0, locals := 0 }
theorem cv_X12_here : fp_CV yX12_here cX12_here 1 (some .int) 0 := ⟨tw_928, tw_13, by decide, by decide +kernel⟩
set_option maxHeartbeats 2000000 in
theorem w_X12_here_62 {p : Program} {l : Launch} {e : Env} {s : State} {m : MethodId} {args : Array Value} {below : List Frame} {meth : Method} {c : Code} {D : va_G} {G : Nat → ClassId} {B : Nat} {r : Int32} {M' : fp_Mem} (E : fp_EV p s m args meth c cX12_here 1 RX12 (some .int) D G) (s0 : Int32) (M : fp_Mem) {H : Heap} {locs : List Loc} {ls : Array Slot} (hG : fp_H D G B s M H locs) (hl : lv_has ls 1 []) (h : m_X12_here_62 s0 M = some (r, M')) : W p l e rm_X12_here s m args below meth c H locs 0 0 (MQ below (fp_Qi D G B r M') args s 0 0 (fp_A B)) (F0 m 62 ls [.int s0]) := by
  have hx := E.1
  have hb := E.2.1
  have hown := E.2.2.2.1
  unfold m_X12_here_62 at h
  exact fp_ireti E hG (fp_pr1 h) (fp_pr2 h) dX12_here_62
set_option maxHeartbeats 2000000 in
theorem w_X12_here_38 {p : Program} {l : Launch} {e : Env} {s : State} {m : MethodId} {args : Array Value} {below : List Frame} {meth : Method} {c : Code} {D : va_G} {G : Nat → ClassId} {B : Nat} {r : Int32} {M' : fp_Mem} (E : fp_EV p s m args meth c cX12_here 1 RX12 (some .int) D G) (M : fp_Mem) {H : Heap} {locs : List Loc} {ls : Array Slot} (hG : fp_H D G B s M H locs) (hl : lv_has ls 1 [(0, .ref (B + 120))]) (h : m_X12_here_38 M = some (r, M')) : W p l e rm_X12_here s m args below meth c H locs 0 0 (MQ below (fp_Qi D G B r M') args s 0 0 (fp_A B)) (F0 m 38 ls []) := by
  have hx := E.1
  have hb := E.2.1
  have hown := E.2.2.2.1
  unfold m_X12_here_38 at h
  refine lv_aload_n hx hb dX12_here_38 rfl (lv_at hl 0 rfl) ?_
  refine fp_g12_11 E hG tw_816 dX12_here_39 ?_
  refine lv_aload_n hx hb dX12_here_42 rfl (lv_at hl 0 rfl) ?_
  refine fp_g12_9 E hG tw_814 dX12_here_43 ?_
  refine lv_icmp_ge (tgt := 61) hx hb dX12_here_46 (by decide) (fun q => ?_) (fun q => ?_)
  · replace h := fp_ifT q h
    refine lv_iconst (v := (-1 : Int32)) hx hb dX12_here_61 (by decide) ?_
    exact w_X12_here_62 E   _ _ hG (lv_sub hl [] rfl) h
  · replace h := fp_ifF q h
    refine lv_aload_n hx hb dX12_here_49 rfl (lv_at hl 0 rfl) ?_
    refine fp_g12_8 E hG tw_813 dX12_here_50 ?_
    refine lv_aload_n hx hb dX12_here_53 rfl (lv_at hl 0 rfl) ?_
    refine fp_g12_11 E hG tw_816 dX12_here_54 ?_
    obtain ⟨g_1, h⟩ := fp_gd_s h
    refine fp_iald E hG fp_cc124.1 (fp_a29 fp_cc124) (fp_in_s g_1) dX12_here_57 ?_
    refine lv_goto (tgt := 62) hx hb dX12_here_58 (by decide) ?_
    exact w_X12_here_62 E   _ _ hG (lv_sub hl [] rfl) h
set_option maxHeartbeats 2000000 in
theorem w_X12_here_0 {p : Program} {l : Launch} {e : Env} {s : State} {m : MethodId} {args : Array Value} {below : List Frame} {meth : Method} {c : Code} {D : va_G} {G : Nat → ClassId} {B : Nat} {r : Int32} {M' : fp_Mem} (E : fp_EV p s m args meth c cX12_here 1 RX12 (some .int) D G) : ∀ (n : Nat) (M : fp_Mem) {H : Heap} {locs : List Loc} {ls : Array Slot}, fp_H D G B s M H locs → lv_has ls 1 [(0, .ref (B + 120))] → m_X12_here_0 n M = some (r, M') → W p l e rm_X12_here s m args below meth c H locs 0 0 (MQ below (fp_Qi D G B r M') args s 0 0 (fp_A B)) (F0 m 0 ls []) := by
  have hx := E.1
  have hb := E.2.1
  have hown := E.2.2.2.1
  intro n
  induction n with
  | zero =>
    intro M H locs ls hG hl h
    exact nomatch h
  | succ n ih =>
    have ihK := @ih
    intro M H locs ls hG hl h
    rw [m_X12_here_0] at h
    refine lv_aload_n hx hb dX12_here_0 rfl (lv_at hl 0 rfl) ?_
    refine fp_g12_11 E hG tw_816 dX12_here_1 ?_
    refine lv_aload_n hx hb dX12_here_4 rfl (lv_at hl 0 rfl) ?_
    refine fp_g12_9 E hG tw_814 dX12_here_5 ?_
    refine lv_icmp_ge (tgt := 38) hx hb dX12_here_8 (by decide) (fun q => ?_) (fun q => ?_)
    · replace h := fp_ifT q h
      exact w_X12_here_38 E   _ hG (lv_sub hl [0] rfl) h
    · replace h := fp_ifF q h
      refine lv_aload_n hx hb dX12_here_11 rfl (lv_at hl 0 rfl) ?_
      refine fp_g12_8 E hG tw_813 dX12_here_12 ?_
      refine lv_aload_n hx hb dX12_here_15 rfl (lv_at hl 0 rfl) ?_
      refine fp_g12_11 E hG tw_816 dX12_here_16 ?_
      obtain ⟨g_2, h⟩ := fp_gd_s h
      refine fp_iald E hG fp_cc124.1 (fp_a29 fp_cc124) (fp_in_s g_2) dX12_here_19 ?_
      refine lv_bipush (v := (nI 32)) hx hb dX12_here_20 (by decide) ?_
      refine lv_icmp_ne (tgt := 38) hx hb dX12_here_22 (by decide) (fun q => ?_) (fun q => ?_)
      · replace h := fp_ifF q h
        exact w_X12_here_38 E   _ hG (lv_sub hl [0] rfl) h
      · replace h := fp_ifT q h
        refine lv_aload_n hx hb dX12_here_25 rfl (lv_at hl 0 rfl) ?_
        refine lv_dup hx hb dX12_here_26 rfl ?_
        refine fp_g12_11 E hG tw_816 dX12_here_27 ?_
        refine lv_iconst (v := (nI 1)) hx hb dX12_here_30 (by decide) ?_
        refine lv_iadd hx hb dX12_here_31 ?_
        obtain ⟨M_3, eM_3, h⟩ := fp_lt_s h
        refine fp_p12_11 E hG tw_816 dX12_here_32 (fun H locs hG => ?_)
        replace hG := fp_memH eM_3 hG
        refine lv_goto (tgt := 0) hx hb dX12_here_35 (by decide) ?_
        exact ih _ hG (lv_sub hl [0] rfl) h
theorem c_X12_here (l : Launch) (D : va_G) (G : Nat → ClassId) (B : Nat) {M : fp_Mem}   {r : Int32} {M' : fp_Mem}  (h : m_X12_here M = some (r, M')) : Met l yX12_here (Cond.code yX12_here cX12_here 1 (some .int) :: fp_T) rm_X12_here (va_Pc [.ref (B + 120)] (fp_GS D G B M)) (fp_Qi D G B r M') 0 0 (fp_A B) :=
  fp_met (own := RX12) (by decide) rfl (Nat.le_of_ble_eq_true rfl) (fun E hG hl => w_X12_here_0 E  fp_fu  _ hG hl h)
abbrev rm_X12_fails : Room := { frames := 0, cells := 0, slots := 0, locals := 0 }
theorem cv_X12_fails : fp_CV yX12_fails cX12_fails 3 (some .int) 2 := ⟨tw_936, tw_13, by decide, by decide +kernel⟩
set_option maxHeartbeats 2000000 in
theorem w_X12_fails_0 {p : Program} {l : Launch} {e : Env} {s : State} {m : MethodId} {args : Array Value} {below : List Frame} {meth : Method} {c : Code} {D : va_G} {G : Nat → ClassId} {B : Nat} {p1 : Int32} {p2 : Int32} {r : Int32} {M' : fp_Mem} (E : fp_EV p s m args meth c cX12_fails 3 RX12 (some .int) D G) {M : fp_Mem} {H : Heap} {locs : List Loc} {ls : Array Slot} (hG : fp_H D G B s M H locs) (hl : lv_has ls 3 [(0, .ref (B + 120)), (1, .int p1), (2, .int p2)]) (h : m_X12_fails M p1 p2 = some (r, M')) : W p l e rm_X12_fails s m args below meth c H locs 0 0 (MQ below (fp_Qi D G B r M') args s 0 0 (fp_A B)) (F0 m 0 ls []) := by
  have hx := E.1
  have hb := E.2.1
  have hown := E.2.2.2.1
  unfold m_X12_fails at h
  refine lv_aload_n hx hb dX12_fails_0 rfl (lv_at hl 0 rfl) ?_
  refine lv_iload_n hx hb dX12_fails_1 rfl (lv_at hl 2 rfl) ?_
  obtain ⟨M_1, eM_1, h⟩ := fp_lt_s h
  refine fp_p12_10 E hG tw_815 dX12_fails_2 (fun H locs hG => ?_)
  replace hG := fp_memH eM_1 hG
  refine lv_iload_n hx hb dX12_fails_5 rfl (lv_at hl 1 rfl) ?_
  exact fp_ireti E hG (fp_pr1 h) (fp_pr2 h) dX12_fails_6
theorem c_X12_fails (l : Launch) (D : va_G) (G : Nat → ClassId) (B : Nat) {M : fp_Mem}  {p1 : Int32} {p2 : Int32} {r : Int32} {M' : fp_Mem}  (h : m_X12_fails M p1 p2 = some (r, M')) : Met l yX12_fails (Cond.code yX12_fails cX12_fails 3 (some .int) :: fp_T) rm_X12_fails (va_Pc [.ref (B + 120), .int p1, .int p2] (fp_GS D G B M)) (fp_Qi D G B r M') 0 0 (fp_A B) :=
  fp_met (own := RX12) (by decide) rfl (Nat.le_of_ble_eq_true rfl) (fun E hG hl => w_X12_fails_0 E  hG hl h)
abbrev rm_X12_takeNumber : Room := { frames := 1, cells := 0, slots := 0, locals := 25 }
theorem cv_X12_takeNumber : fp_CV yX12_takeNumber cX12_takeNumber 4 (some .int) 2 := ⟨tw_948, tw_13, by decide, by decide +kernel⟩
set_option maxHeartbeats 2000000 in
theorem w_X12_takeNumber_170 {p : Program} {l : Launch} {e : Env} {s : State} {m : MethodId} {args : Array Value} {below : List Frame} {meth : Method} {c : Code} {D : va_G} {G : Nat → ClassId} {B : Nat} {p1 : Int32} {p2 : Int32} {r : Int32} {M' : fp_Mem} (E : fp_EV p s m args meth c cX12_takeNumber 4 RX12 (some .int) D G) (s0 : Int32) (M : fp_Mem) {H : Heap} {locs : List Loc} {ls : Array Slot} (hG : fp_H D G B s M H locs) (hl : lv_has ls 4 []) (h : m_X12_takeNumber_170 p1 p2 s0 M = some (r, M')) : W p l e rm_X12_takeNumber s m args below meth c H locs 0 0 (MQ below (fp_Qi D G B r M') args s 0 0 (fp_A B)) (F0 m 170 ls [.int s0]) := by
  have hx := E.1
  have hb := E.2.1
  have hown := E.2.2.2.1
  unfold m_X12_takeNumber_170 at h
  exact fp_ireti E hG (fp_pr1 h) (fp_pr2 h) dX12_takeNumber_170
set_option maxHeartbeats 2000000 in
theorem w_X12_takeNumber_157 {p : Program} {l : Launch} {e : Env} {s : State} {m : MethodId} {args : Array Value} {below : List Frame} {meth : Method} {c : Code} {D : va_G} {G : Nat → ClassId} {B : Nat} {p1 : Int32} {p2 : Int32} {r : Int32} {M' : fp_Mem} (E : fp_EV p s m args meth c cX12_takeNumber 4 RX12 (some .int) D G) (M : fp_Mem) {H : Heap} {locs : List Loc} {ls : Array Slot} (hG : fp_H D G B s M H locs) (hl : lv_has ls 4 [(0, .ref (B + 120))]) (h : m_X12_takeNumber_157 p1 p2 M = some (r, M')) : W p l e rm_X12_takeNumber s m args below meth c H locs 0 0 (MQ below (fp_Qi D G B r M') args s 0 0 (fp_A B)) (F0 m 157 ls []) := by
  have hx := E.1
  have hb := E.2.1
  have hown := E.2.2.2.1
  unfold m_X12_takeNumber_157 at h
  refine lv_aload_n hx hb dX12_takeNumber_157 rfl (lv_at hl 0 rfl) ?_
  refine lv_iconst (v := (nI 2)) hx hb dX12_takeNumber_158 (by decide) ?_
  refine lv_aload_n hx hb dX12_takeNumber_159 rfl (lv_at hl 0 rfl) ?_
  refine fp_g12_13 E hG tw_818 dX12_takeNumber_160 ?_
  obtain ⟨r_1, M_2, c_3, h⟩ := fp_b2_s h
  refine fp_callVi (As := [.int (nI 2), .int (M 120 13)]) (rest := []) E hG (c_X12_fails l D G B c_3) cv_X12_fails tw_933 tw_935 ts_19 ⟨rfl, rfl⟩ ⟨Nat.le_of_ble_eq_true rfl, Nat.le_of_ble_eq_true rfl⟩ (fp_recv E hG (by decide) (fp_o12 _) rfl) rfl rfl (Nat.le_of_ble_eq_true rfl) hl.1 dX12_takeNumber_163 ⟨Nat.zero_le _, Nat.zero_le _⟩ (fun H locs hG => ?_)
  refine lv_goto (tgt := 170) hx hb dX12_takeNumber_166 (by decide) ?_
  exact w_X12_takeNumber_170 E   _ _ hG (lv_sub hl [] rfl) h
set_option maxHeartbeats 2000000 in
theorem w_X12_takeNumber_129 {p : Program} {l : Launch} {e : Env} {s : State} {m : MethodId} {args : Array Value} {below : List Frame} {meth : Method} {c : Code} {D : va_G} {G : Nat → ClassId} {B : Nat} {p1 : Int32} {p2 : Int32} {r : Int32} {M' : fp_Mem} (E : fp_EV p s m args meth c cX12_takeNumber 4 RX12 (some .int) D G) (M : fp_Mem) {H : Heap} {locs : List Loc} {ls : Array Slot} (hG : fp_H D G B s M H locs) (hl : lv_has ls 4 [(0, .ref (B + 120)), (1, .int p1), (2, .int p2)]) (h : m_X12_takeNumber_129 p1 p2 M = some (r, M')) : W p l e rm_X12_takeNumber s m args below meth c H locs 0 0 (MQ below (fp_Qi D G B r M') args s 0 0 (fp_A B)) (F0 m 129 ls []) := by
  have hx := E.1
  have hb := E.2.1
  have hown := E.2.2.2.1
  unfold m_X12_takeNumber_129 at h
  refine lv_aload_n hx hb dX12_takeNumber_129 rfl (lv_at hl 0 rfl) ?_
  refine fp_g12_11 E hG tw_816 dX12_takeNumber_130 ?_
  refine lv_aload_n hx hb dX12_takeNumber_133 rfl (lv_at hl 0 rfl) ?_
  refine fp_g12_13 E hG tw_818 dX12_takeNumber_134 ?_
  refine lv_isub hx hb dX12_takeNumber_137 ?_
  refine lv_iconst (v := (nI 3)) hx hb dX12_takeNumber_138 (by decide) ?_
  refine lv_icmp_gt (tgt := 157) hx hb dX12_takeNumber_139 (by decide) (fun q => ?_) (fun q => ?_)
  · replace h := fp_ifT q h
    exact w_X12_takeNumber_157 E   _ hG (lv_sub hl [0] rfl) h
  · replace h := fp_ifF q h
    refine lv_aload_n hx hb dX12_takeNumber_142 rfl (lv_at hl 0 rfl) ?_
    refine fp_g12_12 E hG tw_817 dX12_takeNumber_143 ?_
    refine lv_i2l hx hb dX12_takeNumber_146 rfl ?_
    refine lv_iload_n hx hb dX12_takeNumber_147 rfl (lv_at hl 1 rfl) ?_
    refine lv_i2l hx hb dX12_takeNumber_148 rfl ?_
    refine lv_iload_n hx hb dX12_takeNumber_149 rfl (lv_at hl 2 rfl) ?_
    refine lv_i2l hx hb dX12_takeNumber_150 rfl ?_
    obtain ⟨r_4, c_5, h⟩ := fp_b1_s h
    refine fp_callSi (As := [.long (Int32.toInt64 (M 120 12)), .long (Int32.toInt64 p1), .long (Int32.toInt64 p2)]) (rest := []) E hG (c_X12_in l D G B c_5) cv_X12_in tw_916 tw_917 ⟨rfl, rfl⟩ ⟨Nat.le_of_ble_eq_true rfl, Nat.le_of_ble_eq_true rfl⟩ rfl rfl (Nat.le_of_ble_eq_true rfl) hl.1 dX12_takeNumber_151 ⟨Nat.zero_le _, Nat.zero_le _⟩ (fun H locs hG => ?_)
    refine lv_if_ne (tgt := 169) hx hb dX12_takeNumber_154 (by decide) (fun q => ?_) (fun q => ?_)
    · replace h := fp_ifF q h
      refine lv_iconst (v := (nI 0)) hx hb dX12_takeNumber_169 (by decide) ?_
      exact w_X12_takeNumber_170 E   _ _ hG (lv_sub hl [] rfl) h
    · replace h := fp_ifT q h
      exact w_X12_takeNumber_157 E   _ hG (lv_sub hl [0] rfl) h
set_option maxHeartbeats 2000000 in
theorem w_X12_takeNumber_113 {p : Program} {l : Launch} {e : Env} {s : State} {m : MethodId} {args : Array Value} {below : List Frame} {meth : Method} {c : Code} {D : va_G} {G : Nat → ClassId} {B : Nat} {p1 : Int32} {p2 : Int32} {K42 : fp_Mem → Option (Int32 × fp_Mem)} {r : Int32} {M' : fp_Mem} (E : fp_EV p s m args meth c cX12_takeNumber 4 RX12 (some .int) D G) (HK42 : ∀ (wM : fp_Mem) {H : Heap} {locs : List Loc} {ls : Array Slot}, fp_H D G B s wM H locs → lv_has ls 4 [(0, .ref (B + 120)), (1, .int p1), (2, .int p2)] → K42 wM = some (r, M') → W p l e rm_X12_takeNumber s m args below meth c H locs 0 0 (MQ below (fp_Qi D G B r M') args s 0 0 (fp_A B)) (F0 m 42 ls [])) (s1 : Int32) (M : fp_Mem) {H : Heap} {locs : List Loc} {ls : Array Slot} (hG : fp_H D G B s M H locs) (hl : lv_has ls 4 [(0, .ref (B + 120)), (1, .int p1), (2, .int p2)]) (h : m_X12_takeNumber_113 p1 p2 K42 s1 M = some (r, M')) : W p l e rm_X12_takeNumber s m args below meth c H locs 0 0 (MQ below (fp_Qi D G B r M') args s 0 0 (fp_A B)) (F0 m 113 ls [.int s1, .ref (B + 120)]) := by
  have hx := E.1
  have hb := E.2.1
  have hown := E.2.2.2.1
  unfold m_X12_takeNumber_113 at h
  obtain ⟨M_6, eM_6, h⟩ := fp_lt_s h
  refine fp_p12_12 E hG tw_817 dX12_takeNumber_113 (fun H locs hG => ?_)
  replace hG := fp_memH eM_6 hG
  refine lv_aload_n hx hb dX12_takeNumber_116 rfl (lv_at hl 0 rfl) ?_
  refine lv_dup hx hb dX12_takeNumber_117 rfl ?_
  refine fp_g12_11 E hG tw_816 dX12_takeNumber_118 ?_
  refine lv_iconst (v := (nI 1)) hx hb dX12_takeNumber_121 (by decide) ?_
  refine lv_iadd hx hb dX12_takeNumber_122 ?_
  obtain ⟨M_7, eM_7, h⟩ := fp_lt_s h
  refine fp_p12_11 E hG tw_816 dX12_takeNumber_123 (fun H locs hG => ?_)
  replace hG := fp_memH eM_7 hG
  refine lv_goto (tgt := 42) hx hb dX12_takeNumber_126 (by decide) ?_
  exact HK42 _ hG (lv_sub hl [0, 1, 2] rfl) h
set_option maxHeartbeats 2000000 in
theorem w_X12_takeNumber_42 {p : Program} {l : Launch} {e : Env} {s : State} {m : MethodId} {args : Array Value} {below : List Frame} {meth : Method} {c : Code} {D : va_G} {G : Nat → ClassId} {B : Nat} {p1 : Int32} {p2 : Int32} {r : Int32} {M' : fp_Mem} (E : fp_EV p s m args meth c cX12_takeNumber 4 RX12 (some .int) D G) : ∀ (n : Nat) (M : fp_Mem) {H : Heap} {locs : List Loc} {ls : Array Slot}, fp_H D G B s M H locs → lv_has ls 4 [(0, .ref (B + 120)), (1, .int p1), (2, .int p2)] → m_X12_takeNumber_42 p1 p2 n M = some (r, M') → W p l e rm_X12_takeNumber s m args below meth c H locs 0 0 (MQ below (fp_Qi D G B r M') args s 0 0 (fp_A B)) (F0 m 42 ls []) := by
  have hx := E.1
  have hb := E.2.1
  have hown := E.2.2.2.1
  intro n
  induction n with
  | zero =>
    intro M H locs ls hG hl h
    exact nomatch h
  | succ n ih =>
    have ihK := @ih
    intro M H locs ls hG hl h
    rw [m_X12_takeNumber_42] at h
    refine lv_aload_n hx hb dX12_takeNumber_42 rfl (lv_at hl 0 rfl) ?_
    refine fp_g12_11 E hG tw_816 dX12_takeNumber_43 ?_
    refine lv_aload_n hx hb dX12_takeNumber_46 rfl (lv_at hl 0 rfl) ?_
    refine fp_g12_9 E hG tw_814 dX12_takeNumber_47 ?_
    refine lv_icmp_ge (tgt := 129) hx hb dX12_takeNumber_50 (by decide) (fun q => ?_) (fun q => ?_)
    · replace h := fp_ifT q h
      exact w_X12_takeNumber_129 E   _ hG (lv_sub hl [0, 1, 2] rfl) h
    · replace h := fp_ifF q h
      refine lv_aload_n hx hb dX12_takeNumber_53 rfl (lv_at hl 0 rfl) ?_
      refine fp_g12_8 E hG tw_813 dX12_takeNumber_54 ?_
      refine lv_aload_n hx hb dX12_takeNumber_57 rfl (lv_at hl 0 rfl) ?_
      refine fp_g12_11 E hG tw_816 dX12_takeNumber_58 ?_
      obtain ⟨g_8, h⟩ := fp_gd_s h
      refine fp_iald E hG fp_cc124.1 (fp_a29 fp_cc124) (fp_in_s g_8) dX12_takeNumber_61 ?_
      refine lv_i2l hx hb dX12_takeNumber_62 rfl ?_
      refine lv_ldc2 (v := (lN 48)) hx hb hown (fp_tabs E tw_949) dX12_takeNumber_63 ?_
      refine lv_ldc2 (v := (lN 57)) hx hb hown (fp_tabs E tw_950) dX12_takeNumber_66 ?_
      obtain ⟨r_9, c_10, h⟩ := fp_b1_s h
      refine fp_callSi (As := [.long (Int32.toInt64 (M 124 (Int32.toNatClampNeg (M 120 11)))), .long (lN 48), .long (lN 57)]) (rest := []) E hG (c_X12_in l D G B c_10) cv_X12_in tw_916 tw_917 ⟨rfl, rfl⟩ ⟨Nat.le_of_ble_eq_true rfl, Nat.le_of_ble_eq_true rfl⟩ rfl rfl (Nat.le_of_ble_eq_true rfl) hl.1 dX12_takeNumber_69 ⟨Nat.zero_le _, Nat.zero_le _⟩ (fun H locs hG => ?_)
      refine lv_if_eq (tgt := 129) hx hb dX12_takeNumber_72 (by decide) (fun q => ?_) (fun q => ?_)
      · replace h := fp_ifT q h
        exact w_X12_takeNumber_129 E   _ hG (lv_sub hl [0, 1, 2] rfl) h
      · replace h := fp_ifF q h
        refine lv_aload_n hx hb dX12_takeNumber_75 rfl (lv_at hl 0 rfl) ?_
        refine lv_aload_n hx hb dX12_takeNumber_76 rfl (lv_at hl 0 rfl) ?_
        refine fp_g12_12 E hG tw_817 dX12_takeNumber_77 ?_
        refine lv_sipush (v := (nI 10000)) hx hb dX12_takeNumber_80 (by decide) ?_
        refine lv_icmp_le (tgt := 93) hx hb dX12_takeNumber_83 (by decide) (fun q => ?_) (fun q => ?_)
        · replace h := fp_ifT q h
          refine lv_bipush (v := (nI 10)) hx hb dX12_takeNumber_93 (by decide) ?_
          refine lv_aload_n hx hb dX12_takeNumber_95 rfl (lv_at hl 0 rfl) ?_
          refine fp_g12_12 E hG tw_817 dX12_takeNumber_96 ?_
          refine lv_imul hx hb dX12_takeNumber_99 ?_
          refine lv_aload_n hx hb dX12_takeNumber_100 rfl (lv_at hl 0 rfl) ?_
          refine fp_g12_8 E hG tw_813 dX12_takeNumber_101 ?_
          refine lv_aload_n hx hb dX12_takeNumber_104 rfl (lv_at hl 0 rfl) ?_
          refine fp_g12_11 E hG tw_816 dX12_takeNumber_105 ?_
          obtain ⟨g_11, h⟩ := fp_gd_s h
          refine fp_iald E hG fp_cc124.1 (fp_a29 fp_cc124) (fp_in_s g_11) dX12_takeNumber_108 ?_
          refine lv_iadd hx hb dX12_takeNumber_109 ?_
          refine lv_bipush (v := (nI 48)) hx hb dX12_takeNumber_110 (by decide) ?_
          refine lv_isub hx hb dX12_takeNumber_112 ?_
          exact w_X12_takeNumber_113 E  ihK _ _ hG (lv_sub hl [0, 1, 2] rfl) h
        · replace h := fp_ifF q h
          refine lv_aload_n hx hb dX12_takeNumber_86 rfl (lv_at hl 0 rfl) ?_
          refine fp_g12_12 E hG tw_817 dX12_takeNumber_87 ?_
          refine lv_goto (tgt := 113) hx hb dX12_takeNumber_90 (by decide) ?_
          exact w_X12_takeNumber_113 E  ihK _ _ hG (lv_sub hl [0, 1, 2] rfl) h
set_option maxHeartbeats 2000000 in
theorem w_X12_takeNumber_0 {p : Program} {l : Launch} {e : Env} {s : State} {m : MethodId} {args : Array Value} {below : List Frame} {meth : Method} {c : Code} {D : va_G} {G : Nat → ClassId} {B : Nat} {p1 : Int32} {p2 : Int32} {r : Int32} {M' : fp_Mem} (E : fp_EV p s m args meth c cX12_takeNumber 4 RX12 (some .int) D G) {M : fp_Mem} {H : Heap} {locs : List Loc} {ls : Array Slot} (hG : fp_H D G B s M H locs) (hl : lv_has ls 4 [(0, .ref (B + 120)), (1, .int p1), (2, .int p2)]) (h : m_X12_takeNumber M p1 p2 = some (r, M')) : W p l e rm_X12_takeNumber s m args below meth c H locs 0 0 (MQ below (fp_Qi D G B r M') args s 0 0 (fp_A B)) (F0 m 0 ls []) := by
  have hx := E.1
  have hb := E.2.1
  have hown := E.2.2.2.1
  unfold m_X12_takeNumber at h
  refine lv_aload_n hx hb dX12_takeNumber_0 rfl (lv_at hl 0 rfl) ?_
  obtain ⟨r_12, M_13, c_14, h⟩ := fp_b2_s h
  refine fp_callVi (As := []) (rest := []) E hG (c_X12_here l D G B c_14) cv_X12_here tw_925 tw_927 ts_17 ⟨rfl, rfl⟩ ⟨Nat.le_of_ble_eq_true rfl, Nat.le_of_ble_eq_true rfl⟩ (fp_recv E hG (by decide) (fp_o12 _) rfl) rfl rfl (Nat.le_of_ble_eq_true rfl) hl.1 dX12_takeNumber_1 ⟨Nat.zero_le _, Nat.zero_le _⟩ (fun H locs hG => ?_)
  refine lv_istore_n (lv' := [(3, .int r_12), (0, .ref (B + 120)), (1, .int p1), (2, .int p2)]) hx hb dX12_takeNumber_4 rfl hl (by decide) rfl (fun ls hl => ?_)
  refine lv_iload_n hx hb dX12_takeNumber_5 rfl (lv_at hl 0 rfl) ?_
  refine lv_i2l hx hb dX12_takeNumber_6 rfl ?_
  refine lv_ldc2 (v := (lN 48)) hx hb hown (fp_tabs E tw_949) dX12_takeNumber_7 ?_
  refine lv_ldc2 (v := (lN 57)) hx hb hown (fp_tabs E tw_950) dX12_takeNumber_10 ?_
  obtain ⟨r_15, c_16, h⟩ := fp_b1_s h
  refine fp_callSi (As := [.long (Int32.toInt64 r_12), .long (lN 48), .long (lN 57)]) (rest := []) E hG (c_X12_in l D G B c_16) cv_X12_in tw_916 tw_917 ⟨rfl, rfl⟩ ⟨Nat.le_of_ble_eq_true rfl, Nat.le_of_ble_eq_true rfl⟩ rfl rfl (Nat.le_of_ble_eq_true rfl) hl.1 dX12_takeNumber_13 ⟨Nat.zero_le _, Nat.zero_le _⟩ (fun H locs hG => ?_)
  refine lv_if_ne (tgt := 29) hx hb dX12_takeNumber_16 (by decide) (fun q => ?_) (fun q => ?_)
  · replace h := fp_ifF q h
    refine lv_aload_n hx hb dX12_takeNumber_29 rfl (lv_at hl 1 rfl) ?_
    refine lv_aload_n hx hb dX12_takeNumber_30 rfl (lv_at hl 1 rfl) ?_
    refine fp_g12_11 E hG tw_816 dX12_takeNumber_31 ?_
    obtain ⟨M_17, eM_17, h⟩ := fp_lt_s h
    refine fp_p12_13 E hG tw_818 dX12_takeNumber_34 (fun H locs hG => ?_)
    replace hG := fp_memH eM_17 hG
    refine lv_aload_n hx hb dX12_takeNumber_37 rfl (lv_at hl 1 rfl) ?_
    refine lv_iconst (v := (nI 0)) hx hb dX12_takeNumber_38 (by decide) ?_
    obtain ⟨M_18, eM_18, h⟩ := fp_lt_s h
    refine fp_p12_12 E hG tw_817 dX12_takeNumber_39 (fun H locs hG => ?_)
    replace hG := fp_memH eM_18 hG
    exact w_X12_takeNumber_42 E   fp_fu _ hG (lv_sub hl [1, 2, 3] rfl) h
  · replace h := fp_ifT q h
    refine lv_aload_n hx hb dX12_takeNumber_19 rfl (lv_at hl 1 rfl) ?_
    refine lv_iconst (v := (nI 1)) hx hb dX12_takeNumber_20 (by decide) ?_
    refine lv_aload_n hx hb dX12_takeNumber_21 rfl (lv_at hl 1 rfl) ?_
    refine fp_g12_11 E hG tw_816 dX12_takeNumber_22 ?_
    obtain ⟨r_19, M_20, c_21, h⟩ := fp_b2_s h
    refine fp_callVi (As := [.int (nI 1), .int (M_13 120 11)]) (rest := []) E hG (c_X12_fails l D G B c_21) cv_X12_fails tw_933 tw_935 ts_19 ⟨rfl, rfl⟩ ⟨Nat.le_of_ble_eq_true rfl, Nat.le_of_ble_eq_true rfl⟩ (fp_recv E hG (by decide) (fp_o12 _) rfl) rfl rfl (Nat.le_of_ble_eq_true rfl) hl.1 dX12_takeNumber_25 ⟨Nat.zero_le _, Nat.zero_le _⟩ (fun H locs hG => ?_)
    exact fp_ireti E hG (fp_pr1 h) (fp_pr2 h) dX12_takeNumber_28
theorem c_X12_takeNumber (l : Launch) (D : va_G) (G : Nat → ClassId) (B : Nat) {M : fp_Mem}  {p1 : Int32} {p2 : Int32} {r : Int32} {M' : fp_Mem}  (h : m_X12_takeNumber M p1 p2 = some (r, M')) : Met l yX12_takeNumber (Cond.code yX12_takeNumber cX12_takeNumber 4 (some .int) :: fp_T) rm_X12_takeNumber (va_Pc [.ref (B + 120), .int p1, .int p2] (fp_GS D G B M)) (fp_Qi D G B r M') 0 0 (fp_A B) :=
  fp_met (own := RX12) (by decide) rfl (Nat.le_of_ble_eq_true rfl) (fun E hG hl => w_X12_takeNumber_0 E  hG hl h)
abbrev rm_X12_into : Room := { frames := 2, cells := 0, slots := 0, locals := 48 }
theorem cv_X12_into : fp_CV yX12_into cX12_into 6 (some .int) 4 := ⟨tw_944, tw_13, by decide, by decide +kernel⟩
set_option maxHeartbeats 2000000 in
theorem w_X12_into_0 {p : Program} {l : Launch} {e : Env} {s : State} {m : MethodId} {args : Array Value} {below : List Frame} {meth : Method} {c : Code} {D : va_G} {G : Nat → ClassId} {B : Nat} {k1 : Nat} {n1 : Nat} {p2 : Int32} {p3 : Int32} {p4 : Int32} {r : Int32} {M' : fp_Mem} (E : fp_EV p s m args meth c cX12_into 6 RX12 (some .int) D G) (hk1 : k1 < 140 ∧ ∀ (G : Nat → ClassId) (B : Nat) (M : fp_Mem), fp_e G B M k1 = .inl (G 0, (n1, .inl (M k1)))) {M : fp_Mem} {H : Heap} {locs : List Loc} {ls : Array Slot} (hG : fp_H D G B s M H locs) (hl : lv_has ls 6 [(0, .ref (B + 120)), (1, .ref (B + k1)), (2, .int p2), (3, .int p3), (4, .int p4)]) (h : m_X12_into M k1 n1 p2 p3 p4 = some (r, M')) : W p l e rm_X12_into s m args below meth c H locs 0 0 (MQ below (fp_Qi D G B r M') args s 0 0 (fp_A B)) (F0 m 0 ls []) := by
  have hx := E.1
  have hb := E.2.1
  have hown := E.2.2.2.1
  unfold m_X12_into at h
  refine lv_aload_n hx hb dX12_into_0 rfl (lv_at hl 0 rfl) ?_
  refine lv_iload_n hx hb dX12_into_1 rfl (lv_at hl 3 rfl) ?_
  refine lv_iload hx hb dX12_into_2 (lv_at hl 4 rfl) ?_
  obtain ⟨r_1, M_2, c_3, h⟩ := fp_b2_s h
  refine fp_callVi (As := [.int p3, .int p4]) (rest := []) E hG (c_X12_takeNumber l D G B c_3) cv_X12_takeNumber tw_945 tw_947 ts_22 ⟨rfl, rfl⟩ ⟨Nat.le_of_ble_eq_true rfl, Nat.le_of_ble_eq_true rfl⟩ (fp_recv E hG (by decide) (fp_o12 _) rfl) rfl rfl (Nat.le_of_ble_eq_true rfl) hl.1 dX12_into_4 ⟨Nat.zero_le _, Nat.zero_le _⟩ (fun H locs hG => ?_)
  refine lv_istore (lv' := [(5, .int r_1), (0, .ref (B + 120)), (1, .ref (B + k1)), (2, .int p2), (3, .int p3), (4, .int p4)]) hx hb dX12_into_7 hl (by decide) rfl (fun ls hl => ?_)
  refine lv_aload_n hx hb dX12_into_9 rfl (lv_at hl 2 rfl) ?_
  refine lv_iload_n hx hb dX12_into_10 rfl (lv_at hl 3 rfl) ?_
  refine lv_aload_n hx hb dX12_into_11 rfl (lv_at hl 1 rfl) ?_
  refine fp_g12_12 E hG tw_817 dX12_into_12 ?_
  obtain ⟨g_4, h⟩ := fp_gd_s h
  obtain ⟨M_5, eM_5, h⟩ := fp_lt_s h
  refine fp_iast E hG hk1.1 (hk1.2 _ _) (fp_in_s g_4) dX12_into_15 (fun H locs hG => ?_)
  replace hG := fp_memH eM_5 hG
  refine lv_iload hx hb dX12_into_16 (lv_at hl 0 rfl) ?_
  exact fp_ireti E hG (fp_pr1 h) (fp_pr2 h) dX12_into_18
theorem c_X12_into (l : Launch) (D : va_G) (G : Nat → ClassId) (B : Nat) {M : fp_Mem} {k1 : Nat} {n1 : Nat} {p2 : Int32} {p3 : Int32} {p4 : Int32} {r : Int32} {M' : fp_Mem} (hk1 : k1 < 140 ∧ ∀ (G : Nat → ClassId) (B : Nat) (M : fp_Mem), fp_e G B M k1 = .inl (G 0, (n1, .inl (M k1)))) (h : m_X12_into M k1 n1 p2 p3 p4 = some (r, M')) : Met l yX12_into (Cond.code yX12_into cX12_into 6 (some .int) :: fp_T) rm_X12_into (va_Pc [.ref (B + 120), .ref (B + k1), .int p2, .int p3, .int p4] (fp_GS D G B M)) (fp_Qi D G B r M') 0 0 (fp_A B) :=
  fp_met (own := RX12) (by decide) rfl (Nat.le_of_ble_eq_true rfl) (fun E hG hl => w_X12_into_0 E hk1 hG hl h)
abbrev rm_X12_takeLaw : Room := { frames := 3, cells := 0, slots := 0, locals := 73 }
theorem cv_X12_takeLaw : fp_CV yX12_takeLaw cX12_takeLaw 2 (some .int) 0 := ⟨tw_940, tw_13, by decide, by decide +kernel⟩
set_option maxHeartbeats 2000000 in
theorem w_X12_takeLaw_38 {p : Program} {l : Launch} {e : Env} {s : State} {m : MethodId} {args : Array Value} {below : List Frame} {meth : Method} {c : Code} {D : va_G} {G : Nat → ClassId} {B : Nat} {r : Int32} {M' : fp_Mem} (E : fp_EV p s m args meth c cX12_takeLaw 2 RX12 (some .int) D G) (s0 : Int32) (M : fp_Mem) {H : Heap} {locs : List Loc} {ls : Array Slot} (hG : fp_H D G B s M H locs) (hl : lv_has ls 2 []) (h : m_X12_takeLaw_38 s0 M = some (r, M')) : W p l e rm_X12_takeLaw s m args below meth c H locs 0 0 (MQ below (fp_Qi D G B r M') args s 0 0 (fp_A B)) (F0 m 38 ls [.int s0]) := by
  have hx := E.1
  have hb := E.2.1
  have hown := E.2.2.2.1
  unfold m_X12_takeLaw_38 at h
  exact fp_ireti E hG (fp_pr1 h) (fp_pr2 h) dX12_takeLaw_38
set_option maxHeartbeats 2000000 in
theorem w_X12_takeLaw_0 {p : Program} {l : Launch} {e : Env} {s : State} {m : MethodId} {args : Array Value} {below : List Frame} {meth : Method} {c : Code} {D : va_G} {G : Nat → ClassId} {B : Nat} {r : Int32} {M' : fp_Mem} (E : fp_EV p s m args meth c cX12_takeLaw 2 RX12 (some .int) D G) {M : fp_Mem} {H : Heap} {locs : List Loc} {ls : Array Slot} (hG : fp_H D G B s M H locs) (hl : lv_has ls 2 [(0, .ref (B + 120))]) (h : m_X12_takeLaw M = some (r, M')) : W p l e rm_X12_takeLaw s m args below meth c H locs 0 0 (MQ below (fp_Qi D G B r M') args s 0 0 (fp_A B)) (F0 m 0 ls []) := by
  have hx := E.1
  have hb := E.2.1
  have hown := E.2.2.2.1
  unfold m_X12_takeLaw at h
  refine lv_aload_n hx hb dX12_takeLaw_0 rfl (lv_at hl 0 rfl) ?_
  refine lv_iconst (v := (nI 1)) hx hb dX12_takeLaw_1 (by decide) ?_
  obtain ⟨M_1, eM_1, h⟩ := fp_lt_s h
  refine fp_p12_14 E hG tw_819 rfl dX12_takeLaw_2 (fun H locs hG => ?_)
  replace hG := fp_memH eM_1 hG
  refine lv_aload_n hx hb dX12_takeLaw_5 rfl (lv_at hl 0 rfl) ?_
  refine lv_aload_n hx hb dX12_takeLaw_6 rfl (lv_at hl 0 rfl) ?_
  refine fp_g12_15 E hG tw_820 dX12_takeLaw_7 ?_
  refine lv_iconst (v := (nI 0)) hx hb dX12_takeLaw_10 (by decide) ?_
  refine lv_iconst (v := (nI 0)) hx hb dX12_takeLaw_11 (by decide) ?_
  refine lv_bipush (v := (nI 99)) hx hb dX12_takeLaw_12 (by decide) ?_
  obtain ⟨r_2, M_3, c_4, h⟩ := fp_b2_s h
  refine fp_callVi (As := [.ref (B + 125), .int (nI 0), .int (nI 0), .int (nI 99)]) (rest := []) E hG (c_X12_into l D G B ⟨fp_cc125.1, fun _ _ => (fp_a26 fp_cc125)⟩ c_4) cv_X12_into tw_941 tw_943 ts_21 ⟨rfl, rfl⟩ ⟨Nat.le_of_ble_eq_true rfl, Nat.le_of_ble_eq_true rfl⟩ (fp_recv E hG (by decide) (fp_o12 _) rfl) rfl rfl (Nat.le_of_ble_eq_true rfl) hl.1 dX12_takeLaw_14 ⟨Nat.zero_le _, Nat.zero_le _⟩ (fun H locs hG => ?_)
  refine lv_istore_n (lv' := [(1, .int r_2), (0, .ref (B + 120))]) hx hb dX12_takeLaw_17 rfl hl (by decide) rfl (fun ls hl => ?_)
  refine lv_iload_n hx hb dX12_takeLaw_18 rfl (lv_at hl 0 rfl) ?_
  refine lv_if_le (tgt := 26) hx hb dX12_takeLaw_19 (by decide) (fun q => ?_) (fun q => ?_)
  · replace h := fp_ifT q h
    refine lv_aload_n hx hb dX12_takeLaw_26 rfl (lv_at hl 1 rfl) ?_
    refine lv_aload_n hx hb dX12_takeLaw_27 rfl (lv_at hl 1 rfl) ?_
    refine fp_g12_15 E hG tw_820 dX12_takeLaw_28 ?_
    refine lv_iconst (v := (nI 1)) hx hb dX12_takeLaw_31 (by decide) ?_
    refine lv_iconst (v := (nI 0)) hx hb dX12_takeLaw_32 (by decide) ?_
    refine lv_bipush (v := (nI 99)) hx hb dX12_takeLaw_33 (by decide) ?_
    obtain ⟨r_5, M_6, c_7, h⟩ := fp_b2_s h
    refine fp_callVi (As := [.ref (B + 125), .int (nI 1), .int (nI 0), .int (nI 99)]) (rest := []) E hG (c_X12_into l D G B ⟨fp_cc125.1, fun _ _ => (fp_a26 fp_cc125)⟩ c_7) cv_X12_into tw_941 tw_943 ts_21 ⟨rfl, rfl⟩ ⟨Nat.le_of_ble_eq_true rfl, Nat.le_of_ble_eq_true rfl⟩ (fp_recv E hG (by decide) (fp_o12 _) rfl) rfl rfl (Nat.le_of_ble_eq_true rfl) hl.1 dX12_takeLaw_35 ⟨Nat.zero_le _, Nat.zero_le _⟩ (fun H locs hG => ?_)
    exact w_X12_takeLaw_38 E   _ _ hG (lv_sub hl [] rfl) h
  · replace h := fp_ifF q h
    refine lv_iload_n hx hb dX12_takeLaw_22 rfl (lv_at hl 0 rfl) ?_
    refine lv_goto (tgt := 38) hx hb dX12_takeLaw_23 (by decide) ?_
    exact w_X12_takeLaw_38 E   _ _ hG (lv_sub hl [] rfl) h
theorem c_X12_takeLaw (l : Launch) (D : va_G) (G : Nat → ClassId) (B : Nat) {M : fp_Mem}   {r : Int32} {M' : fp_Mem}  (h : m_X12_takeLaw M = some (r, M')) : Met l yX12_takeLaw (Cond.code yX12_takeLaw cX12_takeLaw 2 (some .int) :: fp_T) rm_X12_takeLaw (va_Pc [.ref (B + 120)] (fp_GS D G B M)) (fp_Qi D G B r M') 0 0 (fp_A B) :=
  fp_met (own := RX12) (by decide) rfl (Nat.le_of_ble_eq_true rfl) (fun E hG hl => w_X12_takeLaw_0 E  hG hl h)
abbrev rm_X12_takeTable : Room := { frames := 3, cells := 0, slots := 0, locals := 73 }
theorem cv_X12_takeTable : fp_CV yX12_takeTable cX12_takeTable 3 (some .int) 0 := ⟨tw_954, tw_13, by decide, by decide +kernel⟩
set_option maxHeartbeats 2000000 in
theorem w_X12_takeTable_52 {p : Program} {l : Launch} {e : Env} {s : State} {m : MethodId} {args : Array Value} {below : List Frame} {meth : Method} {c : Code} {D : va_G} {G : Nat → ClassId} {B : Nat} {r : Int32} {M' : fp_Mem} (E : fp_EV p s m args meth c cX12_takeTable 3 RX12 (some .int) D G) (s0 : Int32) (M : fp_Mem) {H : Heap} {locs : List Loc} {ls : Array Slot} (hG : fp_H D G B s M H locs) (hl : lv_has ls 3 []) (h : m_X12_takeTable_52 s0 M = some (r, M')) : W p l e rm_X12_takeTable s m args below meth c H locs 0 0 (MQ below (fp_Qi D G B r M') args s 0 0 (fp_A B)) (F0 m 52 ls [.int s0]) := by
  have hx := E.1
  have hb := E.2.1
  have hown := E.2.2.2.1
  unfold m_X12_takeTable_52 at h
  exact fp_ireti E hG (fp_pr1 h) (fp_pr2 h) dX12_takeTable_52
set_option maxHeartbeats 2000000 in
theorem w_X12_takeTable_0 {p : Program} {l : Launch} {e : Env} {s : State} {m : MethodId} {args : Array Value} {below : List Frame} {meth : Method} {c : Code} {D : va_G} {G : Nat → ClassId} {B : Nat} {r : Int32} {M' : fp_Mem} (E : fp_EV p s m args meth c cX12_takeTable 3 RX12 (some .int) D G) {M : fp_Mem} {H : Heap} {locs : List Loc} {ls : Array Slot} (hG : fp_H D G B s M H locs) (hl : lv_has ls 3 [(0, .ref (B + 120))]) (h : m_X12_takeTable M = some (r, M')) : W p l e rm_X12_takeTable s m args below meth c H locs 0 0 (MQ below (fp_Qi D G B r M') args s 0 0 (fp_A B)) (F0 m 0 ls []) := by
  have hx := E.1
  have hb := E.2.1
  have hown := E.2.2.2.1
  unfold m_X12_takeTable at h
  refine lv_aload_n hx hb dX12_takeTable_0 rfl (lv_at hl 0 rfl) ?_
  refine fp_g12_16 E hG tw_821 dX12_takeTable_1 ?_
  obtain ⟨x_1, ex_1, h⟩ := fp_lt_s h
  refine fp_top ex_1 ?_
  refine lv_istore_n (lv' := [(1, .int x_1), (0, .ref (B + 120))]) hx hb dX12_takeTable_4 rfl hl (by decide) rfl (fun ls hl => ?_)
  refine lv_aload_n hx hb dX12_takeTable_5 rfl (lv_at hl 1 rfl) ?_
  refine lv_dup hx hb dX12_takeTable_6 rfl ?_
  refine fp_g12_16 E hG tw_821 dX12_takeTable_7 ?_
  refine lv_iconst (v := (nI 1)) hx hb dX12_takeTable_10 (by decide) ?_
  refine lv_iadd hx hb dX12_takeTable_11 ?_
  obtain ⟨M_2, eM_2, h⟩ := fp_lt_s h
  refine fp_p12_16 E hG tw_821 dX12_takeTable_12 (fun H locs hG => ?_)
  replace hG := fp_memH eM_2 hG
  refine lv_aload_n hx hb dX12_takeTable_15 rfl (lv_at hl 1 rfl) ?_
  refine lv_aload_n hx hb dX12_takeTable_16 rfl (lv_at hl 1 rfl) ?_
  refine fp_g12_17 E hG tw_822 dX12_takeTable_17 ?_
  refine lv_iload_n hx hb dX12_takeTable_20 rfl (lv_at hl 0 rfl) ?_
  refine lv_iconst (v := (nI 1)) hx hb dX12_takeTable_21 (by decide) ?_
  refine lv_bipush (v := (nI 12)) hx hb dX12_takeTable_22 (by decide) ?_
  obtain ⟨r_3, M_4, c_5, h⟩ := fp_b2_s h
  refine fp_callVi (As := [.ref (B + 126), .int x_1, .int (nI 1), .int (nI 12)]) (rest := []) E hG (c_X12_into l D G B ⟨fp_cc126.1, fun _ _ => (fp_a20 fp_cc126)⟩ c_5) cv_X12_into tw_941 tw_943 ts_21 ⟨rfl, rfl⟩ ⟨Nat.le_of_ble_eq_true rfl, Nat.le_of_ble_eq_true rfl⟩ (fp_recv E hG (by decide) (fp_o12 _) rfl) rfl rfl (Nat.le_of_ble_eq_true rfl) hl.1 dX12_takeTable_24 ⟨Nat.zero_le _, Nat.zero_le _⟩ (fun H locs hG => ?_)
  refine lv_istore_n (lv' := [(2, .int r_3), (1, .int x_1), (0, .ref (B + 120))]) hx hb dX12_takeTable_27 rfl hl (by decide) rfl (fun ls hl => ?_)
  refine lv_iload_n hx hb dX12_takeTable_28 rfl (lv_at hl 0 rfl) ?_
  refine lv_if_le (tgt := 36) hx hb dX12_takeTable_29 (by decide) (fun q => ?_) (fun q => ?_)
  · replace h := fp_ifT q h
    refine lv_aload_n hx hb dX12_takeTable_36 rfl (lv_at hl 2 rfl) ?_
    refine lv_aload_n hx hb dX12_takeTable_37 rfl (lv_at hl 2 rfl) ?_
    refine fp_g12_18 E hG tw_823 dX12_takeTable_38 ?_
    refine lv_iload_n hx hb dX12_takeTable_41 rfl (lv_at hl 1 rfl) ?_
    refine lv_iconst (v := (nI 0)) hx hb dX12_takeTable_42 (by decide) ?_
    refine lv_aload_n hx hb dX12_takeTable_43 rfl (lv_at hl 2 rfl) ?_
    refine fp_g12_17 E hG tw_822 dX12_takeTable_44 ?_
    refine lv_iload_n hx hb dX12_takeTable_47 rfl (lv_at hl 1 rfl) ?_
    obtain ⟨g_6, h⟩ := fp_gd_s h
    refine fp_iald E hG fp_cc126.1 (fp_a20 fp_cc126) (fp_in_s g_6) dX12_takeTable_48 ?_
    obtain ⟨r_7, M_8, c_9, h⟩ := fp_b2_s h
    refine fp_callVi (As := [.ref (B + 127), .int x_1, .int (nI 0), .int (M_4 126 (Int32.toNatClampNeg x_1))]) (rest := []) E hG (c_X12_into l D G B ⟨fp_cc127.1, fun _ _ => (fp_a20 fp_cc127)⟩ c_9) cv_X12_into tw_941 tw_943 ts_21 ⟨rfl, rfl⟩ ⟨Nat.le_of_ble_eq_true rfl, Nat.le_of_ble_eq_true rfl⟩ (fp_recv E hG (by decide) (fp_o12 _) rfl) rfl rfl (Nat.le_of_ble_eq_true rfl) hl.1 dX12_takeTable_49 ⟨Nat.zero_le _, Nat.zero_le _⟩ (fun H locs hG => ?_)
    exact w_X12_takeTable_52 E   _ _ hG (lv_sub hl [] rfl) h
  · replace h := fp_ifF q h
    refine lv_iload_n hx hb dX12_takeTable_32 rfl (lv_at hl 0 rfl) ?_
    refine lv_goto (tgt := 52) hx hb dX12_takeTable_33 (by decide) ?_
    exact w_X12_takeTable_52 E   _ _ hG (lv_sub hl [] rfl) h
theorem c_X12_takeTable (l : Launch) (D : va_G) (G : Nat → ClassId) (B : Nat) {M : fp_Mem}   {r : Int32} {M' : fp_Mem}  (h : m_X12_takeTable M = some (r, M')) : Met l yX12_takeTable (Cond.code yX12_takeTable cX12_takeTable 3 (some .int) :: fp_T) rm_X12_takeTable (va_Pc [.ref (B + 120)] (fp_GS D G B M)) (fp_Qi D G B r M') 0 0 (fp_A B) :=
  fp_met (own := RX12) (by decide) rfl (Nat.le_of_ble_eq_true rfl) (fun E hG hl => w_X12_takeTable_0 E  hG hl h)
abbrev rm_X12_isWayAlready : Room := { frames := 0, cells := 0, slots := 0, locals := 0 }
theorem cv_X12_isWayAlready : fp_CV yX12_isWayAlready cX12_isWayAlready 6 (some .boolean) 1 := ⟨tw_962, tw_13, by decide, by decide +kernel⟩
set_option maxHeartbeats 2000000 in
theorem w_X12_isWayAlready_121 {p : Program} {l : Launch} {e : Env} {s : State} {m : MethodId} {args : Array Value} {below : List Frame} {meth : Method} {c : Code} {D : va_G} {G : Nat → ClassId} {B : Nat} {M : fp_Mem} {p1 : Int32} {K23 : Int32 → Int32 → Option (Int32)} {r : Int32} (E : fp_EV p s m args meth c cX12_isWayAlready 6 RX12 (some .boolean) D G) (HK23 : ∀ (wv2 : Int32) (wv3 : Int32) {H : Heap} {locs : List Loc} {ls : Array Slot}, fp_H D G B s M H locs → lv_has ls 6 [(0, .ref (B + 120)), (1, .int p1), (2, .int wv2), (3, .int wv3)] → K23 wv2 wv3 = some r → W p l e rm_X12_isWayAlready s m args below meth c H locs 0 0 (MQ below (fp_Qi D G B r M) args s 0 0 (fp_A B)) (F0 m 23 ls [])) (v3 : Int32) (s0 : Int32) {H : Heap} {locs : List Loc} {ls : Array Slot} (hG : fp_H D G B s M H locs) (hl : lv_has ls 6 [(0, .ref (B + 120)), (1, .int p1), (3, .int v3)]) (h : m_X12_isWayAlready_121 M p1 K23 v3 s0 = some r) : W p l e rm_X12_isWayAlready s m args below meth c H locs 0 0 (MQ below (fp_Qi D G B r M) args s 0 0 (fp_A B)) (F0 m 121 ls [.int s0]) := by
  have hx := E.1
  have hb := E.2.1
  have hown := E.2.2.2.1
  unfold m_X12_isWayAlready_121 at h
  refine lv_istore_n (lv' := [(2, .int s0), (0, .ref (B + 120)), (1, .int p1), (3, .int v3)]) hx hb dX12_isWayAlready_121 rfl hl (by decide) rfl (fun ls hl => ?_)
  obtain ⟨x_1, ex_1, h⟩ := fp_lt_s h
  refine lv_iinc (v := x_1) (lv' := [(3, .int x_1), (2, .int s0), (0, .ref (B + 120)), (1, .int p1)]) hx hb dX12_isWayAlready_122 hl (k := 3) rfl (by rw [ex_1]; rfl) (by decide) rfl (fun ls hl => ?_)
  refine lv_goto (tgt := 23) hx hb dX12_isWayAlready_125 (by decide) ?_
  exact HK23 _ _ hG (lv_sub hl [2, 3, 1, 0] rfl) h
set_option maxHeartbeats 2000000 in
theorem w_X12_isWayAlready_116 {p : Program} {l : Launch} {e : Env} {s : State} {m : MethodId} {args : Array Value} {below : List Frame} {meth : Method} {c : Code} {D : va_G} {G : Nat → ClassId} {B : Nat} {M : fp_Mem} {p1 : Int32} {K23 : Int32 → Int32 → Option (Int32)} {r : Int32} (E : fp_EV p s m args meth c cX12_isWayAlready 6 RX12 (some .boolean) D G) (HK23 : ∀ (wv2 : Int32) (wv3 : Int32) {H : Heap} {locs : List Loc} {ls : Array Slot}, fp_H D G B s M H locs → lv_has ls 6 [(0, .ref (B + 120)), (1, .int p1), (2, .int wv2), (3, .int wv3)] → K23 wv2 wv3 = some r → W p l e rm_X12_isWayAlready s m args below meth c H locs 0 0 (MQ below (fp_Qi D G B r M) args s 0 0 (fp_A B)) (F0 m 23 ls [])) (v3 : Int32) {H : Heap} {locs : List Loc} {ls : Array Slot} (hG : fp_H D G B s M H locs) (hl : lv_has ls 6 [(0, .ref (B + 120)), (1, .int p1), (3, .int v3)]) (h : m_X12_isWayAlready_116 M p1 K23 v3 = some r) : W p l e rm_X12_isWayAlready s m args below meth c H locs 0 0 (MQ below (fp_Qi D G B r M) args s 0 0 (fp_A B)) (F0 m 116 ls []) := by
  have hx := E.1
  have hb := E.2.1
  have hown := E.2.2.2.1
  unfold m_X12_isWayAlready_116 at h
  refine lv_iconst (v := (nI 1)) hx hb dX12_isWayAlready_116 (by decide) ?_
  refine lv_goto (tgt := 121) hx hb dX12_isWayAlready_117 (by decide) ?_
  exact w_X12_isWayAlready_121 E  HK23 _ _ hG (lv_sub hl [0, 1, 2] rfl) h
set_option maxHeartbeats 2000000 in
theorem w_X12_isWayAlready_100 {p : Program} {l : Launch} {e : Env} {s : State} {m : MethodId} {args : Array Value} {below : List Frame} {meth : Method} {c : Code} {D : va_G} {G : Nat → ClassId} {B : Nat} {M : fp_Mem} {p1 : Int32} {K23 : Int32 → Int32 → Option (Int32)} {r : Int32} (E : fp_EV p s m args meth c cX12_isWayAlready 6 RX12 (some .boolean) D G) (HK23 : ∀ (wv2 : Int32) (wv3 : Int32) {H : Heap} {locs : List Loc} {ls : Array Slot}, fp_H D G B s M H locs → lv_has ls 6 [(0, .ref (B + 120)), (1, .int p1), (2, .int wv2), (3, .int wv3)] → K23 wv2 wv3 = some r → W p l e rm_X12_isWayAlready s m args below meth c H locs 0 0 (MQ below (fp_Qi D G B r M) args s 0 0 (fp_A B)) (F0 m 23 ls [])) (v2 : Int32) (v3 : Int32) (v4 : Int32) (s0 : Int32) {H : Heap} {locs : List Loc} {ls : Array Slot} (hG : fp_H D G B s M H locs) (hl : lv_has ls 6 [(0, .ref (B + 120)), (1, .int p1), (2, .int v2), (3, .int v3), (4, .int v4)]) (h : m_X12_isWayAlready_100 M p1 K23 v2 v3 v4 s0 = some r) : W p l e rm_X12_isWayAlready s m args below meth c H locs 0 0 (MQ below (fp_Qi D G B r M) args s 0 0 (fp_A B)) (F0 m 100 ls [.int s0]) := by
  have hx := E.1
  have hb := E.2.1
  have hown := E.2.2.2.1
  unfold m_X12_isWayAlready_100 at h
  refine lv_istore (lv' := [(5, .int s0), (0, .ref (B + 120)), (1, .int p1), (2, .int v2), (3, .int v3), (4, .int v4)]) hx hb dX12_isWayAlready_100 hl (by decide) rfl (fun ls hl => ?_)
  refine lv_iload_n hx hb dX12_isWayAlready_102 rfl (lv_at hl 3 rfl) ?_
  refine lv_if_ne (tgt := 116) hx hb dX12_isWayAlready_103 (by decide) (fun q => ?_) (fun q => ?_)
  · replace h := fp_ifF q h
    exact w_X12_isWayAlready_116 E  HK23 _ hG (lv_sub hl [1, 2, 4] rfl) h
  · replace h := fp_ifT q h
    refine lv_iload hx hb dX12_isWayAlready_106 (lv_at hl 5 rfl) ?_
    refine lv_if_ne (tgt := 116) hx hb dX12_isWayAlready_108 (by decide) (fun q => ?_) (fun q => ?_)
    · replace h := fp_ifF q h
      exact w_X12_isWayAlready_116 E  HK23 _ hG (lv_sub hl [1, 2, 4] rfl) h
    · replace h := fp_ifT q h
      refine lv_iload hx hb dX12_isWayAlready_111 (lv_at hl 0 rfl) ?_
      refine lv_if_eq (tgt := 120) hx hb dX12_isWayAlready_113 (by decide) (fun q => ?_) (fun q => ?_)
      · replace h := fp_ifT q h
        refine lv_iconst (v := (nI 0)) hx hb dX12_isWayAlready_120 (by decide) ?_
        exact w_X12_isWayAlready_121 E  HK23 _ _ hG (lv_sub hl [1, 2, 4] rfl) h
      · replace h := fp_ifF q h
        exact w_X12_isWayAlready_116 E  HK23 _ hG (lv_sub hl [1, 2, 4] rfl) h
set_option maxHeartbeats 2000000 in
theorem w_X12_isWayAlready_99 {p : Program} {l : Launch} {e : Env} {s : State} {m : MethodId} {args : Array Value} {below : List Frame} {meth : Method} {c : Code} {D : va_G} {G : Nat → ClassId} {B : Nat} {M : fp_Mem} {p1 : Int32} {K23 : Int32 → Int32 → Option (Int32)} {r : Int32} (E : fp_EV p s m args meth c cX12_isWayAlready 6 RX12 (some .boolean) D G) (HK23 : ∀ (wv2 : Int32) (wv3 : Int32) {H : Heap} {locs : List Loc} {ls : Array Slot}, fp_H D G B s M H locs → lv_has ls 6 [(0, .ref (B + 120)), (1, .int p1), (2, .int wv2), (3, .int wv3)] → K23 wv2 wv3 = some r → W p l e rm_X12_isWayAlready s m args below meth c H locs 0 0 (MQ below (fp_Qi D G B r M) args s 0 0 (fp_A B)) (F0 m 23 ls [])) (v2 : Int32) (v3 : Int32) (v4 : Int32) {H : Heap} {locs : List Loc} {ls : Array Slot} (hG : fp_H D G B s M H locs) (hl : lv_has ls 6 [(0, .ref (B + 120)), (1, .int p1), (2, .int v2), (3, .int v3), (4, .int v4)]) (h : m_X12_isWayAlready_99 M p1 K23 v2 v3 v4 = some r) : W p l e rm_X12_isWayAlready s m args below meth c H locs 0 0 (MQ below (fp_Qi D G B r M) args s 0 0 (fp_A B)) (F0 m 99 ls []) := by
  have hx := E.1
  have hb := E.2.1
  have hown := E.2.2.2.1
  unfold m_X12_isWayAlready_99 at h
  refine lv_iconst (v := (nI 0)) hx hb dX12_isWayAlready_99 (by decide) ?_
  exact w_X12_isWayAlready_100 E  HK23 _ _ _ _ hG (lv_sub hl [0, 1, 2, 3, 4] rfl) h
set_option maxHeartbeats 2000000 in
theorem w_X12_isWayAlready_63 {p : Program} {l : Launch} {e : Env} {s : State} {m : MethodId} {args : Array Value} {below : List Frame} {meth : Method} {c : Code} {D : va_G} {G : Nat → ClassId} {B : Nat} {M : fp_Mem} {p1 : Int32} {K23 : Int32 → Int32 → Option (Int32)} {r : Int32} (E : fp_EV p s m args meth c cX12_isWayAlready 6 RX12 (some .boolean) D G) (HK23 : ∀ (wv2 : Int32) (wv3 : Int32) {H : Heap} {locs : List Loc} {ls : Array Slot}, fp_H D G B s M H locs → lv_has ls 6 [(0, .ref (B + 120)), (1, .int p1), (2, .int wv2), (3, .int wv3)] → K23 wv2 wv3 = some r → W p l e rm_X12_isWayAlready s m args below meth c H locs 0 0 (MQ below (fp_Qi D G B r M) args s 0 0 (fp_A B)) (F0 m 23 ls [])) (v2 : Int32) (v3 : Int32) (s0 : Int32) {H : Heap} {locs : List Loc} {ls : Array Slot} (hG : fp_H D G B s M H locs) (hl : lv_has ls 6 [(0, .ref (B + 120)), (1, .int p1), (2, .int v2), (3, .int v3)]) (h : m_X12_isWayAlready_63 M p1 K23 v2 v3 s0 = some r) : W p l e rm_X12_isWayAlready s m args below meth c H locs 0 0 (MQ below (fp_Qi D G B r M) args s 0 0 (fp_A B)) (F0 m 63 ls [.int s0]) := by
  have hx := E.1
  have hb := E.2.1
  have hown := E.2.2.2.1
  unfold m_X12_isWayAlready_63 at h
  refine lv_istore (lv' := [(4, .int s0), (0, .ref (B + 120)), (1, .int p1), (2, .int v2), (3, .int v3)]) hx hb dX12_isWayAlready_63 hl (by decide) rfl (fun ls hl => ?_)
  refine lv_aload_n hx hb dX12_isWayAlready_65 rfl (lv_at hl 1 rfl) ?_
  refine fp_g12_20 E hG tw_825 dX12_isWayAlready_66 ?_
  refine lv_iload_n hx hb dX12_isWayAlready_69 rfl (lv_at hl 4 rfl) ?_
  obtain ⟨g_2, h⟩ := fp_gd_s h
  refine fp_iald E hG fp_cc128.1 (fp_a21 fp_cc128) (fp_in_s g_2) dX12_isWayAlready_70 ?_
  refine lv_aload_n hx hb dX12_isWayAlready_71 rfl (lv_at hl 1 rfl) ?_
  refine fp_g12_21 E hG tw_826 dX12_isWayAlready_72 ?_
  refine lv_iload_n hx hb dX12_isWayAlready_75 rfl (lv_at hl 2 rfl) ?_
  obtain ⟨g_3, h⟩ := fp_gd_s h
  refine fp_iald E hG fp_cc129.1 (fp_a21 fp_cc129) (fp_in_s g_3) dX12_isWayAlready_76 ?_
  refine lv_icmp_ne (tgt := 99) hx hb dX12_isWayAlready_77 (by decide) (fun q => ?_) (fun q => ?_)
  · replace h := fp_ifF q h
    exact w_X12_isWayAlready_99 E  HK23 _ _ _ hG (lv_sub hl [1, 2, 3, 4, 0] rfl) h
  · replace h := fp_ifT q h
    refine lv_aload_n hx hb dX12_isWayAlready_80 rfl (lv_at hl 1 rfl) ?_
    refine fp_g12_21 E hG tw_826 dX12_isWayAlready_81 ?_
    refine lv_iload_n hx hb dX12_isWayAlready_84 rfl (lv_at hl 4 rfl) ?_
    obtain ⟨g_4, h⟩ := fp_gd_s h
    refine fp_iald E hG fp_cc129.1 (fp_a21 fp_cc129) (fp_in_s g_4) dX12_isWayAlready_85 ?_
    refine lv_aload_n hx hb dX12_isWayAlready_86 rfl (lv_at hl 1 rfl) ?_
    refine fp_g12_20 E hG tw_825 dX12_isWayAlready_87 ?_
    refine lv_iload_n hx hb dX12_isWayAlready_90 rfl (lv_at hl 2 rfl) ?_
    obtain ⟨g_5, h⟩ := fp_gd_s h
    refine fp_iald E hG fp_cc128.1 (fp_a21 fp_cc128) (fp_in_s g_5) dX12_isWayAlready_91 ?_
    refine lv_icmp_ne (tgt := 99) hx hb dX12_isWayAlready_92 (by decide) (fun q => ?_) (fun q => ?_)
    · replace h := fp_ifF q h
      exact w_X12_isWayAlready_99 E  HK23 _ _ _ hG (lv_sub hl [1, 2, 3, 4, 0] rfl) h
    · replace h := fp_ifT q h
      refine lv_iconst (v := (nI 1)) hx hb dX12_isWayAlready_95 (by decide) ?_
      refine lv_goto (tgt := 100) hx hb dX12_isWayAlready_96 (by decide) ?_
      exact w_X12_isWayAlready_100 E  HK23 _ _ _ _ hG (lv_sub hl [1, 2, 3, 4, 0] rfl) h
set_option maxHeartbeats 2000000 in
theorem w_X12_isWayAlready_62 {p : Program} {l : Launch} {e : Env} {s : State} {m : MethodId} {args : Array Value} {below : List Frame} {meth : Method} {c : Code} {D : va_G} {G : Nat → ClassId} {B : Nat} {M : fp_Mem} {p1 : Int32} {K23 : Int32 → Int32 → Option (Int32)} {r : Int32} (E : fp_EV p s m args meth c cX12_isWayAlready 6 RX12 (some .boolean) D G) (HK23 : ∀ (wv2 : Int32) (wv3 : Int32) {H : Heap} {locs : List Loc} {ls : Array Slot}, fp_H D G B s M H locs → lv_has ls 6 [(0, .ref (B + 120)), (1, .int p1), (2, .int wv2), (3, .int wv3)] → K23 wv2 wv3 = some r → W p l e rm_X12_isWayAlready s m args below meth c H locs 0 0 (MQ below (fp_Qi D G B r M) args s 0 0 (fp_A B)) (F0 m 23 ls [])) (v2 : Int32) (v3 : Int32) {H : Heap} {locs : List Loc} {ls : Array Slot} (hG : fp_H D G B s M H locs) (hl : lv_has ls 6 [(0, .ref (B + 120)), (1, .int p1), (2, .int v2), (3, .int v3)]) (h : m_X12_isWayAlready_62 M p1 K23 v2 v3 = some r) : W p l e rm_X12_isWayAlready s m args below meth c H locs 0 0 (MQ below (fp_Qi D G B r M) args s 0 0 (fp_A B)) (F0 m 62 ls []) := by
  have hx := E.1
  have hb := E.2.1
  have hown := E.2.2.2.1
  unfold m_X12_isWayAlready_62 at h
  refine lv_iconst (v := (nI 0)) hx hb dX12_isWayAlready_62 (by decide) ?_
  exact w_X12_isWayAlready_63 E  HK23 _ _ _ hG (lv_sub hl [0, 1, 2, 3] rfl) h
set_option maxHeartbeats 2000000 in
theorem w_X12_isWayAlready_23 {p : Program} {l : Launch} {e : Env} {s : State} {m : MethodId} {args : Array Value} {below : List Frame} {meth : Method} {c : Code} {D : va_G} {G : Nat → ClassId} {B : Nat} {M : fp_Mem} {p1 : Int32} {r : Int32} (E : fp_EV p s m args meth c cX12_isWayAlready 6 RX12 (some .boolean) D G) : ∀ (n : Nat) (v2 : Int32) (v3 : Int32) {H : Heap} {locs : List Loc} {ls : Array Slot}, fp_H D G B s M H locs → lv_has ls 6 [(0, .ref (B + 120)), (1, .int p1), (2, .int v2), (3, .int v3)] → m_X12_isWayAlready_23 M p1 n v2 v3 = some r → W p l e rm_X12_isWayAlready s m args below meth c H locs 0 0 (MQ below (fp_Qi D G B r M) args s 0 0 (fp_A B)) (F0 m 23 ls []) := by
  have hx := E.1
  have hb := E.2.1
  have hown := E.2.2.2.1
  intro n
  induction n with
  | zero =>
    intro v2 v3 H locs ls hG hl h
    exact nomatch h
  | succ n ih =>
    have ihK := @ih
    intro v2 v3 H locs ls hG hl h
    rw [m_X12_isWayAlready_23] at h
    refine lv_iload_n hx hb dX12_isWayAlready_23 rfl (lv_at hl 3 rfl) ?_
    refine lv_iload_n hx hb dX12_isWayAlready_24 rfl (lv_at hl 1 rfl) ?_
    refine lv_icmp_ge (tgt := 128) hx hb dX12_isWayAlready_25 (by decide) (fun q => ?_) (fun q => ?_)
    · replace h := fp_ifT q h
      refine lv_iload_n hx hb dX12_isWayAlready_128 rfl (lv_at hl 2 rfl) ?_
      obtain ⟨g_6, h⟩ := fp_gd_s h
      exact fp_iretz E hG g_6 (Option.some.inj h) rfl dX12_isWayAlready_129
    · replace h := fp_ifF q h
      refine lv_aload_n hx hb dX12_isWayAlready_28 rfl (lv_at hl 0 rfl) ?_
      refine fp_g12_20 E hG tw_825 dX12_isWayAlready_29 ?_
      refine lv_iload_n hx hb dX12_isWayAlready_32 rfl (lv_at hl 3 rfl) ?_
      obtain ⟨g_7, h⟩ := fp_gd_s h
      refine fp_iald E hG fp_cc128.1 (fp_a21 fp_cc128) (fp_in_s g_7) dX12_isWayAlready_33 ?_
      refine lv_aload_n hx hb dX12_isWayAlready_34 rfl (lv_at hl 0 rfl) ?_
      refine fp_g12_20 E hG tw_825 dX12_isWayAlready_35 ?_
      refine lv_iload_n hx hb dX12_isWayAlready_38 rfl (lv_at hl 1 rfl) ?_
      obtain ⟨g_8, h⟩ := fp_gd_s h
      refine fp_iald E hG fp_cc128.1 (fp_a21 fp_cc128) (fp_in_s g_8) dX12_isWayAlready_39 ?_
      refine lv_icmp_ne (tgt := 62) hx hb dX12_isWayAlready_40 (by decide) (fun q => ?_) (fun q => ?_)
      · replace h := fp_ifF q h
        exact w_X12_isWayAlready_62 E  ihK _ _ hG (lv_sub hl [0, 1, 2, 3] rfl) h
      · replace h := fp_ifT q h
        refine lv_aload_n hx hb dX12_isWayAlready_43 rfl (lv_at hl 0 rfl) ?_
        refine fp_g12_21 E hG tw_826 dX12_isWayAlready_44 ?_
        refine lv_iload_n hx hb dX12_isWayAlready_47 rfl (lv_at hl 3 rfl) ?_
        obtain ⟨g_9, h⟩ := fp_gd_s h
        refine fp_iald E hG fp_cc129.1 (fp_a21 fp_cc129) (fp_in_s g_9) dX12_isWayAlready_48 ?_
        refine lv_aload_n hx hb dX12_isWayAlready_49 rfl (lv_at hl 0 rfl) ?_
        refine fp_g12_21 E hG tw_826 dX12_isWayAlready_50 ?_
        refine lv_iload_n hx hb dX12_isWayAlready_53 rfl (lv_at hl 1 rfl) ?_
        obtain ⟨g_10, h⟩ := fp_gd_s h
        refine fp_iald E hG fp_cc129.1 (fp_a21 fp_cc129) (fp_in_s g_10) dX12_isWayAlready_54 ?_
        refine lv_icmp_ne (tgt := 62) hx hb dX12_isWayAlready_55 (by decide) (fun q => ?_) (fun q => ?_)
        · replace h := fp_ifF q h
          exact w_X12_isWayAlready_62 E  ihK _ _ hG (lv_sub hl [0, 1, 2, 3] rfl) h
        · replace h := fp_ifT q h
          refine lv_iconst (v := (nI 1)) hx hb dX12_isWayAlready_58 (by decide) ?_
          refine lv_goto (tgt := 63) hx hb dX12_isWayAlready_59 (by decide) ?_
          exact w_X12_isWayAlready_63 E  ihK _ _ _ hG (lv_sub hl [0, 1, 2, 3] rfl) h
set_option maxHeartbeats 2000000 in
theorem w_X12_isWayAlready_20 {p : Program} {l : Launch} {e : Env} {s : State} {m : MethodId} {args : Array Value} {below : List Frame} {meth : Method} {c : Code} {D : va_G} {G : Nat → ClassId} {B : Nat} {M : fp_Mem} {p1 : Int32} {r : Int32} (E : fp_EV p s m args meth c cX12_isWayAlready 6 RX12 (some .boolean) D G) (s0 : Int32) {H : Heap} {locs : List Loc} {ls : Array Slot} (hG : fp_H D G B s M H locs) (hl : lv_has ls 6 [(0, .ref (B + 120)), (1, .int p1)]) (h : m_X12_isWayAlready_20 M p1 s0 = some r) : W p l e rm_X12_isWayAlready s m args below meth c H locs 0 0 (MQ below (fp_Qi D G B r M) args s 0 0 (fp_A B)) (F0 m 20 ls [.int s0]) := by
  have hx := E.1
  have hb := E.2.1
  have hown := E.2.2.2.1
  unfold m_X12_isWayAlready_20 at h
  refine lv_istore_n (lv' := [(2, .int s0), (0, .ref (B + 120)), (1, .int p1)]) hx hb dX12_isWayAlready_20 rfl hl (by decide) rfl (fun ls hl => ?_)
  refine lv_iconst (v := (nI 0)) hx hb dX12_isWayAlready_21 (by decide) ?_
  refine lv_istore_n (lv' := [(3, .int (nI 0)), (2, .int s0), (0, .ref (B + 120)), (1, .int p1)]) hx hb dX12_isWayAlready_22 rfl hl (by decide) rfl (fun ls hl => ?_)
  exact w_X12_isWayAlready_23 E   fp_fu _ _ hG (lv_sub hl [2, 3, 1, 0] rfl) h
set_option maxHeartbeats 2000000 in
theorem w_X12_isWayAlready_0 {p : Program} {l : Launch} {e : Env} {s : State} {m : MethodId} {args : Array Value} {below : List Frame} {meth : Method} {c : Code} {D : va_G} {G : Nat → ClassId} {B : Nat} {M : fp_Mem} {p1 : Int32} {r : Int32} (E : fp_EV p s m args meth c cX12_isWayAlready 6 RX12 (some .boolean) D G) {H : Heap} {locs : List Loc} {ls : Array Slot} (hG : fp_H D G B s M H locs) (hl : lv_has ls 6 [(0, .ref (B + 120)), (1, .int p1)]) (h : m_X12_isWayAlready M p1 = some r) : W p l e rm_X12_isWayAlready s m args below meth c H locs 0 0 (MQ below (fp_Qi D G B r M) args s 0 0 (fp_A B)) (F0 m 0 ls []) := by
  have hx := E.1
  have hb := E.2.1
  have hown := E.2.2.2.1
  unfold m_X12_isWayAlready at h
  refine lv_aload_n hx hb dX12_isWayAlready_0 rfl (lv_at hl 0 rfl) ?_
  refine fp_g12_20 E hG tw_825 dX12_isWayAlready_1 ?_
  refine lv_iload_n hx hb dX12_isWayAlready_4 rfl (lv_at hl 1 rfl) ?_
  obtain ⟨g_11, h⟩ := fp_gd_s h
  refine fp_iald E hG fp_cc128.1 (fp_a21 fp_cc128) (fp_in_s g_11) dX12_isWayAlready_5 ?_
  refine lv_aload_n hx hb dX12_isWayAlready_6 rfl (lv_at hl 0 rfl) ?_
  refine fp_g12_21 E hG tw_826 dX12_isWayAlready_7 ?_
  refine lv_iload_n hx hb dX12_isWayAlready_10 rfl (lv_at hl 1 rfl) ?_
  obtain ⟨g_12, h⟩ := fp_gd_s h
  refine fp_iald E hG fp_cc129.1 (fp_a21 fp_cc129) (fp_in_s g_12) dX12_isWayAlready_11 ?_
  refine lv_icmp_ne (tgt := 19) hx hb dX12_isWayAlready_12 (by decide) (fun q => ?_) (fun q => ?_)
  · replace h := fp_ifF q h
    refine lv_iconst (v := (nI 0)) hx hb dX12_isWayAlready_19 (by decide) ?_
    exact w_X12_isWayAlready_20 E   _ hG (lv_sub hl [0, 1] rfl) h
  · replace h := fp_ifT q h
    refine lv_iconst (v := (nI 1)) hx hb dX12_isWayAlready_15 (by decide) ?_
    refine lv_goto (tgt := 20) hx hb dX12_isWayAlready_16 (by decide) ?_
    exact w_X12_isWayAlready_20 E   _ hG (lv_sub hl [0, 1] rfl) h
theorem c_X12_isWayAlready (l : Launch) (D : va_G) (G : Nat → ClassId) (B : Nat) {M : fp_Mem}  {p1 : Int32} {r : Int32}  (h : m_X12_isWayAlready M p1 = some r) : Met l yX12_isWayAlready (Cond.code yX12_isWayAlready cX12_isWayAlready 6 (some .boolean) :: fp_T) rm_X12_isWayAlready (va_Pc [.ref (B + 120), .int p1] (fp_GS D G B M)) (fp_Qi D G B r M) 0 0 (fp_A B) :=
  fp_met (own := RX12) (by decide) rfl (Nat.le_of_ble_eq_true rfl) (fun E hG hl => w_X12_isWayAlready_0 E  hG hl h)
abbrev rm_X12_takeWay : Room := { frames := 3, cells := 0, slots := 0, locals := 73 }
theorem cv_X12_takeWay : fp_CV yX12_takeWay cX12_takeWay 3 (some .int) 0 := ⟨tw_958, tw_13, by decide, by decide +kernel⟩
set_option maxHeartbeats 2000000 in
theorem w_X12_takeWay_82 {p : Program} {l : Launch} {e : Env} {s : State} {m : MethodId} {args : Array Value} {below : List Frame} {meth : Method} {c : Code} {D : va_G} {G : Nat → ClassId} {B : Nat} {r : Int32} {M' : fp_Mem} (E : fp_EV p s m args meth c cX12_takeWay 3 RX12 (some .int) D G) (s0 : Int32) (M : fp_Mem) {H : Heap} {locs : List Loc} {ls : Array Slot} (hG : fp_H D G B s M H locs) (hl : lv_has ls 3 []) (h : m_X12_takeWay_82 s0 M = some (r, M')) : W p l e rm_X12_takeWay s m args below meth c H locs 0 0 (MQ below (fp_Qi D G B r M') args s 0 0 (fp_A B)) (F0 m 82 ls [.int s0]) := by
  have hx := E.1
  have hb := E.2.1
  have hown := E.2.2.2.1
  unfold m_X12_takeWay_82 at h
  exact fp_ireti E hG (fp_pr1 h) (fp_pr2 h) dX12_takeWay_82
set_option maxHeartbeats 2000000 in
theorem w_X12_takeWay_81 {p : Program} {l : Launch} {e : Env} {s : State} {m : MethodId} {args : Array Value} {below : List Frame} {meth : Method} {c : Code} {D : va_G} {G : Nat → ClassId} {B : Nat} {r : Int32} {M' : fp_Mem} (E : fp_EV p s m args meth c cX12_takeWay 3 RX12 (some .int) D G) (v2 : Int32) (M : fp_Mem) {H : Heap} {locs : List Loc} {ls : Array Slot} (hG : fp_H D G B s M H locs) (hl : lv_has ls 3 [(2, .int v2)]) (h : m_X12_takeWay_81 v2 M = some (r, M')) : W p l e rm_X12_takeWay s m args below meth c H locs 0 0 (MQ below (fp_Qi D G B r M') args s 0 0 (fp_A B)) (F0 m 81 ls []) := by
  have hx := E.1
  have hb := E.2.1
  have hown := E.2.2.2.1
  unfold m_X12_takeWay_81 at h
  refine lv_iload_n hx hb dX12_takeWay_81 rfl (lv_at hl 0 rfl) ?_
  exact w_X12_takeWay_82 E   _ _ hG (lv_sub hl [] rfl) h
set_option maxHeartbeats 2000000 in
theorem w_X12_takeWay_56 {p : Program} {l : Launch} {e : Env} {s : State} {m : MethodId} {args : Array Value} {below : List Frame} {meth : Method} {c : Code} {D : va_G} {G : Nat → ClassId} {B : Nat} {r : Int32} {M' : fp_Mem} (E : fp_EV p s m args meth c cX12_takeWay 3 RX12 (some .int) D G) (v1 : Int32) (s0 : Int32) (M : fp_Mem) {H : Heap} {locs : List Loc} {ls : Array Slot} (hG : fp_H D G B s M H locs) (hl : lv_has ls 3 [(0, .ref (B + 120)), (1, .int v1)]) (h : m_X12_takeWay_56 v1 s0 M = some (r, M')) : W p l e rm_X12_takeWay s m args below meth c H locs 0 0 (MQ below (fp_Qi D G B r M') args s 0 0 (fp_A B)) (F0 m 56 ls [.int s0]) := by
  have hx := E.1
  have hb := E.2.1
  have hown := E.2.2.2.1
  unfold m_X12_takeWay_56 at h
  refine lv_istore_n (lv' := [(2, .int s0), (0, .ref (B + 120)), (1, .int v1)]) hx hb dX12_takeWay_56 rfl hl (by decide) rfl (fun ls hl => ?_)
  refine lv_iload_n hx hb dX12_takeWay_57 rfl (lv_at hl 0 rfl) ?_
  refine lv_if_ne (tgt := 81) hx hb dX12_takeWay_58 (by decide) (fun q => ?_) (fun q => ?_)
  · replace h := fp_ifF q h
    exact w_X12_takeWay_81 E   _ _ hG (lv_sub hl [0] rfl) h
  · replace h := fp_ifT q h
    refine lv_aload_n hx hb dX12_takeWay_61 rfl (lv_at hl 1 rfl) ?_
    refine lv_iload_n hx hb dX12_takeWay_62 rfl (lv_at hl 2 rfl) ?_
    obtain ⟨r_1, c_2, h⟩ := fp_b1_s h
    refine fp_callVi (As := [.int v1]) (rest := []) E hG (c_X12_isWayAlready l D G B c_2) cv_X12_isWayAlready tw_959 tw_961 ts_25 ⟨rfl, rfl⟩ ⟨Nat.le_of_ble_eq_true rfl, Nat.le_of_ble_eq_true rfl⟩ (fp_recv E hG (by decide) (fp_o12 _) rfl) rfl rfl (Nat.le_of_ble_eq_true rfl) hl.1 dX12_takeWay_63 ⟨Nat.zero_le _, Nat.zero_le _⟩ (fun H locs hG => ?_)
    refine lv_if_eq (tgt := 81) hx hb dX12_takeWay_66 (by decide) (fun q => ?_) (fun q => ?_)
    · replace h := fp_ifT q h
      exact w_X12_takeWay_81 E   _ _ hG (lv_sub hl [0] rfl) h
    · replace h := fp_ifF q h
      refine lv_aload_n hx hb dX12_takeWay_69 rfl (lv_at hl 1 rfl) ?_
      refine lv_iconst (v := (nI 4)) hx hb dX12_takeWay_70 (by decide) ?_
      refine lv_aload_n hx hb dX12_takeWay_71 rfl (lv_at hl 1 rfl) ?_
      refine fp_g12_13 E hG tw_818 dX12_takeWay_72 ?_
      obtain ⟨r_3, M_4, c_5, h⟩ := fp_b2_s h
      refine fp_callVi (As := [.int (nI 4), .int (M 120 13)]) (rest := []) E hG (c_X12_fails l D G B c_5) cv_X12_fails tw_933 tw_935 ts_19 ⟨rfl, rfl⟩ ⟨Nat.le_of_ble_eq_true rfl, Nat.le_of_ble_eq_true rfl⟩ (fp_recv E hG (by decide) (fp_o12 _) rfl) rfl rfl (Nat.le_of_ble_eq_true rfl) hl.1 dX12_takeWay_75 ⟨Nat.zero_le _, Nat.zero_le _⟩ (fun H locs hG => ?_)
      refine lv_goto (tgt := 82) hx hb dX12_takeWay_78 (by decide) ?_
      exact w_X12_takeWay_82 E   _ _ hG (lv_sub hl [] rfl) h
set_option maxHeartbeats 2000000 in
theorem w_X12_takeWay_0 {p : Program} {l : Launch} {e : Env} {s : State} {m : MethodId} {args : Array Value} {below : List Frame} {meth : Method} {c : Code} {D : va_G} {G : Nat → ClassId} {B : Nat} {r : Int32} {M' : fp_Mem} (E : fp_EV p s m args meth c cX12_takeWay 3 RX12 (some .int) D G) {M : fp_Mem} {H : Heap} {locs : List Loc} {ls : Array Slot} (hG : fp_H D G B s M H locs) (hl : lv_has ls 3 [(0, .ref (B + 120))]) (h : m_X12_takeWay M = some (r, M')) : W p l e rm_X12_takeWay s m args below meth c H locs 0 0 (MQ below (fp_Qi D G B r M') args s 0 0 (fp_A B)) (F0 m 0 ls []) := by
  have hx := E.1
  have hb := E.2.1
  have hown := E.2.2.2.1
  unfold m_X12_takeWay at h
  refine lv_aload_n hx hb dX12_takeWay_0 rfl (lv_at hl 0 rfl) ?_
  refine fp_g12_19 E hG tw_824 dX12_takeWay_1 ?_
  obtain ⟨x_6, ex_6, h⟩ := fp_lt_s h
  refine fp_top ex_6 ?_
  refine lv_istore_n (lv' := [(1, .int x_6), (0, .ref (B + 120))]) hx hb dX12_takeWay_4 rfl hl (by decide) rfl (fun ls hl => ?_)
  refine lv_aload_n hx hb dX12_takeWay_5 rfl (lv_at hl 1 rfl) ?_
  refine lv_dup hx hb dX12_takeWay_6 rfl ?_
  refine fp_g12_19 E hG tw_824 dX12_takeWay_7 ?_
  refine lv_iconst (v := (nI 1)) hx hb dX12_takeWay_10 (by decide) ?_
  refine lv_iadd hx hb dX12_takeWay_11 ?_
  obtain ⟨M_7, eM_7, h⟩ := fp_lt_s h
  refine fp_p12_19 E hG tw_824 dX12_takeWay_12 (fun H locs hG => ?_)
  replace hG := fp_memH eM_7 hG
  refine lv_aload_n hx hb dX12_takeWay_15 rfl (lv_at hl 1 rfl) ?_
  refine lv_aload_n hx hb dX12_takeWay_16 rfl (lv_at hl 1 rfl) ?_
  refine fp_g12_20 E hG tw_825 dX12_takeWay_17 ?_
  refine lv_iload_n hx hb dX12_takeWay_20 rfl (lv_at hl 0 rfl) ?_
  refine lv_iconst (v := (nI 0)) hx hb dX12_takeWay_21 (by decide) ?_
  refine lv_aload_n hx hb dX12_takeWay_22 rfl (lv_at hl 1 rfl) ?_
  refine fp_g12_16 E hG tw_821 dX12_takeWay_23 ?_
  refine lv_iconst (v := (nI 1)) hx hb dX12_takeWay_26 (by decide) ?_
  refine lv_isub hx hb dX12_takeWay_27 ?_
  obtain ⟨r_8, M_9, c_10, h⟩ := fp_b2_s h
  refine fp_callVi (As := [.ref (B + 128), .int x_6, .int (nI 0), .int ((M_7 120 16) - (nI 1))]) (rest := []) E hG (c_X12_into l D G B ⟨fp_cc128.1, fun _ _ => (fp_a21 fp_cc128)⟩ c_10) cv_X12_into tw_941 tw_943 ts_21 ⟨rfl, rfl⟩ ⟨Nat.le_of_ble_eq_true rfl, Nat.le_of_ble_eq_true rfl⟩ (fp_recv E hG (by decide) (fp_o12 _) rfl) rfl rfl (Nat.le_of_ble_eq_true rfl) hl.1 dX12_takeWay_28 ⟨Nat.zero_le _, Nat.zero_le _⟩ (fun H locs hG => ?_)
  refine lv_istore_n (lv' := [(2, .int r_8), (1, .int x_6), (0, .ref (B + 120))]) hx hb dX12_takeWay_31 rfl hl (by decide) rfl (fun ls hl => ?_)
  refine lv_iload_n hx hb dX12_takeWay_32 rfl (lv_at hl 0 rfl) ?_
  refine lv_if_le (tgt := 40) hx hb dX12_takeWay_33 (by decide) (fun q => ?_) (fun q => ?_)
  · replace h := fp_ifT q h
    refine lv_aload_n hx hb dX12_takeWay_40 rfl (lv_at hl 2 rfl) ?_
    refine lv_aload_n hx hb dX12_takeWay_41 rfl (lv_at hl 2 rfl) ?_
    refine fp_g12_21 E hG tw_826 dX12_takeWay_42 ?_
    refine lv_iload_n hx hb dX12_takeWay_45 rfl (lv_at hl 1 rfl) ?_
    refine lv_iconst (v := (nI 0)) hx hb dX12_takeWay_46 (by decide) ?_
    refine lv_aload_n hx hb dX12_takeWay_47 rfl (lv_at hl 2 rfl) ?_
    refine fp_g12_16 E hG tw_821 dX12_takeWay_48 ?_
    refine lv_iconst (v := (nI 1)) hx hb dX12_takeWay_51 (by decide) ?_
    refine lv_isub hx hb dX12_takeWay_52 ?_
    obtain ⟨r_11, M_12, c_13, h⟩ := fp_b2_s h
    refine fp_callVi (As := [.ref (B + 129), .int x_6, .int (nI 0), .int ((M_9 120 16) - (nI 1))]) (rest := []) E hG (c_X12_into l D G B ⟨fp_cc129.1, fun _ _ => (fp_a21 fp_cc129)⟩ c_13) cv_X12_into tw_941 tw_943 ts_21 ⟨rfl, rfl⟩ ⟨Nat.le_of_ble_eq_true rfl, Nat.le_of_ble_eq_true rfl⟩ (fp_recv E hG (by decide) (fp_o12 _) rfl) rfl rfl (Nat.le_of_ble_eq_true rfl) hl.1 dX12_takeWay_53 ⟨Nat.zero_le _, Nat.zero_le _⟩ (fun H locs hG => ?_)
    exact w_X12_takeWay_56 E   _ _ _ hG (lv_sub hl [2, 1] rfl) h
  · replace h := fp_ifF q h
    refine lv_iload_n hx hb dX12_takeWay_36 rfl (lv_at hl 0 rfl) ?_
    refine lv_goto (tgt := 56) hx hb dX12_takeWay_37 (by decide) ?_
    exact w_X12_takeWay_56 E   _ _ _ hG (lv_sub hl [2, 1] rfl) h
theorem c_X12_takeWay (l : Launch) (D : va_G) (G : Nat → ClassId) (B : Nat) {M : fp_Mem}   {r : Int32} {M' : fp_Mem}  (h : m_X12_takeWay M = some (r, M')) : Met l yX12_takeWay (Cond.code yX12_takeWay cX12_takeWay 3 (some .int) :: fp_T) rm_X12_takeWay (va_Pc [.ref (B + 120)] (fp_GS D G B M)) (fp_Qi D G B r M') 0 0 (fp_A B) :=
  fp_met (own := RX12) (by decide) rfl (Nat.le_of_ble_eq_true rfl) (fun E hG hl => w_X12_takeWay_0 E  hG hl h)
abbrev rm_X12_takeClause : Room := { frames := 4, cells := 0, slots := 0, locals := 95 }
theorem cv_X12_takeClause : fp_CV yX12_takeClause cX12_takeClause 5 (some .int) 0 := ⟨tw_932, tw_13, by decide, by decide +kernel⟩
set_option maxHeartbeats 2000000 in
theorem w_X12_takeClause_52 {p : Program} {l : Launch} {e : Env} {s : State} {m : MethodId} {args : Array Value} {below : List Frame} {meth : Method} {c : Code} {D : va_G} {G : Nat → ClassId} {B : Nat} {r : Int32} {M' : fp_Mem} (E : fp_EV p s m args meth c cX12_takeClause 5 RX12 (some .int) D G) (M : fp_Mem) {H : Heap} {locs : List Loc} {ls : Array Slot} (hG : fp_H D G B s M H locs) (hl : lv_has ls 5 [(0, .ref (B + 120))]) (h : m_X12_takeClause_52 M = some (r, M')) : W p l e rm_X12_takeClause s m args below meth c H locs 0 0 (MQ below (fp_Qi D G B r M') args s 0 0 (fp_A B)) (F0 m 52 ls []) := by
  have hx := E.1
  have hb := E.2.1
  have hown := E.2.2.2.1
  unfold m_X12_takeClause_52 at h
  refine lv_aload_n hx hb dX12_takeClause_52 rfl (lv_at hl 0 rfl) ?_
  refine lv_iconst (v := (nI 1)) hx hb dX12_takeClause_53 (by decide) ?_
  refine lv_aload_n hx hb dX12_takeClause_54 rfl (lv_at hl 0 rfl) ?_
  refine fp_g12_11 E hG tw_816 dX12_takeClause_55 ?_
  obtain ⟨r_1, M_2, c_3, h⟩ := fp_b2_s h
  refine fp_callVi (As := [.int (nI 1), .int (M 120 11)]) (rest := []) E hG (c_X12_fails l D G B c_3) cv_X12_fails tw_933 tw_935 ts_19 ⟨rfl, rfl⟩ ⟨Nat.le_of_ble_eq_true rfl, Nat.le_of_ble_eq_true rfl⟩ (fp_recv E hG (by decide) (fp_o12 _) rfl) rfl rfl (Nat.le_of_ble_eq_true rfl) hl.1 dX12_takeClause_58 ⟨Nat.zero_le _, Nat.zero_le _⟩ (fun H locs hG => ?_)
  exact fp_ireti E hG (fp_pr1 h) (fp_pr2 h) dX12_takeClause_61
set_option maxHeartbeats 2000000 in
theorem w_X12_takeClause_187 {p : Program} {l : Launch} {e : Env} {s : State} {m : MethodId} {args : Array Value} {below : List Frame} {meth : Method} {c : Code} {D : va_G} {G : Nat → ClassId} {B : Nat} {r : Int32} {M' : fp_Mem} (E : fp_EV p s m args meth c cX12_takeClause 5 RX12 (some .int) D G) (v4 : Int32) (M : fp_Mem) {H : Heap} {locs : List Loc} {ls : Array Slot} (hG : fp_H D G B s M H locs) (hl : lv_has ls 5 [(0, .ref (B + 120)), (4, .int v4)]) (h : m_X12_takeClause_187 v4 M = some (r, M')) : W p l e rm_X12_takeClause s m args below meth c H locs 0 0 (MQ below (fp_Qi D G B r M') args s 0 0 (fp_A B)) (F0 m 187 ls []) := by
  have hx := E.1
  have hb := E.2.1
  have hown := E.2.2.2.1
  unfold m_X12_takeClause_187 at h
  refine lv_aload_n hx hb dX12_takeClause_187 rfl (lv_at hl 0 rfl) ?_
  refine lv_dup hx hb dX12_takeClause_188 rfl ?_
  refine fp_g12_11 E hG tw_816 dX12_takeClause_189 ?_
  refine lv_iconst (v := (nI 1)) hx hb dX12_takeClause_192 (by decide) ?_
  refine lv_iadd hx hb dX12_takeClause_193 ?_
  obtain ⟨M_4, eM_4, h⟩ := fp_lt_s h
  refine fp_p12_11 E hG tw_816 dX12_takeClause_194 (fun H locs hG => ?_)
  replace hG := fp_memH eM_4 hG
  refine lv_iload hx hb dX12_takeClause_197 (lv_at hl 1 rfl) ?_
  exact fp_ireti E hG (fp_pr1 h) (fp_pr2 h) dX12_takeClause_199
set_option maxHeartbeats 2000000 in
theorem w_X12_takeClause_161 {p : Program} {l : Launch} {e : Env} {s : State} {m : MethodId} {args : Array Value} {below : List Frame} {meth : Method} {c : Code} {D : va_G} {G : Nat → ClassId} {B : Nat} {r : Int32} {M' : fp_Mem} (E : fp_EV p s m args meth c cX12_takeClause 5 RX12 (some .int) D G) (s0 : Int32) (M : fp_Mem) {H : Heap} {locs : List Loc} {ls : Array Slot} (hG : fp_H D G B s M H locs) (hl : lv_has ls 5 [(0, .ref (B + 120))]) (h : m_X12_takeClause_161 s0 M = some (r, M')) : W p l e rm_X12_takeClause s m args below meth c H locs 0 0 (MQ below (fp_Qi D G B r M') args s 0 0 (fp_A B)) (F0 m 161 ls [.int s0]) := by
  have hx := E.1
  have hb := E.2.1
  have hown := E.2.2.2.1
  unfold m_X12_takeClause_161 at h
  refine lv_istore (lv' := [(4, .int s0), (0, .ref (B + 120))]) hx hb dX12_takeClause_161 hl (by decide) rfl (fun ls hl => ?_)
  refine lv_iload hx hb dX12_takeClause_163 (lv_at hl 0 rfl) ?_
  refine lv_if_ne (tgt := 187) hx hb dX12_takeClause_165 (by decide) (fun q => ?_) (fun q => ?_)
  · replace h := fp_ifF q h
    exact w_X12_takeClause_187 E   _ _ hG (lv_sub hl [1, 0] rfl) h
  · replace h := fp_ifT q h
    refine lv_aload_n hx hb dX12_takeClause_168 rfl (lv_at hl 1 rfl) ?_
    obtain ⟨r_5, M_6, c_7, h⟩ := fp_b2_s h
    refine fp_callVi (As := []) (rest := []) E hG (c_X12_here l D G B c_7) cv_X12_here tw_925 tw_927 ts_17 ⟨rfl, rfl⟩ ⟨Nat.le_of_ble_eq_true rfl, Nat.le_of_ble_eq_true rfl⟩ (fp_recv E hG (by decide) (fp_o12 _) rfl) rfl rfl (Nat.le_of_ble_eq_true rfl) hl.1 dX12_takeClause_169 ⟨Nat.zero_le _, Nat.zero_le _⟩ (fun H locs hG => ?_)
    refine lv_bipush (v := (nI 59)) hx hb dX12_takeClause_172 (by decide) ?_
    refine lv_icmp_eq (tgt := 187) hx hb dX12_takeClause_174 (by decide) (fun q => ?_) (fun q => ?_)
    · replace h := fp_ifT q h
      exact w_X12_takeClause_187 E   _ _ hG (lv_sub hl [1, 0] rfl) h
    · replace h := fp_ifF q h
      refine lv_aload_n hx hb dX12_takeClause_177 rfl (lv_at hl 1 rfl) ?_
      refine lv_iconst (v := (nI 1)) hx hb dX12_takeClause_178 (by decide) ?_
      refine lv_aload_n hx hb dX12_takeClause_179 rfl (lv_at hl 1 rfl) ?_
      refine fp_g12_11 E hG tw_816 dX12_takeClause_180 ?_
      obtain ⟨r_8, M_9, c_10, h⟩ := fp_b2_s h
      refine fp_callVi (As := [.int (nI 1), .int (M_6 120 11)]) (rest := []) E hG (c_X12_fails l D G B c_10) cv_X12_fails tw_933 tw_935 ts_19 ⟨rfl, rfl⟩ ⟨Nat.le_of_ble_eq_true rfl, Nat.le_of_ble_eq_true rfl⟩ (fp_recv E hG (by decide) (fp_o12 _) rfl) rfl rfl (Nat.le_of_ble_eq_true rfl) hl.1 dX12_takeClause_183 ⟨Nat.zero_le _, Nat.zero_le _⟩ (fun H locs hG => ?_)
      exact fp_ireti E hG (fp_pr1 h) (fp_pr2 h) dX12_takeClause_186
set_option maxHeartbeats 2000000 in
theorem w_X12_takeClause_109 {p : Program} {l : Launch} {e : Env} {s : State} {m : MethodId} {args : Array Value} {below : List Frame} {meth : Method} {c : Code} {D : va_G} {G : Nat → ClassId} {B : Nat} {r : Int32} {M' : fp_Mem} (E : fp_EV p s m args meth c cX12_takeClause 5 RX12 (some .int) D G) (v2 : Int32) (s0 : Int32) (M : fp_Mem) {H : Heap} {locs : List Loc} {ls : Array Slot} (hG : fp_H D G B s M H locs) (hl : lv_has ls 5 [(0, .ref (B + 120)), (2, .int v2)]) (h : m_X12_takeClause_109 v2 s0 M = some (r, M')) : W p l e rm_X12_takeClause s m args below meth c H locs 0 0 (MQ below (fp_Qi D G B r M') args s 0 0 (fp_A B)) (F0 m 109 ls [.int s0]) := by
  have hx := E.1
  have hb := E.2.1
  have hown := E.2.2.2.1
  unfold m_X12_takeClause_109 at h
  refine lv_istore_n (lv' := [(3, .int s0), (0, .ref (B + 120)), (2, .int v2)]) hx hb dX12_takeClause_109 rfl hl (by decide) rfl (fun ls hl => ?_)
  refine lv_iload_n hx hb dX12_takeClause_110 rfl (lv_at hl 0 rfl) ?_
  refine lv_if_eq (tgt := 124) hx hb dX12_takeClause_111 (by decide) (fun q => ?_) (fun q => ?_)
  · replace h := fp_ifT q h
    refine lv_aload_n hx hb dX12_takeClause_124 rfl (lv_at hl 1 rfl) ?_
    refine lv_dup hx hb dX12_takeClause_125 rfl ?_
    refine fp_g12_11 E hG tw_816 dX12_takeClause_126 ?_
    refine lv_iconst (v := (nI 1)) hx hb dX12_takeClause_129 (by decide) ?_
    refine lv_iadd hx hb dX12_takeClause_130 ?_
    obtain ⟨M_11, eM_11, h⟩ := fp_lt_s h
    refine fp_p12_11 E hG tw_816 dX12_takeClause_131 (fun H locs hG => ?_)
    replace hG := fp_memH eM_11 hG
    refine lv_iload_n hx hb dX12_takeClause_134 rfl (lv_at hl 2 rfl) ?_
    refine lv_if_ne (tgt := 145) hx hb dX12_takeClause_135 (by decide) (fun q => ?_) (fun q => ?_)
    · replace h := fp_ifF q h
      refine lv_iload_n hx hb dX12_takeClause_145 rfl (lv_at hl 2 rfl) ?_
      refine lv_iconst (v := (nI 1)) hx hb dX12_takeClause_146 (by decide) ?_
      refine lv_icmp_ne (tgt := 157) hx hb dX12_takeClause_147 (by decide) (fun q => ?_) (fun q => ?_)
      · replace h := fp_ifF q h
        refine lv_aload_n hx hb dX12_takeClause_157 rfl (lv_at hl 1 rfl) ?_
        obtain ⟨r_12, M_13, c_14, h⟩ := fp_b2_s h
        refine fp_callVi (As := []) (rest := []) E hG (c_X12_takeWay l D G B c_14) cv_X12_takeWay tw_955 tw_957 ts_24 ⟨rfl, rfl⟩ ⟨Nat.le_of_ble_eq_true rfl, Nat.le_of_ble_eq_true rfl⟩ (fp_recv E hG (by decide) (fp_o12 _) rfl) rfl rfl (Nat.le_of_ble_eq_true rfl) hl.1 dX12_takeClause_158 ⟨Nat.zero_le _, Nat.zero_le _⟩ (fun H locs hG => ?_)
        exact w_X12_takeClause_161 E   _ _ hG (lv_sub hl [1] rfl) h
      · replace h := fp_ifT q h
        refine lv_aload_n hx hb dX12_takeClause_150 rfl (lv_at hl 1 rfl) ?_
        obtain ⟨r_15, M_16, c_17, h⟩ := fp_b2_s h
        refine fp_callVi (As := []) (rest := []) E hG (c_X12_takeTable l D G B c_17) cv_X12_takeTable tw_951 tw_953 ts_23 ⟨rfl, rfl⟩ ⟨Nat.le_of_ble_eq_true rfl, Nat.le_of_ble_eq_true rfl⟩ (fp_recv E hG (by decide) (fp_o12 _) rfl) rfl rfl (Nat.le_of_ble_eq_true rfl) hl.1 dX12_takeClause_151 ⟨Nat.zero_le _, Nat.zero_le _⟩ (fun H locs hG => ?_)
        refine lv_goto (tgt := 161) hx hb dX12_takeClause_154 (by decide) ?_
        exact w_X12_takeClause_161 E   _ _ hG (lv_sub hl [1] rfl) h
    · replace h := fp_ifT q h
      refine lv_aload_n hx hb dX12_takeClause_138 rfl (lv_at hl 1 rfl) ?_
      obtain ⟨r_18, M_19, c_20, h⟩ := fp_b2_s h
      refine fp_callVi (As := []) (rest := []) E hG (c_X12_takeLaw l D G B c_20) cv_X12_takeLaw tw_937 tw_939 ts_20 ⟨rfl, rfl⟩ ⟨Nat.le_of_ble_eq_true rfl, Nat.le_of_ble_eq_true rfl⟩ (fp_recv E hG (by decide) (fp_o12 _) rfl) rfl rfl (Nat.le_of_ble_eq_true rfl) hl.1 dX12_takeClause_139 ⟨Nat.zero_le _, Nat.zero_le _⟩ (fun H locs hG => ?_)
      refine lv_goto (tgt := 161) hx hb dX12_takeClause_142 (by decide) ?_
      exact w_X12_takeClause_161 E   _ _ hG (lv_sub hl [1] rfl) h
  · replace h := fp_ifF q h
    refine lv_aload_n hx hb dX12_takeClause_114 rfl (lv_at hl 1 rfl) ?_
    refine lv_iconst (v := (nI 3)) hx hb dX12_takeClause_115 (by decide) ?_
    refine lv_aload_n hx hb dX12_takeClause_116 rfl (lv_at hl 1 rfl) ?_
    refine fp_g12_11 E hG tw_816 dX12_takeClause_117 ?_
    obtain ⟨r_21, M_22, c_23, h⟩ := fp_b2_s h
    refine fp_callVi (As := [.int (nI 3), .int (M 120 11)]) (rest := []) E hG (c_X12_fails l D G B c_23) cv_X12_fails tw_933 tw_935 ts_19 ⟨rfl, rfl⟩ ⟨Nat.le_of_ble_eq_true rfl, Nat.le_of_ble_eq_true rfl⟩ (fp_recv E hG (by decide) (fp_o12 _) rfl) rfl rfl (Nat.le_of_ble_eq_true rfl) hl.1 dX12_takeClause_120 ⟨Nat.zero_le _, Nat.zero_le _⟩ (fun H locs hG => ?_)
    exact fp_ireti E hG (fp_pr1 h) (fp_pr2 h) dX12_takeClause_123
set_option maxHeartbeats 2000000 in
theorem w_X12_takeClause_62 {p : Program} {l : Launch} {e : Env} {s : State} {m : MethodId} {args : Array Value} {below : List Frame} {meth : Method} {c : Code} {D : va_G} {G : Nat → ClassId} {B : Nat} {r : Int32} {M' : fp_Mem} (E : fp_EV p s m args meth c cX12_takeClause 5 RX12 (some .int) D G) (v2 : Int32) (M : fp_Mem) {H : Heap} {locs : List Loc} {ls : Array Slot} (hG : fp_H D G B s M H locs) (hl : lv_has ls 5 [(0, .ref (B + 120)), (2, .int v2)]) (h : m_X12_takeClause_62 v2 M = some (r, M')) : W p l e rm_X12_takeClause s m args below meth c H locs 0 0 (MQ below (fp_Qi D G B r M') args s 0 0 (fp_A B)) (F0 m 62 ls []) := by
  have hx := E.1
  have hb := E.2.1
  have hown := E.2.2.2.1
  unfold m_X12_takeClause_62 at h
  refine lv_iload_n hx hb dX12_takeClause_62 rfl (lv_at hl 1 rfl) ?_
  refine lv_if_ne (tgt := 73) hx hb dX12_takeClause_63 (by decide) (fun q => ?_) (fun q => ?_)
  · replace h := fp_ifF q h
    refine lv_iload_n hx hb dX12_takeClause_73 rfl (lv_at hl 1 rfl) ?_
    refine lv_iconst (v := (nI 1)) hx hb dX12_takeClause_74 (by decide) ?_
    refine lv_icmp_ne (tgt := 95) hx hb dX12_takeClause_75 (by decide) (fun q => ?_) (fun q => ?_)
    · replace h := fp_ifF q h
      refine lv_aload_n hx hb dX12_takeClause_95 rfl (lv_at hl 0 rfl) ?_
      refine fp_g12_19 E hG tw_824 dX12_takeClause_96 ?_
      refine lv_bipush (v := (nI 14)) hx hb dX12_takeClause_99 (by decide) ?_
      refine lv_icmp_ne (tgt := 108) hx hb dX12_takeClause_101 (by decide) (fun q => ?_) (fun q => ?_)
      · replace h := fp_ifF q h
        refine lv_iconst (v := (nI 0)) hx hb dX12_takeClause_108 (by decide) ?_
        exact w_X12_takeClause_109 E   _ _ _ hG (lv_sub hl [0, 1] rfl) h
      · replace h := fp_ifT q h
        refine lv_iconst (v := (nI 1)) hx hb dX12_takeClause_104 (by decide) ?_
        refine lv_goto (tgt := 109) hx hb dX12_takeClause_105 (by decide) ?_
        exact w_X12_takeClause_109 E   _ _ _ hG (lv_sub hl [0, 1] rfl) h
    · replace h := fp_ifT q h
      refine lv_aload_n hx hb dX12_takeClause_78 rfl (lv_at hl 0 rfl) ?_
      refine fp_g12_16 E hG tw_821 dX12_takeClause_79 ?_
      refine lv_bipush (v := (nI 9)) hx hb dX12_takeClause_82 (by decide) ?_
      refine lv_icmp_ne (tgt := 91) hx hb dX12_takeClause_84 (by decide) (fun q => ?_) (fun q => ?_)
      · replace h := fp_ifF q h
        refine lv_iconst (v := (nI 0)) hx hb dX12_takeClause_91 (by decide) ?_
        refine lv_goto (tgt := 109) hx hb dX12_takeClause_92 (by decide) ?_
        exact w_X12_takeClause_109 E   _ _ _ hG (lv_sub hl [0, 1] rfl) h
      · replace h := fp_ifT q h
        refine lv_iconst (v := (nI 1)) hx hb dX12_takeClause_87 (by decide) ?_
        refine lv_goto (tgt := 109) hx hb dX12_takeClause_88 (by decide) ?_
        exact w_X12_takeClause_109 E   _ _ _ hG (lv_sub hl [0, 1] rfl) h
  · replace h := fp_ifT q h
    refine lv_aload_n hx hb dX12_takeClause_66 rfl (lv_at hl 0 rfl) ?_
    refine fp_g12_14 E hG tw_819 dX12_takeClause_67 ?_
    refine lv_goto (tgt := 109) hx hb dX12_takeClause_70 (by decide) ?_
    exact w_X12_takeClause_109 E   _ _ _ hG (lv_sub hl [0, 1] rfl) h
set_option maxHeartbeats 2000000 in
theorem w_X12_takeClause_36 {p : Program} {l : Launch} {e : Env} {s : State} {m : MethodId} {args : Array Value} {below : List Frame} {meth : Method} {c : Code} {D : va_G} {G : Nat → ClassId} {B : Nat} {r : Int32} {M' : fp_Mem} (E : fp_EV p s m args meth c cX12_takeClause 5 RX12 (some .int) D G) (s0 : Int32) (M : fp_Mem) {H : Heap} {locs : List Loc} {ls : Array Slot} (hG : fp_H D G B s M H locs) (hl : lv_has ls 5 [(0, .ref (B + 120))]) (h : m_X12_takeClause_36 s0 M = some (r, M')) : W p l e rm_X12_takeClause s m args below meth c H locs 0 0 (MQ below (fp_Qi D G B r M') args s 0 0 (fp_A B)) (F0 m 36 ls [.int s0]) := by
  have hx := E.1
  have hb := E.2.1
  have hown := E.2.2.2.1
  unfold m_X12_takeClause_36 at h
  refine lv_istore_n (lv' := [(2, .int s0), (0, .ref (B + 120))]) hx hb dX12_takeClause_36 rfl hl (by decide) rfl (fun ls hl => ?_)
  refine lv_iload_n hx hb dX12_takeClause_37 rfl (lv_at hl 0 rfl) ?_
  refine lv_if_lt (tgt := 52) hx hb dX12_takeClause_38 (by decide) (fun q => ?_) (fun q => ?_)
  · replace h := fp_ifT q h
    exact w_X12_takeClause_52 E   _ hG (lv_sub hl [1] rfl) h
  · replace h := fp_ifF q h
    refine lv_iload_n hx hb dX12_takeClause_41 rfl (lv_at hl 0 rfl) ?_
    refine lv_if_le (tgt := 62) hx hb dX12_takeClause_42 (by decide) (fun q => ?_) (fun q => ?_)
    · replace h := fp_ifT q h
      exact w_X12_takeClause_62 E   _ _ hG (lv_sub hl [1, 0] rfl) h
    · replace h := fp_ifF q h
      refine lv_aload_n hx hb dX12_takeClause_45 rfl (lv_at hl 1 rfl) ?_
      refine fp_g12_14 E hG tw_819 dX12_takeClause_46 ?_
      refine lv_if_ne (tgt := 62) hx hb dX12_takeClause_49 (by decide) (fun q => ?_) (fun q => ?_)
      · replace h := fp_ifF q h
        exact w_X12_takeClause_62 E   _ _ hG (lv_sub hl [1, 0] rfl) h
      · replace h := fp_ifT q h
        exact w_X12_takeClause_52 E   _ hG (lv_sub hl [1] rfl) h
set_option maxHeartbeats 2000000 in
theorem w_X12_takeClause_0 {p : Program} {l : Launch} {e : Env} {s : State} {m : MethodId} {args : Array Value} {below : List Frame} {meth : Method} {c : Code} {D : va_G} {G : Nat → ClassId} {B : Nat} {r : Int32} {M' : fp_Mem} (E : fp_EV p s m args meth c cX12_takeClause 5 RX12 (some .int) D G) {M : fp_Mem} {H : Heap} {locs : List Loc} {ls : Array Slot} (hG : fp_H D G B s M H locs) (hl : lv_has ls 5 [(0, .ref (B + 120))]) (h : m_X12_takeClause M = some (r, M')) : W p l e rm_X12_takeClause s m args below meth c H locs 0 0 (MQ below (fp_Qi D G B r M') args s 0 0 (fp_A B)) (F0 m 0 ls []) := by
  have hx := E.1
  have hb := E.2.1
  have hown := E.2.2.2.1
  unfold m_X12_takeClause at h
  refine lv_aload_n hx hb dX12_takeClause_0 rfl (lv_at hl 0 rfl) ?_
  obtain ⟨r_24, M_25, c_26, h⟩ := fp_b2_s h
  refine fp_callVi (As := []) (rest := []) E hG (c_X12_here l D G B c_26) cv_X12_here tw_925 tw_927 ts_17 ⟨rfl, rfl⟩ ⟨Nat.le_of_ble_eq_true rfl, Nat.le_of_ble_eq_true rfl⟩ (fp_recv E hG (by decide) (fp_o12 _) rfl) rfl rfl (Nat.le_of_ble_eq_true rfl) hl.1 dX12_takeClause_1 ⟨Nat.zero_le _, Nat.zero_le _⟩ (fun H locs hG => ?_)
  refine lv_istore_n (lv' := [(1, .int r_24), (0, .ref (B + 120))]) hx hb dX12_takeClause_4 rfl hl (by decide) rfl (fun ls hl => ?_)
  refine lv_iload_n hx hb dX12_takeClause_5 rfl (lv_at hl 0 rfl) ?_
  refine lv_bipush (v := (nI 114)) hx hb dX12_takeClause_6 (by decide) ?_
  refine lv_icmp_ne (tgt := 15) hx hb dX12_takeClause_8 (by decide) (fun q => ?_) (fun q => ?_)
  · replace h := fp_ifF q h
    refine lv_iload_n hx hb dX12_takeClause_15 rfl (lv_at hl 0 rfl) ?_
    refine lv_bipush (v := (nI 116)) hx hb dX12_takeClause_16 (by decide) ?_
    refine lv_icmp_ne (tgt := 25) hx hb dX12_takeClause_18 (by decide) (fun q => ?_) (fun q => ?_)
    · replace h := fp_ifF q h
      refine lv_iload_n hx hb dX12_takeClause_25 rfl (lv_at hl 0 rfl) ?_
      refine lv_bipush (v := (nI 119)) hx hb dX12_takeClause_26 (by decide) ?_
      refine lv_icmp_ne (tgt := 35) hx hb dX12_takeClause_28 (by decide) (fun q => ?_) (fun q => ?_)
      · replace h := fp_ifF q h
        refine lv_iconst (v := (-1 : Int32)) hx hb dX12_takeClause_35 (by decide) ?_
        exact w_X12_takeClause_36 E   _ _ hG (lv_sub hl [1] rfl) h
      · replace h := fp_ifT q h
        refine lv_iconst (v := (nI 2)) hx hb dX12_takeClause_31 (by decide) ?_
        refine lv_goto (tgt := 36) hx hb dX12_takeClause_32 (by decide) ?_
        exact w_X12_takeClause_36 E   _ _ hG (lv_sub hl [1] rfl) h
    · replace h := fp_ifT q h
      refine lv_iconst (v := (nI 1)) hx hb dX12_takeClause_21 (by decide) ?_
      refine lv_goto (tgt := 36) hx hb dX12_takeClause_22 (by decide) ?_
      exact w_X12_takeClause_36 E   _ _ hG (lv_sub hl [1] rfl) h
  · replace h := fp_ifT q h
    refine lv_iconst (v := (nI 0)) hx hb dX12_takeClause_11 (by decide) ?_
    refine lv_goto (tgt := 36) hx hb dX12_takeClause_12 (by decide) ?_
    exact w_X12_takeClause_36 E   _ _ hG (lv_sub hl [1] rfl) h
theorem c_X12_takeClause (l : Launch) (D : va_G) (G : Nat → ClassId) (B : Nat) {M : fp_Mem}   {r : Int32} {M' : fp_Mem}  (h : m_X12_takeClause M = some (r, M')) : Met l yX12_takeClause (Cond.code yX12_takeClause cX12_takeClause 5 (some .int) :: fp_T) rm_X12_takeClause (va_Pc [.ref (B + 120)] (fp_GS D G B M)) (fp_Qi D G B r M') 0 0 (fp_A B) :=
  fp_met (own := RX12) (by decide) rfl (Nat.le_of_ble_eq_true rfl) (fun E hG hl => w_X12_takeClause_0 E  hG hl h)
abbrev rm_X12_takeRead : Room := { frames := 0, cells := 0, slots := 0, locals := 0 }
theorem cv_X12_takeRead : fp_CV yX12_takeRead cX12_takeRead 2 none 0 := ⟨tw_966, tw_13, by decide, by decide +kernel⟩
set_option maxHeartbeats 2000000 in
theorem w_X12_takeRead_172 {p : Program} {l : Launch} {e : Env} {s : State} {m : MethodId} {args : Array Value} {below : List Frame} {meth : Method} {c : Code} {D : va_G} {G : Nat → ClassId} {B : Nat} {M' : fp_Mem} (E : fp_EV p s m args meth c cX12_takeRead 2 RX12 none D G) (s1 : Int32) (s2 : Int32) (M : fp_Mem) {H : Heap} {locs : List Loc} {ls : Array Slot} (hG : fp_H D G B s M H locs) (hl : lv_has ls 2 []) (h : m_X12_takeRead_172 s1 s2 M = some M') : W p l e rm_X12_takeRead s m args below meth c H locs 0 0 (MQ below (fp_Qv D G B M') args s 0 0 (fp_A B)) (F0 m 172 ls [.int s2, .int s1, .ref (B + 123)]) := by
  have hx := E.1
  have hb := E.2.1
  have hown := E.2.2.2.1
  unfold m_X12_takeRead_172 at h
  obtain ⟨g_1, h⟩ := fp_gd_s h
  obtain ⟨M_2, eM_2, h⟩ := fp_lt_s h
  refine fp_iast E hG fp_cc123.1 (fp_a28 fp_cc123) (fp_in_s g_1) dX12_takeRead_172 (fun H locs hG => ?_)
  replace hG := fp_memH eM_2 hG
  exact fp_retv E hG (Option.some.inj h) dX12_takeRead_173
set_option maxHeartbeats 2000000 in
theorem w_X12_takeRead_108 {p : Program} {l : Launch} {e : Env} {s : State} {m : MethodId} {args : Array Value} {below : List Frame} {meth : Method} {c : Code} {D : va_G} {G : Nat → ClassId} {B : Nat} {M' : fp_Mem} (E : fp_EV p s m args meth c cX12_takeRead 2 RX12 none D G) : ∀ (n : Nat) (v1 : Int32) (M : fp_Mem) {H : Heap} {locs : List Loc} {ls : Array Slot}, fp_H D G B s M H locs → lv_has ls 2 [(0, .ref (B + 120)), (1, .int v1)] → m_X12_takeRead_108 n v1 M = some M' → W p l e rm_X12_takeRead s m args below meth c H locs 0 0 (MQ below (fp_Qv D G B M') args s 0 0 (fp_A B)) (F0 m 108 ls []) := by
  have hx := E.1
  have hb := E.2.1
  have hown := E.2.2.2.1
  intro n
  induction n with
  | zero =>
    intro v1 M H locs ls hG hl h
    exact nomatch h
  | succ n ih =>
    have ihK := @ih
    intro v1 M H locs ls hG hl h
    rw [m_X12_takeRead_108] at h
    refine lv_iload_n hx hb dX12_takeRead_108 rfl (lv_at hl 1 rfl) ?_
    refine lv_aload_n hx hb dX12_takeRead_109 rfl (lv_at hl 0 rfl) ?_
    refine fp_g12_1 E hG tw_806 dX12_takeRead_110 ?_
    refine lv_icmp_ge (tgt := 149) hx hb dX12_takeRead_113 (by decide) (fun q => ?_) (fun q => ?_)
    · replace h := fp_ifT q h
      refine lv_aload_n hx hb dX12_takeRead_149 rfl (lv_at hl 0 rfl) ?_
      refine fp_g12_5 E hG tw_810 dX12_takeRead_150 ?_
      refine lv_bipush (v := (nI 18)) hx hb dX12_takeRead_153 (by decide) ?_
      refine lv_aload_n hx hb dX12_takeRead_155 rfl (lv_at hl 0 rfl) ?_
      refine fp_g12_14 E hG tw_819 dX12_takeRead_156 ?_
      refine lv_if_eq (tgt := 171) hx hb dX12_takeRead_159 (by decide) (fun q => ?_) (fun q => ?_)
      · replace h := fp_ifT q h
        refine lv_iconst (v := (nI 0)) hx hb dX12_takeRead_171 (by decide) ?_
        exact w_X12_takeRead_172 E   _ _ _ hG (lv_sub hl [] rfl) h
      · replace h := fp_ifF q h
        refine lv_aload_n hx hb dX12_takeRead_162 rfl (lv_at hl 0 rfl) ?_
        refine fp_g12_15 E hG tw_820 dX12_takeRead_163 ?_
        refine lv_iconst (v := (nI 1)) hx hb dX12_takeRead_166 (by decide) ?_
        obtain ⟨g_3, h⟩ := fp_gd_s h
        refine fp_iald E hG fp_cc125.1 (fp_a26 fp_cc125) (fp_in_s g_3) dX12_takeRead_167 ?_
        refine lv_goto (tgt := 172) hx hb dX12_takeRead_168 (by decide) ?_
        exact w_X12_takeRead_172 E   _ _ _ hG (lv_sub hl [] rfl) h
    · replace h := fp_ifF q h
      refine lv_aload_n hx hb dX12_takeRead_116 rfl (lv_at hl 0 rfl) ?_
      refine fp_g12_5 E hG tw_810 dX12_takeRead_117 ?_
      refine lv_iload_n hx hb dX12_takeRead_120 rfl (lv_at hl 1 rfl) ?_
      refine lv_aload_n hx hb dX12_takeRead_121 rfl (lv_at hl 0 rfl) ?_
      refine fp_g12_17 E hG tw_822 dX12_takeRead_122 ?_
      refine lv_iload_n hx hb dX12_takeRead_125 rfl (lv_at hl 1 rfl) ?_
      obtain ⟨g_4, h⟩ := fp_gd_s h
      refine fp_iald E hG fp_cc126.1 (fp_a20 fp_cc126) (fp_in_s g_4) dX12_takeRead_126 ?_
      obtain ⟨g_5, h⟩ := fp_gd_s h
      obtain ⟨M_6, eM_6, h⟩ := fp_lt_s h
      refine fp_iast E hG fp_cc123.1 (fp_a28 fp_cc123) (fp_in_s g_5) dX12_takeRead_127 (fun H locs hG => ?_)
      replace hG := fp_memH eM_6 hG
      refine lv_aload_n hx hb dX12_takeRead_128 rfl (lv_at hl 0 rfl) ?_
      refine fp_g12_5 E hG tw_810 dX12_takeRead_129 ?_
      refine lv_bipush (v := (nI 9)) hx hb dX12_takeRead_132 (by decide) ?_
      refine lv_iload_n hx hb dX12_takeRead_134 rfl (lv_at hl 1 rfl) ?_
      refine lv_iadd hx hb dX12_takeRead_135 ?_
      refine lv_aload_n hx hb dX12_takeRead_136 rfl (lv_at hl 0 rfl) ?_
      refine fp_g12_18 E hG tw_823 dX12_takeRead_137 ?_
      refine lv_iload_n hx hb dX12_takeRead_140 rfl (lv_at hl 1 rfl) ?_
      obtain ⟨g_7, h⟩ := fp_gd_s h
      refine fp_iald E hG fp_cc127.1 (fp_a20 fp_cc127) (fp_in_s g_7) dX12_takeRead_141 ?_
      obtain ⟨g_8, h⟩ := fp_gd_s h
      obtain ⟨M_9, eM_9, h⟩ := fp_lt_s h
      refine fp_iast E hG fp_cc123.1 (fp_a28 fp_cc123) (fp_in_s g_8) dX12_takeRead_142 (fun H locs hG => ?_)
      replace hG := fp_memH eM_9 hG
      obtain ⟨x_10, ex_10, h⟩ := fp_lt_s h
      refine lv_iinc (v := x_10) (lv' := [(1, .int x_10), (0, .ref (B + 120))]) hx hb dX12_takeRead_143 hl (k := 1) rfl (by rw [ex_10]; rfl) (by decide) rfl (fun ls hl => ?_)
      refine lv_goto (tgt := 108) hx hb dX12_takeRead_146 (by decide) ?_
      exact ih _ _ hG (lv_sub hl [1, 0] rfl) h
set_option maxHeartbeats 2000000 in
theorem w_X12_takeRead_87 {p : Program} {l : Launch} {e : Env} {s : State} {m : MethodId} {args : Array Value} {below : List Frame} {meth : Method} {c : Code} {D : va_G} {G : Nat → ClassId} {B : Nat} {M' : fp_Mem} (E : fp_EV p s m args meth c cX12_takeRead 2 RX12 none D G) : ∀ (n : Nat) (v1 : Int32) (M : fp_Mem) {H : Heap} {locs : List Loc} {ls : Array Slot}, fp_H D G B s M H locs → lv_has ls 2 [(0, .ref (B + 120)), (1, .int v1)] → m_X12_takeRead_87 n v1 M = some M' → W p l e rm_X12_takeRead s m args below meth c H locs 0 0 (MQ below (fp_Qv D G B M') args s 0 0 (fp_A B)) (F0 m 87 ls []) := by
  have hx := E.1
  have hb := E.2.1
  have hown := E.2.2.2.1
  intro n
  induction n with
  | zero =>
    intro v1 M H locs ls hG hl h
    exact nomatch h
  | succ n ih =>
    have ihK := @ih
    intro v1 M H locs ls hG hl h
    rw [m_X12_takeRead_87] at h
    refine lv_iload_n hx hb dX12_takeRead_87 rfl (lv_at hl 1 rfl) ?_
    refine lv_bipush (v := (nI 25)) hx hb dX12_takeRead_88 (by decide) ?_
    refine lv_icmp_ge (tgt := 106) hx hb dX12_takeRead_90 (by decide) (fun q => ?_) (fun q => ?_)
    · replace h := fp_ifT q h
      refine lv_iconst (v := (nI 0)) hx hb dX12_takeRead_106 (by decide) ?_
      refine lv_istore_n (lv' := [(1, .int (nI 0)), (0, .ref (B + 120))]) hx hb dX12_takeRead_107 rfl hl (by decide) rfl (fun ls hl => ?_)
      exact w_X12_takeRead_108 E   fp_fu _ _ hG (lv_sub hl [1, 0] rfl) h
    · replace h := fp_ifF q h
      refine lv_aload_n hx hb dX12_takeRead_93 rfl (lv_at hl 0 rfl) ?_
      refine fp_g12_5 E hG tw_810 dX12_takeRead_94 ?_
      refine lv_iload_n hx hb dX12_takeRead_97 rfl (lv_at hl 1 rfl) ?_
      refine lv_iconst (v := (nI 0)) hx hb dX12_takeRead_98 (by decide) ?_
      obtain ⟨g_11, h⟩ := fp_gd_s h
      obtain ⟨M_12, eM_12, h⟩ := fp_lt_s h
      refine fp_iast E hG fp_cc123.1 (fp_a28 fp_cc123) (fp_in_s g_11) dX12_takeRead_99 (fun H locs hG => ?_)
      replace hG := fp_memH eM_12 hG
      obtain ⟨x_13, ex_13, h⟩ := fp_lt_s h
      refine lv_iinc (v := x_13) (lv' := [(1, .int x_13), (0, .ref (B + 120))]) hx hb dX12_takeRead_100 hl (k := 1) rfl (by rw [ex_13]; rfl) (by decide) rfl (fun ls hl => ?_)
      refine lv_goto (tgt := 87) hx hb dX12_takeRead_103 (by decide) ?_
      exact ih _ _ hG (lv_sub hl [1, 0] rfl) h
set_option maxHeartbeats 2000000 in
theorem w_X12_takeRead_47 {p : Program} {l : Launch} {e : Env} {s : State} {m : MethodId} {args : Array Value} {below : List Frame} {meth : Method} {c : Code} {D : va_G} {G : Nat → ClassId} {B : Nat} {M' : fp_Mem} (E : fp_EV p s m args meth c cX12_takeRead 2 RX12 none D G) : ∀ (n : Nat) (v1 : Int32) (M : fp_Mem) {H : Heap} {locs : List Loc} {ls : Array Slot}, fp_H D G B s M H locs → lv_has ls 2 [(0, .ref (B + 120)), (1, .int v1)] → m_X12_takeRead_47 n v1 M = some M' → W p l e rm_X12_takeRead s m args below meth c H locs 0 0 (MQ below (fp_Qv D G B M') args s 0 0 (fp_A B)) (F0 m 47 ls []) := by
  have hx := E.1
  have hb := E.2.1
  have hown := E.2.2.2.1
  intro n
  induction n with
  | zero =>
    intro v1 M H locs ls hG hl h
    exact nomatch h
  | succ n ih =>
    have ihK := @ih
    intro v1 M H locs ls hG hl h
    rw [m_X12_takeRead_47] at h
    refine lv_iload_n hx hb dX12_takeRead_47 rfl (lv_at hl 1 rfl) ?_
    refine lv_aload_n hx hb dX12_takeRead_48 rfl (lv_at hl 0 rfl) ?_
    refine fp_g12_2 E hG tw_807 dX12_takeRead_49 ?_
    refine lv_icmp_ge (tgt := 85) hx hb dX12_takeRead_52 (by decide) (fun q => ?_) (fun q => ?_)
    · replace h := fp_ifT q h
      refine lv_iconst (v := (nI 0)) hx hb dX12_takeRead_85 (by decide) ?_
      refine lv_istore_n (lv' := [(1, .int (nI 0)), (0, .ref (B + 120))]) hx hb dX12_takeRead_86 rfl hl (by decide) rfl (fun ls hl => ?_)
      exact w_X12_takeRead_87 E   fp_fu _ _ hG (lv_sub hl [1, 0] rfl) h
    · replace h := fp_ifF q h
      refine lv_aload_n hx hb dX12_takeRead_55 rfl (lv_at hl 0 rfl) ?_
      refine fp_g12_3 E hG tw_808 dX12_takeRead_56 ?_
      refine lv_iload_n hx hb dX12_takeRead_59 rfl (lv_at hl 1 rfl) ?_
      refine lv_aload_n hx hb dX12_takeRead_60 rfl (lv_at hl 0 rfl) ?_
      refine fp_g12_20 E hG tw_825 dX12_takeRead_61 ?_
      refine lv_iload_n hx hb dX12_takeRead_64 rfl (lv_at hl 1 rfl) ?_
      obtain ⟨g_14, h⟩ := fp_gd_s h
      refine fp_iald E hG fp_cc128.1 (fp_a21 fp_cc128) (fp_in_s g_14) dX12_takeRead_65 ?_
      obtain ⟨g_15, h⟩ := fp_gd_s h
      obtain ⟨M_16, eM_16, h⟩ := fp_lt_s h
      refine fp_iast E hG fp_cc121.1 (fp_a21 fp_cc121) (fp_in_s g_15) dX12_takeRead_66 (fun H locs hG => ?_)
      replace hG := fp_memH eM_16 hG
      refine lv_aload_n hx hb dX12_takeRead_67 rfl (lv_at hl 0 rfl) ?_
      refine fp_g12_4 E hG tw_809 dX12_takeRead_68 ?_
      refine lv_iload_n hx hb dX12_takeRead_71 rfl (lv_at hl 1 rfl) ?_
      refine lv_aload_n hx hb dX12_takeRead_72 rfl (lv_at hl 0 rfl) ?_
      refine fp_g12_21 E hG tw_826 dX12_takeRead_73 ?_
      refine lv_iload_n hx hb dX12_takeRead_76 rfl (lv_at hl 1 rfl) ?_
      obtain ⟨g_17, h⟩ := fp_gd_s h
      refine fp_iald E hG fp_cc129.1 (fp_a21 fp_cc129) (fp_in_s g_17) dX12_takeRead_77 ?_
      obtain ⟨g_18, h⟩ := fp_gd_s h
      obtain ⟨M_19, eM_19, h⟩ := fp_lt_s h
      refine fp_iast E hG fp_cc122.1 (fp_a21 fp_cc122) (fp_in_s g_18) dX12_takeRead_78 (fun H locs hG => ?_)
      replace hG := fp_memH eM_19 hG
      obtain ⟨x_20, ex_20, h⟩ := fp_lt_s h
      refine lv_iinc (v := x_20) (lv' := [(1, .int x_20), (0, .ref (B + 120))]) hx hb dX12_takeRead_79 hl (k := 1) rfl (by rw [ex_20]; rfl) (by decide) rfl (fun ls hl => ?_)
      refine lv_goto (tgt := 47) hx hb dX12_takeRead_82 (by decide) ?_
      exact ih _ _ hG (lv_sub hl [1, 0] rfl) h
set_option maxHeartbeats 2000000 in
theorem w_X12_takeRead_26 {p : Program} {l : Launch} {e : Env} {s : State} {m : MethodId} {args : Array Value} {below : List Frame} {meth : Method} {c : Code} {D : va_G} {G : Nat → ClassId} {B : Nat} {M' : fp_Mem} (E : fp_EV p s m args meth c cX12_takeRead 2 RX12 none D G) (s1 : Int32) (M : fp_Mem) {H : Heap} {locs : List Loc} {ls : Array Slot} (hG : fp_H D G B s M H locs) (hl : lv_has ls 2 [(0, .ref (B + 120))]) (h : m_X12_takeRead_26 s1 M = some M') : W p l e rm_X12_takeRead s m args below meth c H locs 0 0 (MQ below (fp_Qv D G B M') args s 0 0 (fp_A B)) (F0 m 26 ls [.int s1, .ref (B + 120)]) := by
  have hx := E.1
  have hb := E.2.1
  have hown := E.2.2.2.1
  unfold m_X12_takeRead_26 at h
  obtain ⟨M_21, eM_21, h⟩ := fp_lt_s h
  refine fp_p12_0 E hG tw_805 dX12_takeRead_26 (fun H locs hG => ?_)
  replace hG := fp_memH eM_21 hG
  refine lv_aload_n hx hb dX12_takeRead_29 rfl (lv_at hl 0 rfl) ?_
  refine lv_aload_n hx hb dX12_takeRead_30 rfl (lv_at hl 0 rfl) ?_
  refine fp_g12_16 E hG tw_821 dX12_takeRead_31 ?_
  obtain ⟨M_22, eM_22, h⟩ := fp_lt_s h
  refine fp_p12_1 E hG tw_806 dX12_takeRead_34 (fun H locs hG => ?_)
  replace hG := fp_memH eM_22 hG
  refine lv_aload_n hx hb dX12_takeRead_37 rfl (lv_at hl 0 rfl) ?_
  refine lv_aload_n hx hb dX12_takeRead_38 rfl (lv_at hl 0 rfl) ?_
  refine fp_g12_19 E hG tw_824 dX12_takeRead_39 ?_
  obtain ⟨M_23, eM_23, h⟩ := fp_lt_s h
  refine fp_p12_2 E hG tw_807 dX12_takeRead_42 (fun H locs hG => ?_)
  replace hG := fp_memH eM_23 hG
  refine lv_iconst (v := (nI 0)) hx hb dX12_takeRead_45 (by decide) ?_
  refine lv_istore_n (lv' := [(1, .int (nI 0)), (0, .ref (B + 120))]) hx hb dX12_takeRead_46 rfl hl (by decide) rfl (fun ls hl => ?_)
  exact w_X12_takeRead_47 E   fp_fu _ _ hG (lv_sub hl [1, 0] rfl) h
set_option maxHeartbeats 2000000 in
theorem w_X12_takeRead_0 {p : Program} {l : Launch} {e : Env} {s : State} {m : MethodId} {args : Array Value} {below : List Frame} {meth : Method} {c : Code} {D : va_G} {G : Nat → ClassId} {B : Nat} {M' : fp_Mem} (E : fp_EV p s m args meth c cX12_takeRead 2 RX12 none D G) {M : fp_Mem} {H : Heap} {locs : List Loc} {ls : Array Slot} (hG : fp_H D G B s M H locs) (hl : lv_has ls 2 [(0, .ref (B + 120))]) (h : m_X12_takeRead M = some M') : W p l e rm_X12_takeRead s m args below meth c H locs 0 0 (MQ below (fp_Qv D G B M') args s 0 0 (fp_A B)) (F0 m 0 ls []) := by
  have hx := E.1
  have hb := E.2.1
  have hown := E.2.2.2.1
  unfold m_X12_takeRead at h
  refine lv_aload_n hx hb dX12_takeRead_0 rfl (lv_at hl 0 rfl) ?_
  refine lv_aload_n hx hb dX12_takeRead_1 rfl (lv_at hl 0 rfl) ?_
  refine fp_g12_14 E hG tw_819 dX12_takeRead_2 ?_
  obtain ⟨g_24, h⟩ := fp_gd_s h
  obtain ⟨M_25, eM_25, h⟩ := fp_lt_s h
  refine fp_p12_7 E hG tw_812 g_24 dX12_takeRead_5 (fun H locs hG => ?_)
  replace hG := fp_memH eM_25 hG
  refine lv_aload_n hx hb dX12_takeRead_8 rfl (lv_at hl 0 rfl) ?_
  refine lv_aload_n hx hb dX12_takeRead_9 rfl (lv_at hl 0 rfl) ?_
  refine fp_g12_14 E hG tw_819 dX12_takeRead_10 ?_
  refine lv_if_eq (tgt := 25) hx hb dX12_takeRead_13 (by decide) (fun q => ?_) (fun q => ?_)
  · replace h := fp_ifT q h
    refine lv_iconst (v := (nI 0)) hx hb dX12_takeRead_25 (by decide) ?_
    exact w_X12_takeRead_26 E   _ _ hG (lv_sub hl [0] rfl) h
  · replace h := fp_ifF q h
    refine lv_aload_n hx hb dX12_takeRead_16 rfl (lv_at hl 0 rfl) ?_
    refine fp_g12_15 E hG tw_820 dX12_takeRead_17 ?_
    refine lv_iconst (v := (nI 0)) hx hb dX12_takeRead_20 (by decide) ?_
    obtain ⟨g_26, h⟩ := fp_gd_s h
    refine fp_iald E hG fp_cc125.1 (fp_a26 fp_cc125) (fp_in_s g_26) dX12_takeRead_21 ?_
    refine lv_goto (tgt := 26) hx hb dX12_takeRead_22 (by decide) ?_
    exact w_X12_takeRead_26 E   _ _ hG (lv_sub hl [0] rfl) h
theorem c_X12_takeRead (l : Launch) (D : va_G) (G : Nat → ClassId) (B : Nat) {M : fp_Mem}   {M' : fp_Mem}  (h : m_X12_takeRead M = some M') : Met l yX12_takeRead (Cond.code yX12_takeRead cX12_takeRead 2 none :: fp_T) rm_X12_takeRead (va_Pc [.ref (B + 120)] (fp_GS D G B M)) (fp_Qv D G B M') 0 0 (fp_A B) :=
  fp_met (own := RX12) (by decide) rfl (Nat.le_of_ble_eq_true rfl) (fun E hG hl => w_X12_takeRead_0 E  hG hl h)
abbrev rm_X12_realm : Room := { frames := 5, cells := 0, slots := 0, locals := 119 }
theorem cv_X12_realm : fp_CV yX12_realm cX12_realm 2 (some .int) 0 := ⟨tw_924, tw_13, by decide, by decide +kernel⟩
set_option maxHeartbeats 2000000 in
theorem w_X12_realm_46 {p : Program} {l : Launch} {e : Env} {s : State} {m : MethodId} {args : Array Value} {below : List Frame} {meth : Method} {c : Code} {D : va_G} {G : Nat → ClassId} {B : Nat} {r : Int32} {M' : fp_Mem} (E : fp_EV p s m args meth c cX12_realm 2 RX12 (some .int) D G) (v1 : Int32) (M : fp_Mem) {H : Heap} {locs : List Loc} {ls : Array Slot} (hG : fp_H D G B s M H locs) (hl : lv_has ls 2 [(0, .ref (B + 120)), (1, .int v1)]) (h : m_X12_realm_46 v1 M = some (r, M')) : W p l e rm_X12_realm s m args below meth c H locs 0 0 (MQ below (fp_Qi D G B r M') args s 0 0 (fp_A B)) (F0 m 46 ls []) := by
  have hx := E.1
  have hb := E.2.1
  have hown := E.2.2.2.1
  unfold m_X12_realm_46 at h
  refine lv_aload_n hx hb dX12_realm_46 rfl (lv_at hl 0 rfl) ?_
  refine lv_iconst (v := (nI 0)) hx hb dX12_realm_47 (by decide) ?_
  obtain ⟨M_1, eM_1, h⟩ := fp_lt_s h
  refine fp_p12_9 E hG tw_814 dX12_realm_48 (fun H locs hG => ?_)
  replace hG := fp_memH eM_1 hG
  refine lv_iload_n hx hb dX12_realm_51 rfl (lv_at hl 1 rfl) ?_
  refine lv_if_le (tgt := 60) hx hb dX12_realm_52 (by decide) (fun q => ?_) (fun q => ?_)
  · replace h := fp_ifT q h
    refine lv_aload_n hx hb dX12_realm_60 rfl (lv_at hl 0 rfl) ?_
    obtain ⟨M_2, c_3, h⟩ := fp_b1_s h
    refine fp_callVv (As := []) (rest := []) E hG (c_X12_takeRead l D G B c_3) cv_X12_takeRead tw_963 tw_965 ts_26 ⟨rfl, rfl⟩ ⟨Nat.le_of_ble_eq_true rfl, Nat.le_of_ble_eq_true rfl⟩ (fp_recv E hG (by decide) (fp_o12 _) rfl) rfl rfl (Nat.le_of_ble_eq_true rfl) hl.1 dX12_realm_61 ⟨Nat.zero_le _, Nat.zero_le _⟩ (fun H locs hG => ?_)
    refine lv_aload_n hx hb dX12_realm_64 rfl (lv_at hl 0 rfl) ?_
    refine lv_iconst (v := (nI 0)) hx hb dX12_realm_65 (by decide) ?_
    obtain ⟨M_4, eM_4, h⟩ := fp_lt_s h
    refine fp_p12_27 E hG tw_832 dX12_realm_66 (fun H locs hG => ?_)
    replace hG := fp_memH eM_4 hG
    refine lv_aload_n hx hb dX12_realm_69 rfl (lv_at hl 0 rfl) ?_
    refine lv_iconst (v := (nI 0)) hx hb dX12_realm_70 (by decide) ?_
    obtain ⟨M_5, eM_5, h⟩ := fp_lt_s h
    refine fp_p12_30 E hG tw_835 dX12_realm_71 (fun H locs hG => ?_)
    replace hG := fp_memH eM_5 hG
    refine lv_aload_n hx hb dX12_realm_74 rfl (lv_at hl 0 rfl) ?_
    refine lv_iconst (v := (nI 0)) hx hb dX12_realm_75 (by decide) ?_
    obtain ⟨M_6, eM_6, h⟩ := fp_lt_s h
    refine fp_p12_23 E hG tw_828 dX12_realm_76 (fun H locs hG => ?_)
    replace hG := fp_memH eM_6 hG
    refine lv_aload_n hx hb dX12_realm_79 rfl (lv_at hl 0 rfl) ?_
    refine fp_g12_34 E hG tw_839 dX12_realm_80 ?_
    refine lv_iconst (v := (nI 0)) hx hb dX12_realm_83 (by decide) ?_
    refine lv_iconst (v := (nI 0)) hx hb dX12_realm_84 (by decide) ?_
    obtain ⟨g_7, h⟩ := fp_gd_s h
    obtain ⟨M_8, eM_8, h⟩ := fp_lt_s h
    refine fp_zast E hG fp_cc139.1 (fp_a27 fp_cc139) (fp_in_s g_7) dX12_realm_85 (fun H locs hG => ?_)
    replace hG := fp_memH eM_8 hG
    refine lv_aload_n hx hb dX12_realm_86 rfl (lv_at hl 0 rfl) ?_
    refine fp_g12_34 E hG tw_839 dX12_realm_87 ?_
    refine lv_iconst (v := (nI 1)) hx hb dX12_realm_90 (by decide) ?_
    refine lv_iconst (v := (nI 0)) hx hb dX12_realm_91 (by decide) ?_
    obtain ⟨g_9, h⟩ := fp_gd_s h
    obtain ⟨M_10, eM_10, h⟩ := fp_lt_s h
    refine fp_zast E hG fp_cc139.1 (fp_a27 fp_cc139) (fp_in_s g_9) dX12_realm_92 (fun H locs hG => ?_)
    replace hG := fp_memH eM_10 hG
    refine lv_aload_n hx hb dX12_realm_93 rfl (lv_at hl 0 rfl) ?_
    refine fp_g12_1 E hG tw_806 dX12_realm_94 ?_
    exact fp_ireti E hG (fp_pr1 h) (fp_pr2 h) dX12_realm_97
  · replace h := fp_ifF q h
    refine lv_bipush (v := (-10 : Int32)) hx hb dX12_realm_55 (by decide) ?_
    refine lv_iload_n hx hb dX12_realm_57 rfl (lv_at hl 1 rfl) ?_
    refine lv_isub hx hb dX12_realm_58 ?_
    exact fp_ireti E hG (fp_pr1 h) (fp_pr2 h) dX12_realm_59
set_option maxHeartbeats 2000000 in
theorem w_X12_realm_27 {p : Program} {l : Launch} {e : Env} {s : State} {m : MethodId} {args : Array Value} {below : List Frame} {meth : Method} {c : Code} {D : va_G} {G : Nat → ClassId} {B : Nat} {r : Int32} {M' : fp_Mem} (E : fp_EV p s m args meth c cX12_realm 2 RX12 (some .int) D G) : ∀ (n : Nat) (v1 : Int32) (M : fp_Mem) {H : Heap} {locs : List Loc} {ls : Array Slot}, fp_H D G B s M H locs → lv_has ls 2 [(0, .ref (B + 120)), (1, .int v1)] → m_X12_realm_27 n v1 M = some (r, M') → W p l e rm_X12_realm s m args below meth c H locs 0 0 (MQ below (fp_Qi D G B r M') args s 0 0 (fp_A B)) (F0 m 27 ls []) := by
  have hx := E.1
  have hb := E.2.1
  have hown := E.2.2.2.1
  intro n
  induction n with
  | zero =>
    intro v1 M H locs ls hG hl h
    exact nomatch h
  | succ n ih =>
    have ihK := @ih
    intro v1 M H locs ls hG hl h
    rw [m_X12_realm_27] at h
    refine lv_iload_n hx hb dX12_realm_27 rfl (lv_at hl 1 rfl) ?_
    refine lv_if_ne (tgt := 46) hx hb dX12_realm_28 (by decide) (fun q => ?_) (fun q => ?_)
    · replace h := fp_ifF q h
      exact w_X12_realm_46 E   _ _ hG (lv_sub hl [0, 1] rfl) h
    · replace h := fp_ifT q h
      refine lv_aload_n hx hb dX12_realm_31 rfl (lv_at hl 0 rfl) ?_
      obtain ⟨r_11, M_12, c_13, h⟩ := fp_b2_s h
      refine fp_callVi (As := []) (rest := []) E hG (c_X12_here l D G B c_13) cv_X12_here tw_925 tw_927 ts_17 ⟨rfl, rfl⟩ ⟨Nat.le_of_ble_eq_true rfl, Nat.le_of_ble_eq_true rfl⟩ (fp_recv E hG (by decide) (fp_o12 _) rfl) rfl rfl (Nat.le_of_ble_eq_true rfl) hl.1 dX12_realm_32 ⟨Nat.zero_le _, Nat.zero_le _⟩ (fun H locs hG => ?_)
      refine lv_if_lt (tgt := 46) hx hb dX12_realm_35 (by decide) (fun q => ?_) (fun q => ?_)
      · replace h := fp_ifT q h
        exact w_X12_realm_46 E   _ _ hG (lv_sub hl [0, 1] rfl) h
      · replace h := fp_ifF q h
        refine lv_aload_n hx hb dX12_realm_38 rfl (lv_at hl 0 rfl) ?_
        obtain ⟨r_14, M_15, c_16, h⟩ := fp_b2_s h
        refine fp_callVi (As := []) (rest := []) E hG (c_X12_takeClause l D G B c_16) cv_X12_takeClause tw_929 tw_931 ts_18 ⟨rfl, rfl⟩ ⟨Nat.le_of_ble_eq_true rfl, Nat.le_of_ble_eq_true rfl⟩ (fp_recv E hG (by decide) (fp_o12 _) rfl) rfl rfl (Nat.le_of_ble_eq_true rfl) hl.1 dX12_realm_39 ⟨Nat.zero_le _, Nat.zero_le _⟩ (fun H locs hG => ?_)
        refine lv_istore_n (lv' := [(1, .int r_14), (0, .ref (B + 120))]) hx hb dX12_realm_42 rfl hl (by decide) rfl (fun ls hl => ?_)
        refine lv_goto (tgt := 27) hx hb dX12_realm_43 (by decide) ?_
        exact ih _ _ hG (lv_sub hl [1, 0] rfl) h
set_option maxHeartbeats 2000000 in
theorem w_X12_realm_0 {p : Program} {l : Launch} {e : Env} {s : State} {m : MethodId} {args : Array Value} {below : List Frame} {meth : Method} {c : Code} {D : va_G} {G : Nat → ClassId} {B : Nat} {r : Int32} {M' : fp_Mem} (E : fp_EV p s m args meth c cX12_realm 2 RX12 (some .int) D G) {M : fp_Mem} {H : Heap} {locs : List Loc} {ls : Array Slot} (hG : fp_H D G B s M H locs) (hl : lv_has ls 2 [(0, .ref (B + 120))]) (h : m_X12_realm M = some (r, M')) : W p l e rm_X12_realm s m args below meth c H locs 0 0 (MQ below (fp_Qi D G B r M') args s 0 0 (fp_A B)) (F0 m 0 ls []) := by
  have hx := E.1
  have hb := E.2.1
  have hown := E.2.2.2.1
  unfold m_X12_realm at h
  refine lv_aload_n hx hb dX12_realm_0 rfl (lv_at hl 0 rfl) ?_
  refine lv_iconst (v := (-1 : Int32)) hx hb dX12_realm_1 (by decide) ?_
  obtain ⟨M_17, eM_17, h⟩ := fp_lt_s h
  refine fp_p12_10 E hG tw_815 dX12_realm_2 (fun H locs hG => ?_)
  replace hG := fp_memH eM_17 hG
  refine lv_aload_n hx hb dX12_realm_5 rfl (lv_at hl 0 rfl) ?_
  refine lv_iconst (v := (nI 0)) hx hb dX12_realm_6 (by decide) ?_
  obtain ⟨M_18, eM_18, h⟩ := fp_lt_s h
  refine fp_p12_11 E hG tw_816 dX12_realm_7 (fun H locs hG => ?_)
  replace hG := fp_memH eM_18 hG
  refine lv_aload_n hx hb dX12_realm_10 rfl (lv_at hl 0 rfl) ?_
  refine lv_iconst (v := (nI 0)) hx hb dX12_realm_11 (by decide) ?_
  obtain ⟨M_19, eM_19, h⟩ := fp_lt_s h
  refine fp_p12_14 E hG tw_819 rfl dX12_realm_12 (fun H locs hG => ?_)
  replace hG := fp_memH eM_19 hG
  refine lv_aload_n hx hb dX12_realm_15 rfl (lv_at hl 0 rfl) ?_
  refine lv_iconst (v := (nI 0)) hx hb dX12_realm_16 (by decide) ?_
  obtain ⟨M_20, eM_20, h⟩ := fp_lt_s h
  refine fp_p12_16 E hG tw_821 dX12_realm_17 (fun H locs hG => ?_)
  replace hG := fp_memH eM_20 hG
  refine lv_aload_n hx hb dX12_realm_20 rfl (lv_at hl 0 rfl) ?_
  refine lv_iconst (v := (nI 0)) hx hb dX12_realm_21 (by decide) ?_
  obtain ⟨M_21, eM_21, h⟩ := fp_lt_s h
  refine fp_p12_19 E hG tw_824 dX12_realm_22 (fun H locs hG => ?_)
  replace hG := fp_memH eM_21 hG
  refine lv_iconst (v := (nI 0)) hx hb dX12_realm_25 (by decide) ?_
  refine lv_istore_n (lv' := [(1, .int (nI 0)), (0, .ref (B + 120))]) hx hb dX12_realm_26 rfl hl (by decide) rfl (fun ls hl => ?_)
  exact w_X12_realm_27 E   fp_fu _ _ hG (lv_sub hl [1, 0] rfl) h
theorem c_X12_realm (l : Launch) (D : va_G) (G : Nat → ClassId) (B : Nat) {M : fp_Mem}   {r : Int32} {M' : fp_Mem}  (h : m_X12_realm M = some (r, M')) : Met l yX12_realm (Cond.code yX12_realm cX12_realm 2 (some .int) :: fp_T) rm_X12_realm (va_Pc [.ref (B + 120)] (fp_GS D G B M)) (fp_Qi D G B r M') 0 0 (fp_A B) :=
  fp_met (own := RX12) (by decide) rfl (Nat.le_of_ble_eq_true rfl) (fun E hG hl => w_X12_realm_0 E  hG hl h)
abbrev rm_X12_fault : Room := { frames := 0, cells := 0, slots := 0, locals := 0 }
theorem cv_X12_fault : fp_CV yX12_fault cX12_fault 1 (some .int) 0 := ⟨tw_970, tw_13, by decide, by decide +kernel⟩
set_option maxHeartbeats 2000000 in
theorem w_X12_fault_0 {p : Program} {l : Launch} {e : Env} {s : State} {m : MethodId} {args : Array Value} {below : List Frame} {meth : Method} {c : Code} {D : va_G} {G : Nat → ClassId} {B : Nat} {M : fp_Mem} {r : Int32} (E : fp_EV p s m args meth c cX12_fault 1 RX12 (some .int) D G) {H : Heap} {locs : List Loc} {ls : Array Slot} (hG : fp_H D G B s M H locs) (hl : lv_has ls 1 [(0, .ref (B + 120))]) (h : m_X12_fault M = some r) : W p l e rm_X12_fault s m args below meth c H locs 0 0 (MQ below (fp_Qi D G B r M) args s 0 0 (fp_A B)) (F0 m 0 ls []) := by
  have hx := E.1
  have hb := E.2.1
  have hown := E.2.2.2.1
  unfold m_X12_fault at h
  refine lv_aload_n hx hb dX12_fault_0 rfl (lv_at hl 0 rfl) ?_
  refine fp_g12_10 E hG tw_815 dX12_fault_1 ?_
  exact fp_ireti E hG (Option.some.inj h) rfl dX12_fault_4
theorem c_X12_fault (l : Launch) (D : va_G) (G : Nat → ClassId) (B : Nat) {M : fp_Mem}   {r : Int32}  (h : m_X12_fault M = some r) : Met l yX12_fault (Cond.code yX12_fault cX12_fault 1 (some .int) :: fp_T) rm_X12_fault (va_Pc [.ref (B + 120)] (fp_GS D G B M)) (fp_Qi D G B r M) 0 0 (fp_A B) :=
  fp_met (own := RX12) (by decide) rfl (Nat.le_of_ble_eq_true rfl) (fun E hG hl => w_X12_fault_0 E  hG hl h)
abbrev rm_X12_free : Room := { frames := 0, cells := 0, slots := 0, locals := 0 }
theorem cv_X12_free : fp_CV yX12_free cX12_free 2 (some .int) 1 := ⟨tw_986, tw_13, by decide, by decide +kernel⟩
set_option maxHeartbeats 2000000 in
theorem w_X12_free_0 {p : Program} {l : Launch} {e : Env} {s : State} {m : MethodId} {args : Array Value} {below : List Frame} {meth : Method} {c : Code} {D : va_G} {G : Nat → ClassId} {B : Nat} {M : fp_Mem} {p1 : Int32} {r : Int32} (E : fp_EV p s m args meth c cX12_free 2 RX12 (some .int) D G) {H : Heap} {locs : List Loc} {ls : Array Slot} (hG : fp_H D G B s M H locs) (hl : lv_has ls 2 [(0, .ref (B + 120)), (1, .int p1)]) (h : m_X12_free M p1 = some r) : W p l e rm_X12_free s m args below meth c H locs 0 0 (MQ below (fp_Qi D G B r M) args s 0 0 (fp_A B)) (F0 m 0 ls []) := by
  have hx := E.1
  have hb := E.2.1
  have hown := E.2.2.2.1
  unfold m_X12_free at h
  refine lv_aload_n hx hb dX12_free_0 rfl (lv_at hl 0 rfl) ?_
  refine fp_g12_5 E hG tw_810 dX12_free_1 ?_
  refine lv_iload_n hx hb dX12_free_4 rfl (lv_at hl 1 rfl) ?_
  obtain ⟨g_1, h⟩ := fp_gd_s h
  refine fp_iald E hG fp_cc123.1 (fp_a28 fp_cc123) (fp_in_s g_1) dX12_free_5 ?_
  refine lv_aload_n hx hb dX12_free_6 rfl (lv_at hl 0 rfl) ?_
  refine fp_g12_5 E hG tw_810 dX12_free_7 ?_
  refine lv_bipush (v := (nI 9)) hx hb dX12_free_10 (by decide) ?_
  refine lv_iload_n hx hb dX12_free_12 rfl (lv_at hl 1 rfl) ?_
  refine lv_iadd hx hb dX12_free_13 ?_
  obtain ⟨g_2, h⟩ := fp_gd_s h
  refine fp_iald E hG fp_cc123.1 (fp_a28 fp_cc123) (fp_in_s g_2) dX12_free_14 ?_
  refine lv_isub hx hb dX12_free_15 ?_
  exact fp_ireti E hG (Option.some.inj h) rfl dX12_free_16
theorem c_X12_free (l : Launch) (D : va_G) (G : Nat → ClassId) (B : Nat) {M : fp_Mem}  {p1 : Int32} {r : Int32}  (h : m_X12_free M p1 = some r) : Met l yX12_free (Cond.code yX12_free cX12_free 2 (some .int) :: fp_T) rm_X12_free (va_Pc [.ref (B + 120), .int p1] (fp_GS D G B M)) (fp_Qi D G B r M) 0 0 (fp_A B) :=
  fp_met (own := RX12) (by decide) rfl (Nat.le_of_ble_eq_true rfl) (fun E hG hl => w_X12_free_0 E  hG hl h)
abbrev rm_X12_joined : Room := { frames := 1, cells := 0, slots := 0, locals := 21 }
theorem cv_X12_joined : fp_CV yX12_joined cX12_joined 5 (some .int) 1 := ⟨tw_998, tw_13, by decide, by decide +kernel⟩
set_option maxHeartbeats 2000000 in
theorem w_X12_joined_91 {p : Program} {l : Launch} {e : Env} {s : State} {m : MethodId} {args : Array Value} {below : List Frame} {meth : Method} {c : Code} {D : va_G} {G : Nat → ClassId} {B : Nat} {M : fp_Mem} {p1 : Int32} {K4 : Int32 → Int32 → Option (Int32)} {r : Int32} (E : fp_EV p s m args meth c cX12_joined 5 RX12 (some .int) D G) (HK4 : ∀ (wv2 : Int32) (wv3 : Int32) {H : Heap} {locs : List Loc} {ls : Array Slot}, fp_H D G B s M H locs → lv_has ls 5 [(0, .ref (B + 120)), (1, .int p1), (2, .int wv2), (3, .int wv3)] → K4 wv2 wv3 = some r → W p l e rm_X12_joined s m args below meth c H locs 0 0 (MQ below (fp_Qi D G B r M) args s 0 0 (fp_A B)) (F0 m 4 ls [])) (v3 : Int32) (s0 : Int32) (s1 : Int32) {H : Heap} {locs : List Loc} {ls : Array Slot} (hG : fp_H D G B s M H locs) (hl : lv_has ls 5 [(0, .ref (B + 120)), (1, .int p1), (3, .int v3)]) (h : m_X12_joined_91 M p1 K4 v3 s0 s1 = some r) : W p l e rm_X12_joined s m args below meth c H locs 0 0 (MQ below (fp_Qi D G B r M) args s 0 0 (fp_A B)) (F0 m 91 ls [.int s1, .int s0]) := by
  have hx := E.1
  have hb := E.2.1
  have hown := E.2.2.2.1
  unfold m_X12_joined_91 at h
  refine lv_ior hx hb dX12_joined_91 ?_
  obtain ⟨x_1, ex_1, h⟩ := fp_lt_s h
  refine fp_top ex_1 ?_
  refine lv_istore_n (lv' := [(2, .int x_1), (0, .ref (B + 120)), (1, .int p1), (3, .int v3)]) hx hb dX12_joined_92 rfl hl (by decide) rfl (fun ls hl => ?_)
  obtain ⟨x_2, ex_2, h⟩ := fp_lt_s h
  refine lv_iinc (v := x_2) (lv' := [(3, .int x_2), (2, .int x_1), (0, .ref (B + 120)), (1, .int p1)]) hx hb dX12_joined_93 hl (k := 3) rfl (by rw [ex_2]; rfl) (by decide) rfl (fun ls hl => ?_)
  refine lv_goto (tgt := 4) hx hb dX12_joined_96 (by decide) ?_
  exact HK4 _ _ hG (lv_sub hl [2, 3, 1, 0] rfl) h
set_option maxHeartbeats 2000000 in
theorem w_X12_joined_90 {p : Program} {l : Launch} {e : Env} {s : State} {m : MethodId} {args : Array Value} {below : List Frame} {meth : Method} {c : Code} {D : va_G} {G : Nat → ClassId} {B : Nat} {M : fp_Mem} {p1 : Int32} {K4 : Int32 → Int32 → Option (Int32)} {r : Int32} (E : fp_EV p s m args meth c cX12_joined 5 RX12 (some .int) D G) (HK4 : ∀ (wv2 : Int32) (wv3 : Int32) {H : Heap} {locs : List Loc} {ls : Array Slot}, fp_H D G B s M H locs → lv_has ls 5 [(0, .ref (B + 120)), (1, .int p1), (2, .int wv2), (3, .int wv3)] → K4 wv2 wv3 = some r → W p l e rm_X12_joined s m args below meth c H locs 0 0 (MQ below (fp_Qi D G B r M) args s 0 0 (fp_A B)) (F0 m 4 ls [])) (v3 : Int32) (s0 : Int32) {H : Heap} {locs : List Loc} {ls : Array Slot} (hG : fp_H D G B s M H locs) (hl : lv_has ls 5 [(0, .ref (B + 120)), (1, .int p1), (3, .int v3)]) (h : m_X12_joined_90 M p1 K4 v3 s0 = some r) : W p l e rm_X12_joined s m args below meth c H locs 0 0 (MQ below (fp_Qi D G B r M) args s 0 0 (fp_A B)) (F0 m 90 ls [.int s0]) := by
  have hx := E.1
  have hb := E.2.1
  have hown := E.2.2.2.1
  unfold m_X12_joined_90 at h
  refine lv_iconst (v := (nI 0)) hx hb dX12_joined_90 (by decide) ?_
  exact w_X12_joined_91 E  HK4 _ _ _ hG (lv_sub hl [0, 1, 2] rfl) h
set_option maxHeartbeats 2000000 in
theorem w_X12_joined_61 {p : Program} {l : Launch} {e : Env} {s : State} {m : MethodId} {args : Array Value} {below : List Frame} {meth : Method} {c : Code} {D : va_G} {G : Nat → ClassId} {B : Nat} {M : fp_Mem} {p1 : Int32} {K4 : Int32 → Int32 → Option (Int32)} {r : Int32} (E : fp_EV p s m args meth c cX12_joined 5 RX12 (some .int) D G) (HK4 : ∀ (wv2 : Int32) (wv3 : Int32) {H : Heap} {locs : List Loc} {ls : Array Slot}, fp_H D G B s M H locs → lv_has ls 5 [(0, .ref (B + 120)), (1, .int p1), (2, .int wv2), (3, .int wv3)] → K4 wv2 wv3 = some r → W p l e rm_X12_joined s m args below meth c H locs 0 0 (MQ below (fp_Qi D G B r M) args s 0 0 (fp_A B)) (F0 m 4 ls [])) (v3 : Int32) (v4 : Int32) (s0 : Int32) (s1 : Int32) {H : Heap} {locs : List Loc} {ls : Array Slot} (hG : fp_H D G B s M H locs) (hl : lv_has ls 5 [(0, .ref (B + 120)), (1, .int p1), (3, .int v3), (4, .int v4)]) (h : m_X12_joined_61 M p1 K4 v3 v4 s0 s1 = some r) : W p l e rm_X12_joined s m args below meth c H locs 0 0 (MQ below (fp_Qi D G B r M) args s 0 0 (fp_A B)) (F0 m 61 ls [.int s1, .int s0]) := by
  have hx := E.1
  have hb := E.2.1
  have hown := E.2.2.2.1
  unfold m_X12_joined_61 at h
  refine lv_ior hx hb dX12_joined_61 ?_
  obtain ⟨x_3, ex_3, h⟩ := fp_lt_s h
  refine fp_top ex_3 ?_
  refine lv_istore_n (lv' := [(2, .int x_3), (0, .ref (B + 120)), (1, .int p1), (3, .int v3), (4, .int v4)]) hx hb dX12_joined_62 rfl hl (by decide) rfl (fun ls hl => ?_)
  refine lv_iload_n hx hb dX12_joined_63 rfl (lv_at hl 0 rfl) ?_
  refine lv_iload hx hb dX12_joined_64 (lv_at hl 4 rfl) ?_
  refine lv_if_eq (tgt := 90) hx hb dX12_joined_66 (by decide) (fun q => ?_) (fun q => ?_)
  · replace h := fp_ifT q h
    exact w_X12_joined_90 E  HK4 _ _ hG (lv_sub hl [1, 2, 3] rfl) h
  · replace h := fp_ifF q h
    refine lv_aload_n hx hb dX12_joined_69 rfl (lv_at hl 1 rfl) ?_
    refine fp_g12_4 E hG tw_809 dX12_joined_70 ?_
    refine lv_iload_n hx hb dX12_joined_73 rfl (lv_at hl 3 rfl) ?_
    obtain ⟨g_4, h⟩ := fp_gd_s h
    refine fp_iald E hG fp_cc122.1 (fp_a21 fp_cc122) (fp_in_s g_4) dX12_joined_74 ?_
    refine lv_iload_n hx hb dX12_joined_75 rfl (lv_at hl 2 rfl) ?_
    refine lv_icmp_ne (tgt := 90) hx hb dX12_joined_76 (by decide) (fun q => ?_) (fun q => ?_)
    · replace h := fp_ifF q h
      exact w_X12_joined_90 E  HK4 _ _ hG (lv_sub hl [1, 2, 3] rfl) h
    · replace h := fp_ifT q h
      refine lv_iconst (v := (nI 1)) hx hb dX12_joined_79 (by decide) ?_
      refine lv_aload_n hx hb dX12_joined_80 rfl (lv_at hl 1 rfl) ?_
      refine fp_g12_3 E hG tw_808 dX12_joined_81 ?_
      refine lv_iload_n hx hb dX12_joined_84 rfl (lv_at hl 3 rfl) ?_
      obtain ⟨g_5, h⟩ := fp_gd_s h
      refine fp_iald E hG fp_cc121.1 (fp_a21 fp_cc121) (fp_in_s g_5) dX12_joined_85 ?_
      refine lv_ishl hx hb dX12_joined_86 ?_
      refine lv_goto (tgt := 91) hx hb dX12_joined_87 (by decide) ?_
      exact w_X12_joined_91 E  HK4 _ _ _ hG (lv_sub hl [1, 2, 3] rfl) h
set_option maxHeartbeats 2000000 in
theorem w_X12_joined_60 {p : Program} {l : Launch} {e : Env} {s : State} {m : MethodId} {args : Array Value} {below : List Frame} {meth : Method} {c : Code} {D : va_G} {G : Nat → ClassId} {B : Nat} {M : fp_Mem} {p1 : Int32} {K4 : Int32 → Int32 → Option (Int32)} {r : Int32} (E : fp_EV p s m args meth c cX12_joined 5 RX12 (some .int) D G) (HK4 : ∀ (wv2 : Int32) (wv3 : Int32) {H : Heap} {locs : List Loc} {ls : Array Slot}, fp_H D G B s M H locs → lv_has ls 5 [(0, .ref (B + 120)), (1, .int p1), (2, .int wv2), (3, .int wv3)] → K4 wv2 wv3 = some r → W p l e rm_X12_joined s m args below meth c H locs 0 0 (MQ below (fp_Qi D G B r M) args s 0 0 (fp_A B)) (F0 m 4 ls [])) (v3 : Int32) (v4 : Int32) (s0 : Int32) {H : Heap} {locs : List Loc} {ls : Array Slot} (hG : fp_H D G B s M H locs) (hl : lv_has ls 5 [(0, .ref (B + 120)), (1, .int p1), (3, .int v3), (4, .int v4)]) (h : m_X12_joined_60 M p1 K4 v3 v4 s0 = some r) : W p l e rm_X12_joined s m args below meth c H locs 0 0 (MQ below (fp_Qi D G B r M) args s 0 0 (fp_A B)) (F0 m 60 ls [.int s0]) := by
  have hx := E.1
  have hb := E.2.1
  have hown := E.2.2.2.1
  unfold m_X12_joined_60 at h
  refine lv_iconst (v := (nI 0)) hx hb dX12_joined_60 (by decide) ?_
  exact w_X12_joined_61 E  HK4 _ _ _ _ hG (lv_sub hl [0, 1, 2, 3] rfl) h
set_option maxHeartbeats 2000000 in
theorem w_X12_joined_31 {p : Program} {l : Launch} {e : Env} {s : State} {m : MethodId} {args : Array Value} {below : List Frame} {meth : Method} {c : Code} {D : va_G} {G : Nat → ClassId} {B : Nat} {M : fp_Mem} {p1 : Int32} {K4 : Int32 → Int32 → Option (Int32)} {r : Int32} (E : fp_EV p s m args meth c cX12_joined 5 RX12 (some .int) D G) (HK4 : ∀ (wv2 : Int32) (wv3 : Int32) {H : Heap} {locs : List Loc} {ls : Array Slot}, fp_H D G B s M H locs → lv_has ls 5 [(0, .ref (B + 120)), (1, .int p1), (2, .int wv2), (3, .int wv3)] → K4 wv2 wv3 = some r → W p l e rm_X12_joined s m args below meth c H locs 0 0 (MQ below (fp_Qi D G B r M) args s 0 0 (fp_A B)) (F0 m 4 ls [])) (v2 : Int32) (v3 : Int32) (s0 : Int32) {H : Heap} {locs : List Loc} {ls : Array Slot} (hG : fp_H D G B s M H locs) (hl : lv_has ls 5 [(0, .ref (B + 120)), (1, .int p1), (2, .int v2), (3, .int v3)]) (h : m_X12_joined_31 M p1 K4 v2 v3 s0 = some r) : W p l e rm_X12_joined s m args below meth c H locs 0 0 (MQ below (fp_Qi D G B r M) args s 0 0 (fp_A B)) (F0 m 31 ls [.int s0]) := by
  have hx := E.1
  have hb := E.2.1
  have hown := E.2.2.2.1
  unfold m_X12_joined_31 at h
  refine lv_istore (lv' := [(4, .int s0), (0, .ref (B + 120)), (1, .int p1), (2, .int v2), (3, .int v3)]) hx hb dX12_joined_31 hl (by decide) rfl (fun ls hl => ?_)
  refine lv_iload_n hx hb dX12_joined_33 rfl (lv_at hl 3 rfl) ?_
  refine lv_iload hx hb dX12_joined_34 (lv_at hl 0 rfl) ?_
  refine lv_if_eq (tgt := 60) hx hb dX12_joined_36 (by decide) (fun q => ?_) (fun q => ?_)
  · replace h := fp_ifT q h
    exact w_X12_joined_60 E  HK4 _ _ _ hG (lv_sub hl [1, 2, 4, 0] rfl) h
  · replace h := fp_ifF q h
    refine lv_aload_n hx hb dX12_joined_39 rfl (lv_at hl 1 rfl) ?_
    refine fp_g12_3 E hG tw_808 dX12_joined_40 ?_
    refine lv_iload_n hx hb dX12_joined_43 rfl (lv_at hl 4 rfl) ?_
    obtain ⟨g_6, h⟩ := fp_gd_s h
    refine fp_iald E hG fp_cc121.1 (fp_a21 fp_cc121) (fp_in_s g_6) dX12_joined_44 ?_
    refine lv_iload_n hx hb dX12_joined_45 rfl (lv_at hl 2 rfl) ?_
    refine lv_icmp_ne (tgt := 60) hx hb dX12_joined_46 (by decide) (fun q => ?_) (fun q => ?_)
    · replace h := fp_ifF q h
      exact w_X12_joined_60 E  HK4 _ _ _ hG (lv_sub hl [1, 2, 4, 0] rfl) h
    · replace h := fp_ifT q h
      refine lv_iconst (v := (nI 1)) hx hb dX12_joined_49 (by decide) ?_
      refine lv_aload_n hx hb dX12_joined_50 rfl (lv_at hl 1 rfl) ?_
      refine fp_g12_4 E hG tw_809 dX12_joined_51 ?_
      refine lv_iload_n hx hb dX12_joined_54 rfl (lv_at hl 4 rfl) ?_
      obtain ⟨g_7, h⟩ := fp_gd_s h
      refine fp_iald E hG fp_cc122.1 (fp_a21 fp_cc122) (fp_in_s g_7) dX12_joined_55 ?_
      refine lv_ishl hx hb dX12_joined_56 ?_
      refine lv_goto (tgt := 61) hx hb dX12_joined_57 (by decide) ?_
      exact w_X12_joined_61 E  HK4 _ _ _ _ hG (lv_sub hl [1, 2, 4, 0] rfl) h
set_option maxHeartbeats 2000000 in
theorem w_X12_joined_4 {p : Program} {l : Launch} {e : Env} {s : State} {m : MethodId} {args : Array Value} {below : List Frame} {meth : Method} {c : Code} {D : va_G} {G : Nat → ClassId} {B : Nat} {M : fp_Mem} {p1 : Int32} {r : Int32} (E : fp_EV p s m args meth c cX12_joined 5 RX12 (some .int) D G) : ∀ (n : Nat) (v2 : Int32) (v3 : Int32) {H : Heap} {locs : List Loc} {ls : Array Slot}, fp_H D G B s M H locs → lv_has ls 5 [(0, .ref (B + 120)), (1, .int p1), (2, .int v2), (3, .int v3)] → m_X12_joined_4 M p1 n v2 v3 = some r → W p l e rm_X12_joined s m args below meth c H locs 0 0 (MQ below (fp_Qi D G B r M) args s 0 0 (fp_A B)) (F0 m 4 ls []) := by
  have hx := E.1
  have hb := E.2.1
  have hown := E.2.2.2.1
  intro n
  induction n with
  | zero =>
    intro v2 v3 H locs ls hG hl h
    exact nomatch h
  | succ n ih =>
    have ihK := @ih
    intro v2 v3 H locs ls hG hl h
    rw [m_X12_joined_4] at h
    refine lv_iload_n hx hb dX12_joined_4 rfl (lv_at hl 3 rfl) ?_
    refine lv_aload_n hx hb dX12_joined_5 rfl (lv_at hl 0 rfl) ?_
    refine fp_g12_2 E hG tw_807 dX12_joined_6 ?_
    refine lv_icmp_ge (tgt := 99) hx hb dX12_joined_9 (by decide) (fun q => ?_) (fun q => ?_)
    · replace h := fp_ifT q h
      refine lv_iload_n hx hb dX12_joined_99 rfl (lv_at hl 2 rfl) ?_
      exact fp_ireti E hG (Option.some.inj h) rfl dX12_joined_100
    · replace h := fp_ifF q h
      refine lv_aload_n hx hb dX12_joined_12 rfl (lv_at hl 0 rfl) ?_
      refine fp_g12_5 E hG tw_810 dX12_joined_13 ?_
      refine lv_bipush (v := (nI 19)) hx hb dX12_joined_16 (by decide) ?_
      obtain ⟨g_8, h⟩ := fp_gd_s h
      refine fp_iald E hG fp_cc123.1 (fp_a28 fp_cc123) (fp_in_s g_8) dX12_joined_18 ?_
      refine lv_iload_n hx hb dX12_joined_19 rfl (lv_at hl 3 rfl) ?_
      obtain ⟨r_9, c_10, h⟩ := fp_b1_s h
      refine fp_callSi (As := [.int (M 123 (Int32.toNatClampNeg (nI 19))), .int v3]) (rest := []) E hG (c_X12_has l D G B c_10) cv_X12_has tw_999 tw_1000 ⟨rfl, rfl⟩ ⟨Nat.le_of_ble_eq_true rfl, Nat.le_of_ble_eq_true rfl⟩ rfl rfl (Nat.le_of_ble_eq_true rfl) hl.1 dX12_joined_20 ⟨Nat.zero_le _, Nat.zero_le _⟩ (fun H locs hG => ?_)
      refine lv_if_ne (tgt := 30) hx hb dX12_joined_23 (by decide) (fun q => ?_) (fun q => ?_)
      · replace h := fp_ifF q h
        refine lv_iconst (v := (nI 0)) hx hb dX12_joined_30 (by decide) ?_
        exact w_X12_joined_31 E  ihK _ _ _ hG (lv_sub hl [0, 1, 2, 3] rfl) h
      · replace h := fp_ifT q h
        refine lv_iconst (v := (nI 1)) hx hb dX12_joined_26 (by decide) ?_
        refine lv_goto (tgt := 31) hx hb dX12_joined_27 (by decide) ?_
        exact w_X12_joined_31 E  ihK _ _ _ hG (lv_sub hl [0, 1, 2, 3] rfl) h
set_option maxHeartbeats 2000000 in
theorem w_X12_joined_0 {p : Program} {l : Launch} {e : Env} {s : State} {m : MethodId} {args : Array Value} {below : List Frame} {meth : Method} {c : Code} {D : va_G} {G : Nat → ClassId} {B : Nat} {M : fp_Mem} {p1 : Int32} {r : Int32} (E : fp_EV p s m args meth c cX12_joined 5 RX12 (some .int) D G) {H : Heap} {locs : List Loc} {ls : Array Slot} (hG : fp_H D G B s M H locs) (hl : lv_has ls 5 [(0, .ref (B + 120)), (1, .int p1)]) (h : m_X12_joined M p1 = some r) : W p l e rm_X12_joined s m args below meth c H locs 0 0 (MQ below (fp_Qi D G B r M) args s 0 0 (fp_A B)) (F0 m 0 ls []) := by
  have hx := E.1
  have hb := E.2.1
  have hown := E.2.2.2.1
  unfold m_X12_joined at h
  refine lv_iconst (v := (nI 0)) hx hb dX12_joined_0 (by decide) ?_
  refine lv_istore_n (lv' := [(2, .int (nI 0)), (0, .ref (B + 120)), (1, .int p1)]) hx hb dX12_joined_1 rfl hl (by decide) rfl (fun ls hl => ?_)
  refine lv_iconst (v := (nI 0)) hx hb dX12_joined_2 (by decide) ?_
  refine lv_istore_n (lv' := [(3, .int (nI 0)), (2, .int (nI 0)), (0, .ref (B + 120)), (1, .int p1)]) hx hb dX12_joined_3 rfl hl (by decide) rfl (fun ls hl => ?_)
  exact w_X12_joined_4 E   fp_fu _ _ hG (lv_sub hl [2, 3, 1, 0] rfl) h
theorem c_X12_joined (l : Launch) (D : va_G) (G : Nat → ClassId) (B : Nat) {M : fp_Mem}  {p1 : Int32} {r : Int32}  (h : m_X12_joined M p1 = some r) : Met l yX12_joined (Cond.code yX12_joined cX12_joined 5 (some .int) :: fp_T) rm_X12_joined (va_Pc [.ref (B + 120), .int p1] (fp_GS D G B M)) (fp_Qi D G B r M) 0 0 (fp_A B) :=
  fp_met (own := RX12) (by decide) rfl (Nat.le_of_ble_eq_true rfl) (fun E hG hl => w_X12_joined_0 E  hG hl h)
abbrev rm_X12_findAway : Room := { frames := 2, cells := 0, slots := 0, locals := 45 }
theorem cv_X12_findAway : fp_CV yX12_findAway cX12_findAway 5 none 0 := ⟨tw_994, tw_13, by decide, by decide +kernel⟩
set_option maxHeartbeats 2000000 in
theorem w_X12_findAway_127 {p : Program} {l : Launch} {e : Env} {s : State} {m : MethodId} {args : Array Value} {below : List Frame} {meth : Method} {c : Code} {D : va_G} {G : Nat → ClassId} {B : Nat} {K46 : Int32 → fp_Mem → Option (fp_Mem)} {K54 : Int32 → Int32 → fp_Mem → Option (fp_Mem)} {K71 : Int32 → Int32 → Int32 → Int32 → fp_Mem → Option (fp_Mem)} {M' : fp_Mem} (E : fp_EV p s m args meth c cX12_findAway 5 RX12 none D G) (HK46 : ∀ (wv1 : Int32) (wM : fp_Mem) {H : Heap} {locs : List Loc} {ls : Array Slot}, fp_H D G B s wM H locs → lv_has ls 5 [(0, .ref (B + 120)), (1, .int wv1)] → K46 wv1 wM = some M' → W p l e rm_X12_findAway s m args below meth c H locs 0 0 (MQ below (fp_Qv D G B M') args s 0 0 (fp_A B)) (F0 m 46 ls [])) (HK54 : ∀ (wv1 : Int32) (wv2 : Int32) (wM : fp_Mem) {H : Heap} {locs : List Loc} {ls : Array Slot}, fp_H D G B s wM H locs → lv_has ls 5 [(0, .ref (B + 120)), (1, .int wv1), (2, .int wv2)] → K54 wv1 wv2 wM = some M' → W p l e rm_X12_findAway s m args below meth c H locs 0 0 (MQ below (fp_Qv D G B M') args s 0 0 (fp_A B)) (F0 m 54 ls [])) (HK71 : ∀ (wv1 : Int32) (wv2 : Int32) (wv3 : Int32) (wv4 : Int32) (wM : fp_Mem) {H : Heap} {locs : List Loc} {ls : Array Slot}, fp_H D G B s wM H locs → lv_has ls 5 [(0, .ref (B + 120)), (1, .int wv1), (2, .int wv2), (3, .int wv3), (4, .int wv4)] → K71 wv1 wv2 wv3 wv4 wM = some M' → W p l e rm_X12_findAway s m args below meth c H locs 0 0 (MQ below (fp_Qv D G B M') args s 0 0 (fp_A B)) (F0 m 71 ls [])) (v1 : Int32) (v2 : Int32) (v3 : Int32) (v4 : Int32) (s1 : Int32) (s2 : Int32) (M : fp_Mem) {H : Heap} {locs : List Loc} {ls : Array Slot} (hG : fp_H D G B s M H locs) (hl : lv_has ls 5 [(0, .ref (B + 120)), (1, .int v1), (2, .int v2), (3, .int v3), (4, .int v4)]) (h : m_X12_findAway_127 K46 K54 K71 v1 v2 v3 v4 s1 s2 M = some M') : W p l e rm_X12_findAway s m args below meth c H locs 0 0 (MQ below (fp_Qv D G B M') args s 0 0 (fp_A B)) (F0 m 127 ls [.int s2, .int s1, .ref (B + 130)]) := by
  have hx := E.1
  have hb := E.2.1
  have hown := E.2.2.2.1
  unfold m_X12_findAway_127 at h
  obtain ⟨g_1, h⟩ := fp_gd_s h
  obtain ⟨M_2, eM_2, h⟩ := fp_lt_s h
  refine fp_iast E hG fp_cc130.1 (fp_a20 fp_cc130) (fp_in_s g_1) dX12_findAway_127 (fun H locs hG => ?_)
  replace hG := fp_memH eM_2 hG
  obtain ⟨x_3, ex_3, h⟩ := fp_lt_s h
  refine lv_iinc (v := x_3) (lv' := [(4, .int x_3), (0, .ref (B + 120)), (1, .int v1), (2, .int v2), (3, .int v3)]) hx hb dX12_findAway_128 hl (k := 4) rfl (by rw [ex_3]; rfl) (by decide) rfl (fun ls hl => ?_)
  refine lv_goto (tgt := 71) hx hb dX12_findAway_131 (by decide) ?_
  exact HK71 _ _ _ _ _ hG (lv_sub hl [1, 2, 3, 4, 0] rfl) h
set_option maxHeartbeats 2000000 in
theorem w_X12_findAway_121 {p : Program} {l : Launch} {e : Env} {s : State} {m : MethodId} {args : Array Value} {below : List Frame} {meth : Method} {c : Code} {D : va_G} {G : Nat → ClassId} {B : Nat} {K46 : Int32 → fp_Mem → Option (fp_Mem)} {K54 : Int32 → Int32 → fp_Mem → Option (fp_Mem)} {K71 : Int32 → Int32 → Int32 → Int32 → fp_Mem → Option (fp_Mem)} {M' : fp_Mem} (E : fp_EV p s m args meth c cX12_findAway 5 RX12 none D G) (HK46 : ∀ (wv1 : Int32) (wM : fp_Mem) {H : Heap} {locs : List Loc} {ls : Array Slot}, fp_H D G B s wM H locs → lv_has ls 5 [(0, .ref (B + 120)), (1, .int wv1)] → K46 wv1 wM = some M' → W p l e rm_X12_findAway s m args below meth c H locs 0 0 (MQ below (fp_Qv D G B M') args s 0 0 (fp_A B)) (F0 m 46 ls [])) (HK54 : ∀ (wv1 : Int32) (wv2 : Int32) (wM : fp_Mem) {H : Heap} {locs : List Loc} {ls : Array Slot}, fp_H D G B s wM H locs → lv_has ls 5 [(0, .ref (B + 120)), (1, .int wv1), (2, .int wv2)] → K54 wv1 wv2 wM = some M' → W p l e rm_X12_findAway s m args below meth c H locs 0 0 (MQ below (fp_Qv D G B M') args s 0 0 (fp_A B)) (F0 m 54 ls [])) (HK71 : ∀ (wv1 : Int32) (wv2 : Int32) (wv3 : Int32) (wv4 : Int32) (wM : fp_Mem) {H : Heap} {locs : List Loc} {ls : Array Slot}, fp_H D G B s wM H locs → lv_has ls 5 [(0, .ref (B + 120)), (1, .int wv1), (2, .int wv2), (3, .int wv3), (4, .int wv4)] → K71 wv1 wv2 wv3 wv4 wM = some M' → W p l e rm_X12_findAway s m args below meth c H locs 0 0 (MQ below (fp_Qv D G B M') args s 0 0 (fp_A B)) (F0 m 71 ls [])) (v1 : Int32) (v2 : Int32) (v3 : Int32) (v4 : Int32) (s1 : Int32) (M : fp_Mem) {H : Heap} {locs : List Loc} {ls : Array Slot} (hG : fp_H D G B s M H locs) (hl : lv_has ls 5 [(0, .ref (B + 120)), (1, .int v1), (2, .int v2), (3, .int v3), (4, .int v4)]) (h : m_X12_findAway_121 K46 K54 K71 v1 v2 v3 v4 s1 M = some M') : W p l e rm_X12_findAway s m args below meth c H locs 0 0 (MQ below (fp_Qv D G B M') args s 0 0 (fp_A B)) (F0 m 121 ls [.int s1, .ref (B + 130)]) := by
  have hx := E.1
  have hb := E.2.1
  have hown := E.2.2.2.1
  unfold m_X12_findAway_121 at h
  refine lv_aload_n hx hb dX12_findAway_121 rfl (lv_at hl 0 rfl) ?_
  refine fp_g12_22 E hG tw_827 dX12_findAway_122 ?_
  refine lv_iload_n hx hb dX12_findAway_125 rfl (lv_at hl 2 rfl) ?_
  obtain ⟨g_4, h⟩ := fp_gd_s h
  refine fp_iald E hG fp_cc130.1 (fp_a20 fp_cc130) (fp_in_s g_4) dX12_findAway_126 ?_
  exact w_X12_findAway_127 E  HK46 HK54 HK71 _ _ _ _ _ _ _ hG (lv_sub hl [0, 1, 2, 3, 4] rfl) h
set_option maxHeartbeats 2000000 in
theorem w_X12_findAway_71 {p : Program} {l : Launch} {e : Env} {s : State} {m : MethodId} {args : Array Value} {below : List Frame} {meth : Method} {c : Code} {D : va_G} {G : Nat → ClassId} {B : Nat} {K46 : Int32 → fp_Mem → Option (fp_Mem)} {K54 : Int32 → Int32 → fp_Mem → Option (fp_Mem)} {M' : fp_Mem} (E : fp_EV p s m args meth c cX12_findAway 5 RX12 none D G) (HK46 : ∀ (wv1 : Int32) (wM : fp_Mem) {H : Heap} {locs : List Loc} {ls : Array Slot}, fp_H D G B s wM H locs → lv_has ls 5 [(0, .ref (B + 120)), (1, .int wv1)] → K46 wv1 wM = some M' → W p l e rm_X12_findAway s m args below meth c H locs 0 0 (MQ below (fp_Qv D G B M') args s 0 0 (fp_A B)) (F0 m 46 ls [])) (HK54 : ∀ (wv1 : Int32) (wv2 : Int32) (wM : fp_Mem) {H : Heap} {locs : List Loc} {ls : Array Slot}, fp_H D G B s wM H locs → lv_has ls 5 [(0, .ref (B + 120)), (1, .int wv1), (2, .int wv2)] → K54 wv1 wv2 wM = some M' → W p l e rm_X12_findAway s m args below meth c H locs 0 0 (MQ below (fp_Qv D G B M') args s 0 0 (fp_A B)) (F0 m 54 ls [])) : ∀ (n : Nat) (v1 : Int32) (v2 : Int32) (v3 : Int32) (v4 : Int32) (M : fp_Mem) {H : Heap} {locs : List Loc} {ls : Array Slot}, fp_H D G B s M H locs → lv_has ls 5 [(0, .ref (B + 120)), (1, .int v1), (2, .int v2), (3, .int v3), (4, .int v4)] → m_X12_findAway_71 K46 K54 n v1 v2 v3 v4 M = some M' → W p l e rm_X12_findAway s m args below meth c H locs 0 0 (MQ below (fp_Qv D G B M') args s 0 0 (fp_A B)) (F0 m 71 ls []) := by
  have hx := E.1
  have hb := E.2.1
  have hown := E.2.2.2.1
  intro n
  induction n with
  | zero =>
    intro v1 v2 v3 v4 M H locs ls hG hl h
    exact nomatch h
  | succ n ih =>
    have ihK := @ih
    intro v1 v2 v3 v4 M H locs ls hG hl h
    rw [m_X12_findAway_71] at h
    refine lv_iload hx hb dX12_findAway_71 (lv_at hl 4 rfl) ?_
    refine lv_aload_n hx hb dX12_findAway_73 rfl (lv_at hl 0 rfl) ?_
    refine fp_g12_1 E hG tw_806 dX12_findAway_74 ?_
    refine lv_icmp_ge (tgt := 134) hx hb dX12_findAway_77 (by decide) (fun q => ?_) (fun q => ?_)
    · replace h := fp_ifT q h
      obtain ⟨x_5, ex_5, h⟩ := fp_lt_s h
      refine lv_iinc (v := x_5) (lv' := [(2, .int x_5), (0, .ref (B + 120)), (1, .int v1), (3, .int v3), (4, .int v4)]) hx hb dX12_findAway_134 hl (k := 2) rfl (by rw [ex_5]; rfl) (by decide) rfl (fun ls hl => ?_)
      refine lv_goto (tgt := 54) hx hb dX12_findAway_137 (by decide) ?_
      exact HK54 _ _ _ hG (lv_sub hl [1, 2, 0] rfl) h
    · replace h := fp_ifF q h
      refine lv_aload_n hx hb dX12_findAway_80 rfl (lv_at hl 0 rfl) ?_
      refine fp_g12_22 E hG tw_827 dX12_findAway_81 ?_
      refine lv_iload_n hx hb dX12_findAway_84 rfl (lv_at hl 2 rfl) ?_
      refine lv_aload_n hx hb dX12_findAway_85 rfl (lv_at hl 0 rfl) ?_
      refine fp_g12_22 E hG tw_827 dX12_findAway_86 ?_
      refine lv_iload_n hx hb dX12_findAway_89 rfl (lv_at hl 2 rfl) ?_
      obtain ⟨g_6, h⟩ := fp_gd_s h
      refine fp_iald E hG fp_cc130.1 (fp_a20 fp_cc130) (fp_in_s g_6) dX12_findAway_90 ?_
      refine lv_iload_n hx hb dX12_findAway_91 rfl (lv_at hl 1 rfl) ?_
      refine lv_icmp_le (tgt := 121) hx hb dX12_findAway_92 (by decide) (fun q => ?_) (fun q => ?_)
      · replace h := fp_ifT q h
        exact w_X12_findAway_121 E  HK46 HK54 ihK _ _ _ _ _ _ hG (lv_sub hl [0, 1, 2, 3, 4] rfl) h
      · replace h := fp_ifF q h
        refine lv_iload_n hx hb dX12_findAway_95 rfl (lv_at hl 3 rfl) ?_
        refine lv_iload hx hb dX12_findAway_96 (lv_at hl 4 rfl) ?_
        obtain ⟨r_7, c_8, h⟩ := fp_b1_s h
        refine fp_callSi (As := [.int v3, .int v4]) (rest := [.int v2, .ref (B + 130)]) E hG (c_X12_has l D G B c_8) cv_X12_has tw_999 tw_1000 ⟨rfl, rfl⟩ ⟨Nat.le_of_ble_eq_true rfl, Nat.le_of_ble_eq_true rfl⟩ rfl rfl (Nat.le_of_ble_eq_true rfl) hl.1 dX12_findAway_98 ⟨Nat.zero_le _, Nat.zero_le _⟩ (fun H locs hG => ?_)
        refine lv_if_eq (tgt := 121) hx hb dX12_findAway_101 (by decide) (fun q => ?_) (fun q => ?_)
        · replace h := fp_ifT q h
          exact w_X12_findAway_121 E  HK46 HK54 ihK _ _ _ _ _ _ hG (lv_sub hl [0, 1, 2, 3, 4] rfl) h
        · replace h := fp_ifF q h
          refine lv_aload_n hx hb dX12_findAway_104 rfl (lv_at hl 0 rfl) ?_
          refine fp_g12_22 E hG tw_827 dX12_findAway_105 ?_
          refine lv_iload hx hb dX12_findAway_108 (lv_at hl 4 rfl) ?_
          obtain ⟨g_9, h⟩ := fp_gd_s h
          refine fp_iald E hG fp_cc130.1 (fp_a20 fp_cc130) (fp_in_s g_9) dX12_findAway_110 ?_
          refine lv_iload_n hx hb dX12_findAway_111 rfl (lv_at hl 1 rfl) ?_
          refine lv_iconst (v := (nI 1)) hx hb dX12_findAway_112 (by decide) ?_
          refine lv_isub hx hb dX12_findAway_113 ?_
          refine lv_icmp_ne (tgt := 121) hx hb dX12_findAway_114 (by decide) (fun q => ?_) (fun q => ?_)
          · replace h := fp_ifF q h
            exact w_X12_findAway_121 E  HK46 HK54 ihK _ _ _ _ _ _ hG (lv_sub hl [0, 1, 2, 3, 4] rfl) h
          · replace h := fp_ifT q h
            refine lv_iload_n hx hb dX12_findAway_117 rfl (lv_at hl 1 rfl) ?_
            refine lv_goto (tgt := 127) hx hb dX12_findAway_118 (by decide) ?_
            exact w_X12_findAway_127 E  HK46 HK54 ihK _ _ _ _ _ _ _ hG (lv_sub hl [0, 1, 2, 3, 4] rfl) h
set_option maxHeartbeats 2000000 in
theorem w_X12_findAway_54 {p : Program} {l : Launch} {e : Env} {s : State} {m : MethodId} {args : Array Value} {below : List Frame} {meth : Method} {c : Code} {D : va_G} {G : Nat → ClassId} {B : Nat} {K46 : Int32 → fp_Mem → Option (fp_Mem)} {M' : fp_Mem} (E : fp_EV p s m args meth c cX12_findAway 5 RX12 none D G) (HK46 : ∀ (wv1 : Int32) (wM : fp_Mem) {H : Heap} {locs : List Loc} {ls : Array Slot}, fp_H D G B s wM H locs → lv_has ls 5 [(0, .ref (B + 120)), (1, .int wv1)] → K46 wv1 wM = some M' → W p l e rm_X12_findAway s m args below meth c H locs 0 0 (MQ below (fp_Qv D G B M') args s 0 0 (fp_A B)) (F0 m 46 ls [])) : ∀ (n : Nat) (v1 : Int32) (v2 : Int32) (M : fp_Mem) {H : Heap} {locs : List Loc} {ls : Array Slot}, fp_H D G B s M H locs → lv_has ls 5 [(0, .ref (B + 120)), (1, .int v1), (2, .int v2)] → m_X12_findAway_54 K46 n v1 v2 M = some M' → W p l e rm_X12_findAway s m args below meth c H locs 0 0 (MQ below (fp_Qv D G B M') args s 0 0 (fp_A B)) (F0 m 54 ls []) := by
  have hx := E.1
  have hb := E.2.1
  have hown := E.2.2.2.1
  intro n
  induction n with
  | zero =>
    intro v1 v2 M H locs ls hG hl h
    exact nomatch h
  | succ n ih =>
    have ihK := @ih
    intro v1 v2 M H locs ls hG hl h
    rw [m_X12_findAway_54] at h
    refine lv_iload_n hx hb dX12_findAway_54 rfl (lv_at hl 2 rfl) ?_
    refine lv_aload_n hx hb dX12_findAway_55 rfl (lv_at hl 0 rfl) ?_
    refine fp_g12_1 E hG tw_806 dX12_findAway_56 ?_
    refine lv_icmp_ge (tgt := 140) hx hb dX12_findAway_59 (by decide) (fun q => ?_) (fun q => ?_)
    · replace h := fp_ifT q h
      obtain ⟨x_10, ex_10, h⟩ := fp_lt_s h
      refine lv_iinc (v := x_10) (lv' := [(1, .int x_10), (0, .ref (B + 120)), (2, .int v2)]) hx hb dX12_findAway_140 hl (k := 1) rfl (by rw [ex_10]; rfl) (by decide) rfl (fun ls hl => ?_)
      refine lv_goto (tgt := 46) hx hb dX12_findAway_143 (by decide) ?_
      exact HK46 _ _ hG (lv_sub hl [1, 0] rfl) h
    · replace h := fp_ifF q h
      refine lv_aload_n hx hb dX12_findAway_62 rfl (lv_at hl 0 rfl) ?_
      refine lv_iload_n hx hb dX12_findAway_63 rfl (lv_at hl 2 rfl) ?_
      obtain ⟨r_11, c_12, h⟩ := fp_b1_s h
      refine fp_callVi (As := [.int v2]) (rest := []) E hG (c_X12_joined l D G B c_12) cv_X12_joined tw_995 tw_997 ts_32 ⟨rfl, rfl⟩ ⟨Nat.le_of_ble_eq_true rfl, Nat.le_of_ble_eq_true rfl⟩ (fp_recv E hG (by decide) (fp_o12 _) rfl) rfl rfl (Nat.le_of_ble_eq_true rfl) hl.1 dX12_findAway_64 ⟨Nat.zero_le _, Nat.zero_le _⟩ (fun H locs hG => ?_)
      refine lv_istore_n (lv' := [(3, .int r_11), (0, .ref (B + 120)), (1, .int v1), (2, .int v2)]) hx hb dX12_findAway_67 rfl hl (by decide) rfl (fun ls hl => ?_)
      refine lv_iconst (v := (nI 0)) hx hb dX12_findAway_68 (by decide) ?_
      refine lv_istore (lv' := [(4, .int (nI 0)), (3, .int r_11), (0, .ref (B + 120)), (1, .int v1), (2, .int v2)]) hx hb dX12_findAway_69 hl (by decide) rfl (fun ls hl => ?_)
      exact w_X12_findAway_71 E  HK46 ihK fp_fu _ _ _ _ _ hG (lv_sub hl [2, 3, 4, 1, 0] rfl) h
set_option maxHeartbeats 2000000 in
theorem w_X12_findAway_46 {p : Program} {l : Launch} {e : Env} {s : State} {m : MethodId} {args : Array Value} {below : List Frame} {meth : Method} {c : Code} {D : va_G} {G : Nat → ClassId} {B : Nat} {M' : fp_Mem} (E : fp_EV p s m args meth c cX12_findAway 5 RX12 none D G) : ∀ (n : Nat) (v1 : Int32) (M : fp_Mem) {H : Heap} {locs : List Loc} {ls : Array Slot}, fp_H D G B s M H locs → lv_has ls 5 [(0, .ref (B + 120)), (1, .int v1)] → m_X12_findAway_46 n v1 M = some M' → W p l e rm_X12_findAway s m args below meth c H locs 0 0 (MQ below (fp_Qv D G B M') args s 0 0 (fp_A B)) (F0 m 46 ls []) := by
  have hx := E.1
  have hb := E.2.1
  have hown := E.2.2.2.1
  intro n
  induction n with
  | zero =>
    intro v1 M H locs ls hG hl h
    exact nomatch h
  | succ n ih =>
    have ihK := @ih
    intro v1 M H locs ls hG hl h
    rw [m_X12_findAway_46] at h
    refine lv_iload_n hx hb dX12_findAway_46 rfl (lv_at hl 1 rfl) ?_
    refine lv_bipush (v := (nI 9)) hx hb dX12_findAway_47 (by decide) ?_
    refine lv_icmp_ge (tgt := 146) hx hb dX12_findAway_49 (by decide) (fun q => ?_) (fun q => ?_)
    · replace h := fp_ifT q h
      exact fp_retv E hG (Option.some.inj h) dX12_findAway_146
    · replace h := fp_ifF q h
      refine lv_iconst (v := (nI 0)) hx hb dX12_findAway_52 (by decide) ?_
      refine lv_istore_n (lv' := [(2, .int (nI 0)), (0, .ref (B + 120)), (1, .int v1)]) hx hb dX12_findAway_53 rfl hl (by decide) rfl (fun ls hl => ?_)
      exact w_X12_findAway_54 E  ihK fp_fu _ _ _ hG (lv_sub hl [1, 2, 0] rfl) h
set_option maxHeartbeats 2000000 in
theorem w_X12_findAway_37 {p : Program} {l : Launch} {e : Env} {s : State} {m : MethodId} {args : Array Value} {below : List Frame} {meth : Method} {c : Code} {D : va_G} {G : Nat → ClassId} {B : Nat} {K2 : Int32 → fp_Mem → Option (fp_Mem)} {M' : fp_Mem} (E : fp_EV p s m args meth c cX12_findAway 5 RX12 none D G) (HK2 : ∀ (wv1 : Int32) (wM : fp_Mem) {H : Heap} {locs : List Loc} {ls : Array Slot}, fp_H D G B s wM H locs → lv_has ls 5 [(0, .ref (B + 120)), (1, .int wv1)] → K2 wv1 wM = some M' → W p l e rm_X12_findAway s m args below meth c H locs 0 0 (MQ below (fp_Qv D G B M') args s 0 0 (fp_A B)) (F0 m 2 ls [])) (v1 : Int32) (s1 : Int32) (s2 : Int32) (M : fp_Mem) {H : Heap} {locs : List Loc} {ls : Array Slot} (hG : fp_H D G B s M H locs) (hl : lv_has ls 5 [(0, .ref (B + 120)), (1, .int v1)]) (h : m_X12_findAway_37 K2 v1 s1 s2 M = some M') : W p l e rm_X12_findAway s m args below meth c H locs 0 0 (MQ below (fp_Qv D G B M') args s 0 0 (fp_A B)) (F0 m 37 ls [.int s2, .int s1, .ref (B + 130)]) := by
  have hx := E.1
  have hb := E.2.1
  have hown := E.2.2.2.1
  unfold m_X12_findAway_37 at h
  obtain ⟨g_13, h⟩ := fp_gd_s h
  obtain ⟨M_14, eM_14, h⟩ := fp_lt_s h
  refine fp_iast E hG fp_cc130.1 (fp_a20 fp_cc130) (fp_in_s g_13) dX12_findAway_37 (fun H locs hG => ?_)
  replace hG := fp_memH eM_14 hG
  obtain ⟨x_15, ex_15, h⟩ := fp_lt_s h
  refine lv_iinc (v := x_15) (lv' := [(1, .int x_15), (0, .ref (B + 120))]) hx hb dX12_findAway_38 hl (k := 1) rfl (by rw [ex_15]; rfl) (by decide) rfl (fun ls hl => ?_)
  refine lv_goto (tgt := 2) hx hb dX12_findAway_41 (by decide) ?_
  exact HK2 _ _ hG (lv_sub hl [1, 0] rfl) h
set_option maxHeartbeats 2000000 in
theorem w_X12_findAway_34 {p : Program} {l : Launch} {e : Env} {s : State} {m : MethodId} {args : Array Value} {below : List Frame} {meth : Method} {c : Code} {D : va_G} {G : Nat → ClassId} {B : Nat} {K2 : Int32 → fp_Mem → Option (fp_Mem)} {M' : fp_Mem} (E : fp_EV p s m args meth c cX12_findAway 5 RX12 none D G) (HK2 : ∀ (wv1 : Int32) (wM : fp_Mem) {H : Heap} {locs : List Loc} {ls : Array Slot}, fp_H D G B s wM H locs → lv_has ls 5 [(0, .ref (B + 120)), (1, .int wv1)] → K2 wv1 wM = some M' → W p l e rm_X12_findAway s m args below meth c H locs 0 0 (MQ below (fp_Qv D G B M') args s 0 0 (fp_A B)) (F0 m 2 ls [])) (v1 : Int32) (s1 : Int32) (M : fp_Mem) {H : Heap} {locs : List Loc} {ls : Array Slot} (hG : fp_H D G B s M H locs) (hl : lv_has ls 5 [(0, .ref (B + 120)), (1, .int v1)]) (h : m_X12_findAway_34 K2 v1 s1 M = some M') : W p l e rm_X12_findAway s m args below meth c H locs 0 0 (MQ below (fp_Qv D G B M') args s 0 0 (fp_A B)) (F0 m 34 ls [.int s1, .ref (B + 130)]) := by
  have hx := E.1
  have hb := E.2.1
  have hown := E.2.2.2.1
  unfold m_X12_findAway_34 at h
  refine lv_sipush (v := (nI 1000)) hx hb dX12_findAway_34 (by decide) ?_
  exact w_X12_findAway_37 E  HK2 _ _ _ _ hG (lv_sub hl [0, 1] rfl) h
set_option maxHeartbeats 2000000 in
theorem w_X12_findAway_2 {p : Program} {l : Launch} {e : Env} {s : State} {m : MethodId} {args : Array Value} {below : List Frame} {meth : Method} {c : Code} {D : va_G} {G : Nat → ClassId} {B : Nat} {M' : fp_Mem} (E : fp_EV p s m args meth c cX12_findAway 5 RX12 none D G) : ∀ (n : Nat) (v1 : Int32) (M : fp_Mem) {H : Heap} {locs : List Loc} {ls : Array Slot}, fp_H D G B s M H locs → lv_has ls 5 [(0, .ref (B + 120)), (1, .int v1)] → m_X12_findAway_2 n v1 M = some M' → W p l e rm_X12_findAway s m args below meth c H locs 0 0 (MQ below (fp_Qv D G B M') args s 0 0 (fp_A B)) (F0 m 2 ls []) := by
  have hx := E.1
  have hb := E.2.1
  have hown := E.2.2.2.1
  intro n
  induction n with
  | zero =>
    intro v1 M H locs ls hG hl h
    exact nomatch h
  | succ n ih =>
    have ihK := @ih
    intro v1 M H locs ls hG hl h
    rw [m_X12_findAway_2] at h
    refine lv_iload_n hx hb dX12_findAway_2 rfl (lv_at hl 1 rfl) ?_
    refine lv_bipush (v := (nI 9)) hx hb dX12_findAway_3 (by decide) ?_
    refine lv_icmp_ge (tgt := 44) hx hb dX12_findAway_5 (by decide) (fun q => ?_) (fun q => ?_)
    · replace h := fp_ifT q h
      refine lv_iconst (v := (nI 1)) hx hb dX12_findAway_44 (by decide) ?_
      refine lv_istore_n (lv' := [(1, .int (nI 1)), (0, .ref (B + 120))]) hx hb dX12_findAway_45 rfl hl (by decide) rfl (fun ls hl => ?_)
      exact w_X12_findAway_46 E   fp_fu _ _ hG (lv_sub hl [1, 0] rfl) h
    · replace h := fp_ifF q h
      refine lv_aload_n hx hb dX12_findAway_8 rfl (lv_at hl 0 rfl) ?_
      refine fp_g12_22 E hG tw_827 dX12_findAway_9 ?_
      refine lv_iload_n hx hb dX12_findAway_12 rfl (lv_at hl 1 rfl) ?_
      refine lv_iload_n hx hb dX12_findAway_13 rfl (lv_at hl 1 rfl) ?_
      refine lv_aload_n hx hb dX12_findAway_14 rfl (lv_at hl 0 rfl) ?_
      refine fp_g12_1 E hG tw_806 dX12_findAway_15 ?_
      refine lv_icmp_ge (tgt := 34) hx hb dX12_findAway_18 (by decide) (fun q => ?_) (fun q => ?_)
      · replace h := fp_ifT q h
        exact w_X12_findAway_34 E  ihK _ _ _ hG (lv_sub hl [0, 1] rfl) h
      · replace h := fp_ifF q h
        refine lv_aload_n hx hb dX12_findAway_21 rfl (lv_at hl 0 rfl) ?_
        refine lv_iload_n hx hb dX12_findAway_22 rfl (lv_at hl 1 rfl) ?_
        obtain ⟨r_16, c_17, h⟩ := fp_b1_s h
        refine fp_callVi (As := [.int v1]) (rest := [.int v1, .ref (B + 130)]) E hG (c_X12_free l D G B c_17) cv_X12_free tw_983 tw_985 ts_29 ⟨rfl, rfl⟩ ⟨Nat.le_of_ble_eq_true rfl, Nat.le_of_ble_eq_true rfl⟩ (fp_recv E hG (by decide) (fp_o12 _) rfl) rfl rfl (Nat.le_of_ble_eq_true rfl) hl.1 dX12_findAway_23 ⟨Nat.zero_le _, Nat.zero_le _⟩ (fun H locs hG => ?_)
        refine lv_iconst (v := (nI 1)) hx hb dX12_findAway_26 (by decide) ?_
        refine lv_icmp_le (tgt := 34) hx hb dX12_findAway_27 (by decide) (fun q => ?_) (fun q => ?_)
        · replace h := fp_ifT q h
          exact w_X12_findAway_34 E  ihK _ _ _ hG (lv_sub hl [0, 1] rfl) h
        · replace h := fp_ifF q h
          refine lv_iconst (v := (nI 0)) hx hb dX12_findAway_30 (by decide) ?_
          refine lv_goto (tgt := 37) hx hb dX12_findAway_31 (by decide) ?_
          exact w_X12_findAway_37 E  ihK _ _ _ _ hG (lv_sub hl [0, 1] rfl) h
set_option maxHeartbeats 2000000 in
theorem w_X12_findAway_0 {p : Program} {l : Launch} {e : Env} {s : State} {m : MethodId} {args : Array Value} {below : List Frame} {meth : Method} {c : Code} {D : va_G} {G : Nat → ClassId} {B : Nat} {M' : fp_Mem} (E : fp_EV p s m args meth c cX12_findAway 5 RX12 none D G) {M : fp_Mem} {H : Heap} {locs : List Loc} {ls : Array Slot} (hG : fp_H D G B s M H locs) (hl : lv_has ls 5 [(0, .ref (B + 120))]) (h : m_X12_findAway M = some M') : W p l e rm_X12_findAway s m args below meth c H locs 0 0 (MQ below (fp_Qv D G B M') args s 0 0 (fp_A B)) (F0 m 0 ls []) := by
  have hx := E.1
  have hb := E.2.1
  have hown := E.2.2.2.1
  unfold m_X12_findAway at h
  refine lv_iconst (v := (nI 0)) hx hb dX12_findAway_0 (by decide) ?_
  refine lv_istore_n (lv' := [(1, .int (nI 0)), (0, .ref (B + 120))]) hx hb dX12_findAway_1 rfl hl (by decide) rfl (fun ls hl => ?_)
  exact w_X12_findAway_2 E   fp_fu _ _ hG (lv_sub hl [1, 0] rfl) h
theorem c_X12_findAway (l : Launch) (D : va_G) (G : Nat → ClassId) (B : Nat) {M : fp_Mem}   {M' : fp_Mem}  (h : m_X12_findAway M = some M') : Met l yX12_findAway (Cond.code yX12_findAway cX12_findAway 5 none :: fp_T) rm_X12_findAway (va_Pc [.ref (B + 120)] (fp_GS D G B M)) (fp_Qv D G B M') 0 0 (fp_A B) :=
  fp_met (own := RX12) (by decide) rfl (Nat.le_of_ble_eq_true rfl) (fun E hG hl => w_X12_findAway_0 E  hG hl h)
abbrev rm_X12_nextOf : Room := { frames := 2, cells := 0, slots := 0, locals := 45 }
theorem cv_X12_nextOf : fp_CV yX12_nextOf cX12_nextOf 4 (some .int) 1 := ⟨tw_1034, tw_13, by decide, by decide +kernel⟩
set_option maxHeartbeats 2000000 in
theorem w_X12_nextOf_43 {p : Program} {l : Launch} {e : Env} {s : State} {m : MethodId} {args : Array Value} {below : List Frame} {meth : Method} {c : Code} {D : va_G} {G : Nat → ClassId} {B : Nat} {M : fp_Mem} {p1 : Int32} {K8 : Int32 → Int32 → Option (Int32)} {r : Int32} (E : fp_EV p s m args meth c cX12_nextOf 4 RX12 (some .int) D G) (HK8 : ∀ (wv2 : Int32) (wv3 : Int32) {H : Heap} {locs : List Loc} {ls : Array Slot}, fp_H D G B s M H locs → lv_has ls 4 [(0, .ref (B + 120)), (1, .int p1), (2, .int wv2), (3, .int wv3)] → K8 wv2 wv3 = some r → W p l e rm_X12_nextOf s m args below meth c H locs 0 0 (MQ below (fp_Qi D G B r M) args s 0 0 (fp_A B)) (F0 m 8 ls [])) (v2 : Int32) (v3 : Int32) {H : Heap} {locs : List Loc} {ls : Array Slot} (hG : fp_H D G B s M H locs) (hl : lv_has ls 4 [(0, .ref (B + 120)), (1, .int p1), (2, .int v2), (3, .int v3)]) (h : m_X12_nextOf_43 M p1 K8 v2 v3 = some r) : W p l e rm_X12_nextOf s m args below meth c H locs 0 0 (MQ below (fp_Qi D G B r M) args s 0 0 (fp_A B)) (F0 m 43 ls []) := by
  have hx := E.1
  have hb := E.2.1
  have hown := E.2.2.2.1
  unfold m_X12_nextOf_43 at h
  obtain ⟨x_1, ex_1, h⟩ := fp_lt_s h
  refine lv_iinc (v := x_1) (lv' := [(3, .int x_1), (0, .ref (B + 120)), (1, .int p1), (2, .int v2)]) hx hb dX12_nextOf_43 hl (k := 3) rfl (by rw [ex_1]; rfl) (by decide) rfl (fun ls hl => ?_)
  refine lv_goto (tgt := 8) hx hb dX12_nextOf_46 (by decide) ?_
  exact HK8 _ _ hG (lv_sub hl [1, 2, 3, 0] rfl) h
set_option maxHeartbeats 2000000 in
theorem w_X12_nextOf_8 {p : Program} {l : Launch} {e : Env} {s : State} {m : MethodId} {args : Array Value} {below : List Frame} {meth : Method} {c : Code} {D : va_G} {G : Nat → ClassId} {B : Nat} {M : fp_Mem} {p1 : Int32} {r : Int32} (E : fp_EV p s m args meth c cX12_nextOf 4 RX12 (some .int) D G) : ∀ (n : Nat) (v2 : Int32) (v3 : Int32) {H : Heap} {locs : List Loc} {ls : Array Slot}, fp_H D G B s M H locs → lv_has ls 4 [(0, .ref (B + 120)), (1, .int p1), (2, .int v2), (3, .int v3)] → m_X12_nextOf_8 M p1 n v2 v3 = some r → W p l e rm_X12_nextOf s m args below meth c H locs 0 0 (MQ below (fp_Qi D G B r M) args s 0 0 (fp_A B)) (F0 m 8 ls []) := by
  have hx := E.1
  have hb := E.2.1
  have hown := E.2.2.2.1
  intro n
  induction n with
  | zero =>
    intro v2 v3 H locs ls hG hl h
    exact nomatch h
  | succ n ih =>
    have ihK := @ih
    intro v2 v3 H locs ls hG hl h
    rw [m_X12_nextOf_8] at h
    refine lv_iload_n hx hb dX12_nextOf_8 rfl (lv_at hl 3 rfl) ?_
    refine lv_aload_n hx hb dX12_nextOf_9 rfl (lv_at hl 0 rfl) ?_
    refine fp_g12_1 E hG tw_806 dX12_nextOf_10 ?_
    refine lv_icmp_ge (tgt := 49) hx hb dX12_nextOf_13 (by decide) (fun q => ?_) (fun q => ?_)
    · replace h := fp_ifT q h
      refine lv_iconst (v := (-1 : Int32)) hx hb dX12_nextOf_49 (by decide) ?_
      exact fp_ireti E hG (Option.some.inj h) rfl dX12_nextOf_50
    · replace h := fp_ifF q h
      refine lv_iload_n hx hb dX12_nextOf_16 rfl (lv_at hl 2 rfl) ?_
      refine lv_iload_n hx hb dX12_nextOf_17 rfl (lv_at hl 3 rfl) ?_
      obtain ⟨r_2, c_3, h⟩ := fp_b1_s h
      refine fp_callSi (As := [.int v2, .int v3]) (rest := []) E hG (c_X12_has l D G B c_3) cv_X12_has tw_999 tw_1000 ⟨rfl, rfl⟩ ⟨Nat.le_of_ble_eq_true rfl, Nat.le_of_ble_eq_true rfl⟩ rfl rfl (Nat.le_of_ble_eq_true rfl) hl.1 dX12_nextOf_18 ⟨Nat.zero_le _, Nat.zero_le _⟩ (fun H locs hG => ?_)
      refine lv_if_eq (tgt := 43) hx hb dX12_nextOf_21 (by decide) (fun q => ?_) (fun q => ?_)
      · replace h := fp_ifT q h
        exact w_X12_nextOf_43 E  ihK _ _ hG (lv_sub hl [0, 1, 2, 3] rfl) h
      · replace h := fp_ifF q h
        refine lv_aload_n hx hb dX12_nextOf_24 rfl (lv_at hl 0 rfl) ?_
        refine fp_g12_22 E hG tw_827 dX12_nextOf_25 ?_
        refine lv_iload_n hx hb dX12_nextOf_28 rfl (lv_at hl 3 rfl) ?_
        obtain ⟨g_4, h⟩ := fp_gd_s h
        refine fp_iald E hG fp_cc130.1 (fp_a20 fp_cc130) (fp_in_s g_4) dX12_nextOf_29 ?_
        refine lv_aload_n hx hb dX12_nextOf_30 rfl (lv_at hl 0 rfl) ?_
        refine fp_g12_22 E hG tw_827 dX12_nextOf_31 ?_
        refine lv_iload_n hx hb dX12_nextOf_34 rfl (lv_at hl 1 rfl) ?_
        obtain ⟨g_5, h⟩ := fp_gd_s h
        refine fp_iald E hG fp_cc130.1 (fp_a20 fp_cc130) (fp_in_s g_5) dX12_nextOf_35 ?_
        refine lv_iconst (v := (nI 1)) hx hb dX12_nextOf_36 (by decide) ?_
        refine lv_isub hx hb dX12_nextOf_37 ?_
        refine lv_icmp_ne (tgt := 43) hx hb dX12_nextOf_38 (by decide) (fun q => ?_) (fun q => ?_)
        · replace h := fp_ifF q h
          exact w_X12_nextOf_43 E  ihK _ _ hG (lv_sub hl [0, 1, 2, 3] rfl) h
        · replace h := fp_ifT q h
          refine lv_iload_n hx hb dX12_nextOf_41 rfl (lv_at hl 3 rfl) ?_
          exact fp_ireti E hG (Option.some.inj h) rfl dX12_nextOf_42
set_option maxHeartbeats 2000000 in
theorem w_X12_nextOf_0 {p : Program} {l : Launch} {e : Env} {s : State} {m : MethodId} {args : Array Value} {below : List Frame} {meth : Method} {c : Code} {D : va_G} {G : Nat → ClassId} {B : Nat} {M : fp_Mem} {p1 : Int32} {r : Int32} (E : fp_EV p s m args meth c cX12_nextOf 4 RX12 (some .int) D G) {H : Heap} {locs : List Loc} {ls : Array Slot} (hG : fp_H D G B s M H locs) (hl : lv_has ls 4 [(0, .ref (B + 120)), (1, .int p1)]) (h : m_X12_nextOf M p1 = some r) : W p l e rm_X12_nextOf s m args below meth c H locs 0 0 (MQ below (fp_Qi D G B r M) args s 0 0 (fp_A B)) (F0 m 0 ls []) := by
  have hx := E.1
  have hb := E.2.1
  have hown := E.2.2.2.1
  unfold m_X12_nextOf at h
  refine lv_aload_n hx hb dX12_nextOf_0 rfl (lv_at hl 0 rfl) ?_
  refine lv_iload_n hx hb dX12_nextOf_1 rfl (lv_at hl 1 rfl) ?_
  obtain ⟨r_6, c_7, h⟩ := fp_b1_s h
  refine fp_callVi (As := [.int p1]) (rest := []) E hG (c_X12_joined l D G B c_7) cv_X12_joined tw_995 tw_997 ts_32 ⟨rfl, rfl⟩ ⟨Nat.le_of_ble_eq_true rfl, Nat.le_of_ble_eq_true rfl⟩ (fp_recv E hG (by decide) (fp_o12 _) rfl) rfl rfl (Nat.le_of_ble_eq_true rfl) hl.1 dX12_nextOf_2 ⟨Nat.zero_le _, Nat.zero_le _⟩ (fun H locs hG => ?_)
  refine lv_istore_n (lv' := [(2, .int r_6), (0, .ref (B + 120)), (1, .int p1)]) hx hb dX12_nextOf_5 rfl hl (by decide) rfl (fun ls hl => ?_)
  refine lv_iconst (v := (nI 0)) hx hb dX12_nextOf_6 (by decide) ?_
  refine lv_istore_n (lv' := [(3, .int (nI 0)), (2, .int r_6), (0, .ref (B + 120)), (1, .int p1)]) hx hb dX12_nextOf_7 rfl hl (by decide) rfl (fun ls hl => ?_)
  exact w_X12_nextOf_8 E   fp_fu _ _ hG (lv_sub hl [2, 3, 1, 0] rfl) h
theorem c_X12_nextOf (l : Launch) (D : va_G) (G : Nat → ClassId) (B : Nat) {M : fp_Mem}  {p1 : Int32} {r : Int32}  (h : m_X12_nextOf M p1 = some r) : Met l yX12_nextOf (Cond.code yX12_nextOf cX12_nextOf 4 (some .int) :: fp_T) rm_X12_nextOf (va_Pc [.ref (B + 120), .int p1] (fp_GS D G B M)) (fp_Qi D G B r M) 0 0 (fp_A B) :=
  fp_met (own := RX12) (by decide) rfl (Nat.le_of_ble_eq_true rfl) (fun E hG hl => w_X12_nextOf_0 E  hG hl h)
abbrev rm_X12_lastOf : Room := { frames := 3, cells := 0, slots := 0, locals := 68 }
theorem cv_X12_lastOf : fp_CV yX12_lastOf cX12_lastOf 3 (some .int) 1 := ⟨tw_1030, tw_13, by decide, by decide +kernel⟩
set_option maxHeartbeats 2000000 in
theorem w_X12_lastOf_2 {p : Program} {l : Launch} {e : Env} {s : State} {m : MethodId} {args : Array Value} {below : List Frame} {meth : Method} {c : Code} {D : va_G} {G : Nat → ClassId} {B : Nat} {M : fp_Mem} {p1 : Int32} {r : Int32} (E : fp_EV p s m args meth c cX12_lastOf 3 RX12 (some .int) D G) : ∀ (n : Nat) (v2 : Int32) {H : Heap} {locs : List Loc} {ls : Array Slot}, fp_H D G B s M H locs → lv_has ls 3 [(0, .ref (B + 120)), (2, .int v2)] → m_X12_lastOf_2 M p1 n v2 = some r → W p l e rm_X12_lastOf s m args below meth c H locs 0 0 (MQ below (fp_Qi D G B r M) args s 0 0 (fp_A B)) (F0 m 2 ls []) := by
  have hx := E.1
  have hb := E.2.1
  have hown := E.2.2.2.1
  intro n
  induction n with
  | zero =>
    intro v2 H locs ls hG hl h
    exact nomatch h
  | succ n ih =>
    have ihK := @ih
    intro v2 H locs ls hG hl h
    rw [m_X12_lastOf_2] at h
    refine lv_aload_n hx hb dX12_lastOf_2 rfl (lv_at hl 0 rfl) ?_
    refine fp_g12_22 E hG tw_827 dX12_lastOf_3 ?_
    refine lv_iload_n hx hb dX12_lastOf_6 rfl (lv_at hl 1 rfl) ?_
    obtain ⟨g_1, h⟩ := fp_gd_s h
    refine fp_iald E hG fp_cc130.1 (fp_a20 fp_cc130) (fp_in_s g_1) dX12_lastOf_7 ?_
    refine lv_if_le (tgt := 20) hx hb dX12_lastOf_8 (by decide) (fun q => ?_) (fun q => ?_)
    · replace h := fp_ifT q h
      refine lv_iload_n hx hb dX12_lastOf_20 rfl (lv_at hl 1 rfl) ?_
      exact fp_ireti E hG (Option.some.inj h) rfl dX12_lastOf_21
    · replace h := fp_ifF q h
      refine lv_aload_n hx hb dX12_lastOf_11 rfl (lv_at hl 0 rfl) ?_
      refine lv_iload_n hx hb dX12_lastOf_12 rfl (lv_at hl 1 rfl) ?_
      obtain ⟨r_2, c_3, h⟩ := fp_b1_s h
      refine fp_callVi (As := [.int v2]) (rest := []) E hG (c_X12_nextOf l D G B c_3) cv_X12_nextOf tw_1031 tw_1033 ts_37 ⟨rfl, rfl⟩ ⟨Nat.le_of_ble_eq_true rfl, Nat.le_of_ble_eq_true rfl⟩ (fp_recv E hG (by decide) (fp_o12 _) rfl) rfl rfl (Nat.le_of_ble_eq_true rfl) hl.1 dX12_lastOf_13 ⟨Nat.zero_le _, Nat.zero_le _⟩ (fun H locs hG => ?_)
      refine lv_istore_n (lv' := [(2, .int r_2), (0, .ref (B + 120))]) hx hb dX12_lastOf_16 rfl hl (by decide) rfl (fun ls hl => ?_)
      refine lv_goto (tgt := 2) hx hb dX12_lastOf_17 (by decide) ?_
      exact ih _ hG (lv_sub hl [1, 0] rfl) h
set_option maxHeartbeats 2000000 in
theorem w_X12_lastOf_0 {p : Program} {l : Launch} {e : Env} {s : State} {m : MethodId} {args : Array Value} {below : List Frame} {meth : Method} {c : Code} {D : va_G} {G : Nat → ClassId} {B : Nat} {M : fp_Mem} {p1 : Int32} {r : Int32} (E : fp_EV p s m args meth c cX12_lastOf 3 RX12 (some .int) D G) {H : Heap} {locs : List Loc} {ls : Array Slot} (hG : fp_H D G B s M H locs) (hl : lv_has ls 3 [(0, .ref (B + 120)), (1, .int p1)]) (h : m_X12_lastOf M p1 = some r) : W p l e rm_X12_lastOf s m args below meth c H locs 0 0 (MQ below (fp_Qi D G B r M) args s 0 0 (fp_A B)) (F0 m 0 ls []) := by
  have hx := E.1
  have hb := E.2.1
  have hown := E.2.2.2.1
  unfold m_X12_lastOf at h
  refine lv_iload_n hx hb dX12_lastOf_0 rfl (lv_at hl 1 rfl) ?_
  refine lv_istore_n (lv' := [(2, .int p1), (0, .ref (B + 120)), (1, .int p1)]) hx hb dX12_lastOf_1 rfl hl (by decide) rfl (fun ls hl => ?_)
  exact w_X12_lastOf_2 E   fp_fu _ hG (lv_sub hl [1, 0] rfl) h
theorem c_X12_lastOf (l : Launch) (D : va_G) (G : Nat → ClassId) (B : Nat) {M : fp_Mem}  {p1 : Int32} {r : Int32}  (h : m_X12_lastOf M p1 = some r) : Met l yX12_lastOf (Cond.code yX12_lastOf cX12_lastOf 3 (some .int) :: fp_T) rm_X12_lastOf (va_Pc [.ref (B + 120), .int p1] (fp_GS D G B M)) (fp_Qi D G B r M) 0 0 (fp_A B) :=
  fp_met (own := RX12) (by decide) rfl (Nat.le_of_ble_eq_true rfl) (fun E hG hl => w_X12_lastOf_0 E  hG hl h)
abbrev rm_X12_allSit : Room := { frames := 0, cells := 0, slots := 0, locals := 0 }
theorem cv_X12_allSit : fp_CV yX12_allSit cX12_allSit 3 (some .int) 0 := ⟨tw_978, tw_13, by decide, by decide +kernel⟩
set_option maxHeartbeats 2000000 in
theorem w_X12_allSit_4 {p : Program} {l : Launch} {e : Env} {s : State} {m : MethodId} {args : Array Value} {below : List Frame} {meth : Method} {c : Code} {D : va_G} {G : Nat → ClassId} {B : Nat} {M : fp_Mem} {r : Int32} (E : fp_EV p s m args meth c cX12_allSit 3 RX12 (some .int) D G) : ∀ (n : Nat) (v1 : Int32) (v2 : Int32) {H : Heap} {locs : List Loc} {ls : Array Slot}, fp_H D G B s M H locs → lv_has ls 3 [(0, .ref (B + 120)), (1, .int v1), (2, .int v2)] → m_X12_allSit_4 M n v1 v2 = some r → W p l e rm_X12_allSit s m args below meth c H locs 0 0 (MQ below (fp_Qi D G B r M) args s 0 0 (fp_A B)) (F0 m 4 ls []) := by
  have hx := E.1
  have hb := E.2.1
  have hown := E.2.2.2.1
  intro n
  induction n with
  | zero =>
    intro v1 v2 H locs ls hG hl h
    exact nomatch h
  | succ n ih =>
    have ihK := @ih
    intro v1 v2 H locs ls hG hl h
    rw [m_X12_allSit_4] at h
    refine lv_iload_n hx hb dX12_allSit_4 rfl (lv_at hl 2 rfl) ?_
    refine lv_aload_n hx hb dX12_allSit_5 rfl (lv_at hl 0 rfl) ?_
    refine fp_g12_1 E hG tw_806 dX12_allSit_6 ?_
    refine lv_icmp_ge (tgt := 30) hx hb dX12_allSit_9 (by decide) (fun q => ?_) (fun q => ?_)
    · replace h := fp_ifT q h
      refine lv_iload_n hx hb dX12_allSit_30 rfl (lv_at hl 1 rfl) ?_
      exact fp_ireti E hG (Option.some.inj h) rfl dX12_allSit_31
    · replace h := fp_ifF q h
      refine lv_iload_n hx hb dX12_allSit_12 rfl (lv_at hl 1 rfl) ?_
      refine lv_aload_n hx hb dX12_allSit_13 rfl (lv_at hl 0 rfl) ?_
      refine fp_g12_5 E hG tw_810 dX12_allSit_14 ?_
      refine lv_bipush (v := (nI 9)) hx hb dX12_allSit_17 (by decide) ?_
      refine lv_iload_n hx hb dX12_allSit_19 rfl (lv_at hl 2 rfl) ?_
      refine lv_iadd hx hb dX12_allSit_20 ?_
      obtain ⟨g_1, h⟩ := fp_gd_s h
      refine fp_iald E hG fp_cc123.1 (fp_a28 fp_cc123) (fp_in_s g_1) dX12_allSit_21 ?_
      refine lv_iadd hx hb dX12_allSit_22 ?_
      obtain ⟨x_2, ex_2, h⟩ := fp_lt_s h
      refine fp_top ex_2 ?_
      refine lv_istore_n (lv' := [(1, .int x_2), (0, .ref (B + 120)), (2, .int v2)]) hx hb dX12_allSit_23 rfl hl (by decide) rfl (fun ls hl => ?_)
      obtain ⟨x_3, ex_3, h⟩ := fp_lt_s h
      refine lv_iinc (v := x_3) (lv' := [(2, .int x_3), (1, .int x_2), (0, .ref (B + 120))]) hx hb dX12_allSit_24 hl (k := 2) rfl (by rw [ex_3]; rfl) (by decide) rfl (fun ls hl => ?_)
      refine lv_goto (tgt := 4) hx hb dX12_allSit_27 (by decide) ?_
      exact ih _ _ hG (lv_sub hl [2, 1, 0] rfl) h
set_option maxHeartbeats 2000000 in
theorem w_X12_allSit_0 {p : Program} {l : Launch} {e : Env} {s : State} {m : MethodId} {args : Array Value} {below : List Frame} {meth : Method} {c : Code} {D : va_G} {G : Nat → ClassId} {B : Nat} {M : fp_Mem} {r : Int32} (E : fp_EV p s m args meth c cX12_allSit 3 RX12 (some .int) D G) {H : Heap} {locs : List Loc} {ls : Array Slot} (hG : fp_H D G B s M H locs) (hl : lv_has ls 3 [(0, .ref (B + 120))]) (h : m_X12_allSit M = some r) : W p l e rm_X12_allSit s m args below meth c H locs 0 0 (MQ below (fp_Qi D G B r M) args s 0 0 (fp_A B)) (F0 m 0 ls []) := by
  have hx := E.1
  have hb := E.2.1
  have hown := E.2.2.2.1
  unfold m_X12_allSit at h
  refine lv_iconst (v := (nI 0)) hx hb dX12_allSit_0 (by decide) ?_
  refine lv_istore_n (lv' := [(1, .int (nI 0)), (0, .ref (B + 120))]) hx hb dX12_allSit_1 rfl hl (by decide) rfl (fun ls hl => ?_)
  refine lv_iconst (v := (nI 0)) hx hb dX12_allSit_2 (by decide) ?_
  refine lv_istore_n (lv' := [(2, .int (nI 0)), (1, .int (nI 0)), (0, .ref (B + 120))]) hx hb dX12_allSit_3 rfl hl (by decide) rfl (fun ls hl => ?_)
  exact w_X12_allSit_4 E   fp_fu _ _ hG (lv_sub hl [2, 1, 0] rfl) h
theorem c_X12_allSit (l : Launch) (D : va_G) (G : Nat → ClassId) (B : Nat) {M : fp_Mem}   {r : Int32}  (h : m_X12_allSit M = some r) : Met l yX12_allSit (Cond.code yX12_allSit cX12_allSit 3 (some .int) :: fp_T) rm_X12_allSit (va_Pc [.ref (B + 120)] (fp_GS D G B M)) (fp_Qi D G B r M) 0 0 (fp_A B) :=
  fp_met (own := RX12) (by decide) rfl (Nat.le_of_ble_eq_true rfl) (fun E hG hl => w_X12_allSit_0 E  hG hl h)
abbrev rm_X12_inspected : Room := { frames := 1, cells := 0, slots := 0, locals := 21 }
theorem cv_X12_inspected : fp_CV yX12_inspected cX12_inspected 3 (some .int) 0 := ⟨tw_982, tw_13, by decide, by decide +kernel⟩
set_option maxHeartbeats 2000000 in
theorem w_X12_inspected_29 {p : Program} {l : Launch} {e : Env} {s : State} {m : MethodId} {args : Array Value} {below : List Frame} {meth : Method} {c : Code} {D : va_G} {G : Nat → ClassId} {B : Nat} {M : fp_Mem} {K4 : Int32 → Int32 → Option (Int32)} {r : Int32} (E : fp_EV p s m args meth c cX12_inspected 3 RX12 (some .int) D G) (HK4 : ∀ (wv1 : Int32) (wv2 : Int32) {H : Heap} {locs : List Loc} {ls : Array Slot}, fp_H D G B s M H locs → lv_has ls 3 [(0, .ref (B + 120)), (1, .int wv1), (2, .int wv2)] → K4 wv1 wv2 = some r → W p l e rm_X12_inspected s m args below meth c H locs 0 0 (MQ below (fp_Qi D G B r M) args s 0 0 (fp_A B)) (F0 m 4 ls [])) (v2 : Int32) (s0 : Int32) (s1 : Int32) {H : Heap} {locs : List Loc} {ls : Array Slot} (hG : fp_H D G B s M H locs) (hl : lv_has ls 3 [(0, .ref (B + 120)), (2, .int v2)]) (h : m_X12_inspected_29 M K4 v2 s0 s1 = some r) : W p l e rm_X12_inspected s m args below meth c H locs 0 0 (MQ below (fp_Qi D G B r M) args s 0 0 (fp_A B)) (F0 m 29 ls [.int s1, .int s0]) := by
  have hx := E.1
  have hb := E.2.1
  have hown := E.2.2.2.1
  unfold m_X12_inspected_29 at h
  refine lv_ior hx hb dX12_inspected_29 ?_
  obtain ⟨x_1, ex_1, h⟩ := fp_lt_s h
  refine fp_top ex_1 ?_
  refine lv_istore_n (lv' := [(1, .int x_1), (0, .ref (B + 120)), (2, .int v2)]) hx hb dX12_inspected_30 rfl hl (by decide) rfl (fun ls hl => ?_)
  obtain ⟨x_2, ex_2, h⟩ := fp_lt_s h
  refine lv_iinc (v := x_2) (lv' := [(2, .int x_2), (1, .int x_1), (0, .ref (B + 120))]) hx hb dX12_inspected_31 hl (k := 2) rfl (by rw [ex_2]; rfl) (by decide) rfl (fun ls hl => ?_)
  refine lv_goto (tgt := 4) hx hb dX12_inspected_34 (by decide) ?_
  exact HK4 _ _ hG (lv_sub hl [2, 1, 0] rfl) h
set_option maxHeartbeats 2000000 in
theorem w_X12_inspected_4 {p : Program} {l : Launch} {e : Env} {s : State} {m : MethodId} {args : Array Value} {below : List Frame} {meth : Method} {c : Code} {D : va_G} {G : Nat → ClassId} {B : Nat} {M : fp_Mem} {r : Int32} (E : fp_EV p s m args meth c cX12_inspected 3 RX12 (some .int) D G) : ∀ (n : Nat) (v1 : Int32) (v2 : Int32) {H : Heap} {locs : List Loc} {ls : Array Slot}, fp_H D G B s M H locs → lv_has ls 3 [(0, .ref (B + 120)), (1, .int v1), (2, .int v2)] → m_X12_inspected_4 M n v1 v2 = some r → W p l e rm_X12_inspected s m args below meth c H locs 0 0 (MQ below (fp_Qi D G B r M) args s 0 0 (fp_A B)) (F0 m 4 ls []) := by
  have hx := E.1
  have hb := E.2.1
  have hown := E.2.2.2.1
  intro n
  induction n with
  | zero =>
    intro v1 v2 H locs ls hG hl h
    exact nomatch h
  | succ n ih =>
    have ihK := @ih
    intro v1 v2 H locs ls hG hl h
    rw [m_X12_inspected_4] at h
    refine lv_iload_n hx hb dX12_inspected_4 rfl (lv_at hl 2 rfl) ?_
    refine lv_aload_n hx hb dX12_inspected_5 rfl (lv_at hl 0 rfl) ?_
    refine fp_g12_1 E hG tw_806 dX12_inspected_6 ?_
    refine lv_icmp_ge (tgt := 37) hx hb dX12_inspected_9 (by decide) (fun q => ?_) (fun q => ?_)
    · replace h := fp_ifT q h
      refine lv_iload_n hx hb dX12_inspected_37 rfl (lv_at hl 1 rfl) ?_
      exact fp_ireti E hG (Option.some.inj h) rfl dX12_inspected_38
    · replace h := fp_ifF q h
      refine lv_iload_n hx hb dX12_inspected_12 rfl (lv_at hl 1 rfl) ?_
      refine lv_aload_n hx hb dX12_inspected_13 rfl (lv_at hl 0 rfl) ?_
      refine lv_iload_n hx hb dX12_inspected_14 rfl (lv_at hl 2 rfl) ?_
      obtain ⟨r_3, c_4, h⟩ := fp_b1_s h
      refine fp_callVi (As := [.int v2]) (rest := [.int v1]) E hG (c_X12_free l D G B c_4) cv_X12_free tw_983 tw_985 ts_29 ⟨rfl, rfl⟩ ⟨Nat.le_of_ble_eq_true rfl, Nat.le_of_ble_eq_true rfl⟩ (fp_recv E hG (by decide) (fp_o12 _) rfl) rfl rfl (Nat.le_of_ble_eq_true rfl) hl.1 dX12_inspected_15 ⟨Nat.zero_le _, Nat.zero_le _⟩ (fun H locs hG => ?_)
      refine lv_iconst (v := (nI 1)) hx hb dX12_inspected_18 (by decide) ?_
      refine lv_icmp_ge (tgt := 28) hx hb dX12_inspected_19 (by decide) (fun q => ?_) (fun q => ?_)
      · replace h := fp_ifT q h
        refine lv_iconst (v := (nI 0)) hx hb dX12_inspected_28 (by decide) ?_
        exact w_X12_inspected_29 E  ihK _ _ _ hG (lv_sub hl [0, 2] rfl) h
      · replace h := fp_ifF q h
        refine lv_iconst (v := (nI 1)) hx hb dX12_inspected_22 (by decide) ?_
        refine lv_iload_n hx hb dX12_inspected_23 rfl (lv_at hl 2 rfl) ?_
        refine lv_ishl hx hb dX12_inspected_24 ?_
        refine lv_goto (tgt := 29) hx hb dX12_inspected_25 (by decide) ?_
        exact w_X12_inspected_29 E  ihK _ _ _ hG (lv_sub hl [0, 2] rfl) h
set_option maxHeartbeats 2000000 in
theorem w_X12_inspected_0 {p : Program} {l : Launch} {e : Env} {s : State} {m : MethodId} {args : Array Value} {below : List Frame} {meth : Method} {c : Code} {D : va_G} {G : Nat → ClassId} {B : Nat} {M : fp_Mem} {r : Int32} (E : fp_EV p s m args meth c cX12_inspected 3 RX12 (some .int) D G) {H : Heap} {locs : List Loc} {ls : Array Slot} (hG : fp_H D G B s M H locs) (hl : lv_has ls 3 [(0, .ref (B + 120))]) (h : m_X12_inspected M = some r) : W p l e rm_X12_inspected s m args below meth c H locs 0 0 (MQ below (fp_Qi D G B r M) args s 0 0 (fp_A B)) (F0 m 0 ls []) := by
  have hx := E.1
  have hb := E.2.1
  have hown := E.2.2.2.1
  unfold m_X12_inspected at h
  refine lv_iconst (v := (nI 0)) hx hb dX12_inspected_0 (by decide) ?_
  refine lv_istore_n (lv' := [(1, .int (nI 0)), (0, .ref (B + 120))]) hx hb dX12_inspected_1 rfl hl (by decide) rfl (fun ls hl => ?_)
  refine lv_iconst (v := (nI 0)) hx hb dX12_inspected_2 (by decide) ?_
  refine lv_istore_n (lv' := [(2, .int (nI 0)), (1, .int (nI 0)), (0, .ref (B + 120))]) hx hb dX12_inspected_3 rfl hl (by decide) rfl (fun ls hl => ?_)
  exact w_X12_inspected_4 E   fp_fu _ _ hG (lv_sub hl [2, 1, 0] rfl) h
theorem c_X12_inspected (l : Launch) (D : va_G) (G : Nat → ClassId) (B : Nat) {M : fp_Mem}   {r : Int32}  (h : m_X12_inspected M = some r) : Met l yX12_inspected (Cond.code yX12_inspected cX12_inspected 3 (some .int) :: fp_T) rm_X12_inspected (va_Pc [.ref (B + 120)] (fp_GS D G B M)) (fp_Qi D G B r M) 0 0 (fp_A B) :=
  fp_met (own := RX12) (by decide) rfl (Nat.le_of_ble_eq_true rfl) (fun E hG hl => w_X12_inspected_0 E  hG hl h)
abbrev rm_X12_emergency : Room := { frames := 3, cells := 0, slots := 0, locals := 69 }
theorem cv_X12_emergency : fp_CV yX12_emergency cX12_emergency 3 (some .int) 0 := ⟨tw_990, tw_13, by decide, by decide +kernel⟩
set_option maxHeartbeats 2000000 in
theorem w_X12_emergency_36 {p : Program} {l : Launch} {e : Env} {s : State} {m : MethodId} {args : Array Value} {below : List Frame} {meth : Method} {c : Code} {D : va_G} {G : Nat → ClassId} {B : Nat} {K8 : Int32 → Int32 → fp_Mem → Option (Int32 × fp_Mem)} {r : Int32} {M' : fp_Mem} (E : fp_EV p s m args meth c cX12_emergency 3 RX12 (some .int) D G) (HK8 : ∀ (wv1 : Int32) (wv2 : Int32) (wM : fp_Mem) {H : Heap} {locs : List Loc} {ls : Array Slot}, fp_H D G B s wM H locs → lv_has ls 3 [(0, .ref (B + 120)), (1, .int wv1), (2, .int wv2)] → K8 wv1 wv2 wM = some (r, M') → W p l e rm_X12_emergency s m args below meth c H locs 0 0 (MQ below (fp_Qi D G B r M') args s 0 0 (fp_A B)) (F0 m 8 ls [])) (v2 : Int32) (s0 : Int32) (s1 : Int32) (M : fp_Mem) {H : Heap} {locs : List Loc} {ls : Array Slot} (hG : fp_H D G B s M H locs) (hl : lv_has ls 3 [(0, .ref (B + 120)), (2, .int v2)]) (h : m_X12_emergency_36 K8 v2 s0 s1 M = some (r, M')) : W p l e rm_X12_emergency s m args below meth c H locs 0 0 (MQ below (fp_Qi D G B r M') args s 0 0 (fp_A B)) (F0 m 36 ls [.int s1, .int s0]) := by
  have hx := E.1
  have hb := E.2.1
  have hown := E.2.2.2.1
  unfold m_X12_emergency_36 at h
  refine lv_ior hx hb dX12_emergency_36 ?_
  obtain ⟨x_1, ex_1, h⟩ := fp_lt_s h
  refine fp_top ex_1 ?_
  refine lv_istore_n (lv' := [(1, .int x_1), (0, .ref (B + 120)), (2, .int v2)]) hx hb dX12_emergency_37 rfl hl (by decide) rfl (fun ls hl => ?_)
  obtain ⟨x_2, ex_2, h⟩ := fp_lt_s h
  refine lv_iinc (v := x_2) (lv' := [(2, .int x_2), (1, .int x_1), (0, .ref (B + 120))]) hx hb dX12_emergency_38 hl (k := 2) rfl (by rw [ex_2]; rfl) (by decide) rfl (fun ls hl => ?_)
  refine lv_goto (tgt := 8) hx hb dX12_emergency_41 (by decide) ?_
  exact HK8 _ _ _ hG (lv_sub hl [2, 1, 0] rfl) h
set_option maxHeartbeats 2000000 in
theorem w_X12_emergency_8 {p : Program} {l : Launch} {e : Env} {s : State} {m : MethodId} {args : Array Value} {below : List Frame} {meth : Method} {c : Code} {D : va_G} {G : Nat → ClassId} {B : Nat} {r : Int32} {M' : fp_Mem} (E : fp_EV p s m args meth c cX12_emergency 3 RX12 (some .int) D G) : ∀ (n : Nat) (v1 : Int32) (v2 : Int32) (M : fp_Mem) {H : Heap} {locs : List Loc} {ls : Array Slot}, fp_H D G B s M H locs → lv_has ls 3 [(0, .ref (B + 120)), (1, .int v1), (2, .int v2)] → m_X12_emergency_8 n v1 v2 M = some (r, M') → W p l e rm_X12_emergency s m args below meth c H locs 0 0 (MQ below (fp_Qi D G B r M') args s 0 0 (fp_A B)) (F0 m 8 ls []) := by
  have hx := E.1
  have hb := E.2.1
  have hown := E.2.2.2.1
  intro n
  induction n with
  | zero =>
    intro v1 v2 M H locs ls hG hl h
    exact nomatch h
  | succ n ih =>
    have ihK := @ih
    intro v1 v2 M H locs ls hG hl h
    rw [m_X12_emergency_8] at h
    refine lv_iload_n hx hb dX12_emergency_8 rfl (lv_at hl 2 rfl) ?_
    refine lv_aload_n hx hb dX12_emergency_9 rfl (lv_at hl 0 rfl) ?_
    refine fp_g12_1 E hG tw_806 dX12_emergency_10 ?_
    refine lv_icmp_ge (tgt := 44) hx hb dX12_emergency_13 (by decide) (fun q => ?_) (fun q => ?_)
    · replace h := fp_ifT q h
      refine lv_iload_n hx hb dX12_emergency_44 rfl (lv_at hl 1 rfl) ?_
      exact fp_ireti E hG (fp_pr1 h) (fp_pr2 h) dX12_emergency_45
    · replace h := fp_ifF q h
      refine lv_iload_n hx hb dX12_emergency_16 rfl (lv_at hl 1 rfl) ?_
      refine lv_aload_n hx hb dX12_emergency_17 rfl (lv_at hl 0 rfl) ?_
      refine fp_g12_22 E hG tw_827 dX12_emergency_18 ?_
      refine lv_iload_n hx hb dX12_emergency_21 rfl (lv_at hl 2 rfl) ?_
      obtain ⟨g_3, h⟩ := fp_gd_s h
      refine fp_iald E hG fp_cc130.1 (fp_a20 fp_cc130) (fp_in_s g_3) dX12_emergency_22 ?_
      refine lv_sipush (v := (nI 1000)) hx hb dX12_emergency_23 (by decide) ?_
      refine lv_icmp_ne (tgt := 35) hx hb dX12_emergency_26 (by decide) (fun q => ?_) (fun q => ?_)
      · replace h := fp_ifF q h
        refine lv_iconst (v := (nI 0)) hx hb dX12_emergency_35 (by decide) ?_
        exact w_X12_emergency_36 E  ihK _ _ _ _ hG (lv_sub hl [0, 2] rfl) h
      · replace h := fp_ifT q h
        refine lv_iconst (v := (nI 1)) hx hb dX12_emergency_29 (by decide) ?_
        refine lv_iload_n hx hb dX12_emergency_30 rfl (lv_at hl 2 rfl) ?_
        refine lv_ishl hx hb dX12_emergency_31 ?_
        refine lv_goto (tgt := 36) hx hb dX12_emergency_32 (by decide) ?_
        exact w_X12_emergency_36 E  ihK _ _ _ _ hG (lv_sub hl [0, 2] rfl) h
set_option maxHeartbeats 2000000 in
theorem w_X12_emergency_0 {p : Program} {l : Launch} {e : Env} {s : State} {m : MethodId} {args : Array Value} {below : List Frame} {meth : Method} {c : Code} {D : va_G} {G : Nat → ClassId} {B : Nat} {r : Int32} {M' : fp_Mem} (E : fp_EV p s m args meth c cX12_emergency 3 RX12 (some .int) D G) {M : fp_Mem} {H : Heap} {locs : List Loc} {ls : Array Slot} (hG : fp_H D G B s M H locs) (hl : lv_has ls 3 [(0, .ref (B + 120))]) (h : m_X12_emergency M = some (r, M')) : W p l e rm_X12_emergency s m args below meth c H locs 0 0 (MQ below (fp_Qi D G B r M') args s 0 0 (fp_A B)) (F0 m 0 ls []) := by
  have hx := E.1
  have hb := E.2.1
  have hown := E.2.2.2.1
  unfold m_X12_emergency at h
  refine lv_aload_n hx hb dX12_emergency_0 rfl (lv_at hl 0 rfl) ?_
  obtain ⟨M_4, c_5, h⟩ := fp_b1_s h
  refine fp_callVv (As := []) (rest := []) E hG (c_X12_findAway l D G B c_5) cv_X12_findAway tw_991 tw_993 ts_31 ⟨rfl, rfl⟩ ⟨Nat.le_of_ble_eq_true rfl, Nat.le_of_ble_eq_true rfl⟩ (fp_recv E hG (by decide) (fp_o12 _) rfl) rfl rfl (Nat.le_of_ble_eq_true rfl) hl.1 dX12_emergency_1 ⟨Nat.zero_le _, Nat.zero_le _⟩ (fun H locs hG => ?_)
  refine lv_iconst (v := (nI 0)) hx hb dX12_emergency_4 (by decide) ?_
  refine lv_istore_n (lv' := [(1, .int (nI 0)), (0, .ref (B + 120))]) hx hb dX12_emergency_5 rfl hl (by decide) rfl (fun ls hl => ?_)
  refine lv_iconst (v := (nI 0)) hx hb dX12_emergency_6 (by decide) ?_
  refine lv_istore_n (lv' := [(2, .int (nI 0)), (1, .int (nI 0)), (0, .ref (B + 120))]) hx hb dX12_emergency_7 rfl hl (by decide) rfl (fun ls hl => ?_)
  exact w_X12_emergency_8 E   fp_fu _ _ _ hG (lv_sub hl [2, 1, 0] rfl) h
theorem c_X12_emergency (l : Launch) (D : va_G) (G : Nat → ClassId) (B : Nat) {M : fp_Mem}   {r : Int32} {M' : fp_Mem}  (h : m_X12_emergency M = some (r, M')) : Met l yX12_emergency (Cond.code yX12_emergency cX12_emergency 3 (some .int) :: fp_T) rm_X12_emergency (va_Pc [.ref (B + 120)] (fp_GS D G B M)) (fp_Qi D G B r M') 0 0 (fp_A B) :=
  fp_met (own := RX12) (by decide) rfl (Nat.le_of_ble_eq_true rfl) (fun E hG hl => w_X12_emergency_0 E  hG hl h)
abbrev rm_X12_told : Room := { frames := 4, cells := 0, slots := 0, locals := 91 }
theorem cv_X12_told : fp_CV yX12_told cX12_told 2 (some .int) 1 := ⟨tw_974, tw_13, by decide, by decide +kernel⟩
set_option maxHeartbeats 2000000 in
theorem w_X12_told_0 {p : Program} {l : Launch} {e : Env} {s : State} {m : MethodId} {args : Array Value} {below : List Frame} {meth : Method} {c : Code} {D : va_G} {G : Nat → ClassId} {B : Nat} {p1 : Int32} {r : Int32} {M' : fp_Mem} (E : fp_EV p s m args meth c cX12_told 2 RX12 (some .int) D G) {M : fp_Mem} {H : Heap} {locs : List Loc} {ls : Array Slot} (hG : fp_H D G B s M H locs) (hl : lv_has ls 2 [(0, .ref (B + 120)), (1, .int p1)]) (h : m_X12_told M p1 = some (r, M')) : W p l e rm_X12_told s m args below meth c H locs 0 0 (MQ below (fp_Qi D G B r M') args s 0 0 (fp_A B)) (F0 m 0 ls []) := by
  have hx := E.1
  have hb := E.2.1
  have hown := E.2.2.2.1
  unfold m_X12_told at h
  refine lv_iload_n hx hb dX12_told_0 rfl (lv_at hl 1 rfl) ?_
  by_cases q1_0 : p1 = (nI 0)
  · replace h := fp_ifT q1_0 h
    refine lv_tableIn (off := 83) (tgt := 84) hx hb dX12_told_1 (by rw [q1_0]; decide) (by rw [q1_0]; decide) (by rw [q1_0]; rfl) (by decide) ?_
    refine lv_aload_n hx hb dX12_told_84 rfl (lv_at hl 0 rfl) ?_
    refine fp_g12_0 E hG tw_805 dX12_told_85 ?_
    exact fp_ireti E hG (fp_pr1 h) (fp_pr2 h) dX12_told_88
  replace h := fp_ifF q1_0 h
  by_cases q1_1 : p1 = (nI 1)
  · replace h := fp_ifT q1_1 h
    refine lv_tableIn (off := 88) (tgt := 89) hx hb dX12_told_1 (by rw [q1_1]; decide) (by rw [q1_1]; decide) (by rw [q1_1]; rfl) (by decide) ?_
    refine lv_aload_n hx hb dX12_told_89 rfl (lv_at hl 0 rfl) ?_
    refine fp_g12_5 E hG tw_810 dX12_told_90 ?_
    refine lv_bipush (v := (nI 18)) hx hb dX12_told_93 (by decide) ?_
    obtain ⟨g_1, h⟩ := fp_gd_s h
    refine fp_iald E hG fp_cc123.1 (fp_a28 fp_cc123) (fp_in_s g_1) dX12_told_95 ?_
    exact fp_ireti E hG (fp_pr1 h) (fp_pr2 h) dX12_told_96
  replace h := fp_ifF q1_1 h
  by_cases q1_2 : p1 = (nI 2)
  · replace h := fp_ifT q1_2 h
    refine lv_tableIn (off := 96) (tgt := 97) hx hb dX12_told_1 (by rw [q1_2]; decide) (by rw [q1_2]; decide) (by rw [q1_2]; rfl) (by decide) ?_
    refine lv_aload_n hx hb dX12_told_97 rfl (lv_at hl 0 rfl) ?_
    refine fp_g12_1 E hG tw_806 dX12_told_98 ?_
    exact fp_ireti E hG (fp_pr1 h) (fp_pr2 h) dX12_told_101
  replace h := fp_ifF q1_2 h
  by_cases q1_3 : p1 = (nI 3)
  · replace h := fp_ifT q1_3 h
    refine lv_tableIn (off := 101) (tgt := 102) hx hb dX12_told_1 (by rw [q1_3]; decide) (by rw [q1_3]; decide) (by rw [q1_3]; rfl) (by decide) ?_
    refine lv_aload_n hx hb dX12_told_102 rfl (lv_at hl 0 rfl) ?_
    refine fp_g12_2 E hG tw_807 dX12_told_103 ?_
    exact fp_ireti E hG (fp_pr1 h) (fp_pr2 h) dX12_told_106
  replace h := fp_ifF q1_3 h
  by_cases q1_4 : p1 = (nI 4)
  · replace h := fp_ifT q1_4 h
    refine lv_tableIn (off := 106) (tgt := 107) hx hb dX12_told_1 (by rw [q1_4]; decide) (by rw [q1_4]; decide) (by rw [q1_4]; rfl) (by decide) ?_
    refine lv_aload_n hx hb dX12_told_107 rfl (lv_at hl 0 rfl) ?_
    refine fp_g12_9 E hG tw_814 dX12_told_108 ?_
    exact fp_ireti E hG (fp_pr1 h) (fp_pr2 h) dX12_told_111
  replace h := fp_ifF q1_4 h
  by_cases q1_5 : p1 = (nI 5)
  · replace h := fp_ifT q1_5 h
    refine lv_tableIn (off := 111) (tgt := 112) hx hb dX12_told_1 (by rw [q1_5]; decide) (by rw [q1_5]; decide) (by rw [q1_5]; rfl) (by decide) ?_
    refine lv_aload_n hx hb dX12_told_112 rfl (lv_at hl 0 rfl) ?_
    obtain ⟨r_2, c_3, h⟩ := fp_b1_s h
    refine fp_callVi (As := []) (rest := []) E hG (c_X12_allSit l D G B c_3) cv_X12_allSit tw_975 tw_977 ts_27 ⟨rfl, rfl⟩ ⟨Nat.le_of_ble_eq_true rfl, Nat.le_of_ble_eq_true rfl⟩ (fp_recv E hG (by decide) (fp_o12 _) rfl) rfl rfl (Nat.le_of_ble_eq_true rfl) hl.1 dX12_told_113 ⟨Nat.zero_le _, Nat.zero_le _⟩ (fun H locs hG => ?_)
    exact fp_ireti E hG (fp_pr1 h) (fp_pr2 h) dX12_told_116
  replace h := fp_ifF q1_5 h
  by_cases q1_6 : p1 = (nI 6)
  · replace h := fp_ifT q1_6 h
    refine lv_tableIn (off := 116) (tgt := 117) hx hb dX12_told_1 (by rw [q1_6]; decide) (by rw [q1_6]; decide) (by rw [q1_6]; rfl) (by decide) ?_
    refine lv_aload_n hx hb dX12_told_117 rfl (lv_at hl 0 rfl) ?_
    refine fp_g12_5 E hG tw_810 dX12_told_118 ?_
    refine lv_bipush (v := (nI 20)) hx hb dX12_told_121 (by decide) ?_
    obtain ⟨g_4, h⟩ := fp_gd_s h
    refine fp_iald E hG fp_cc123.1 (fp_a28 fp_cc123) (fp_in_s g_4) dX12_told_123 ?_
    exact fp_ireti E hG (fp_pr1 h) (fp_pr2 h) dX12_told_124
  replace h := fp_ifF q1_6 h
  by_cases q1_7 : p1 = (nI 7)
  · replace h := fp_ifT q1_7 h
    refine lv_tableIn (off := 124) (tgt := 125) hx hb dX12_told_1 (by rw [q1_7]; decide) (by rw [q1_7]; decide) (by rw [q1_7]; rfl) (by decide) ?_
    refine lv_aload_n hx hb dX12_told_125 rfl (lv_at hl 0 rfl) ?_
    refine fp_g12_5 E hG tw_810 dX12_told_126 ?_
    refine lv_bipush (v := (nI 21)) hx hb dX12_told_129 (by decide) ?_
    obtain ⟨g_5, h⟩ := fp_gd_s h
    refine fp_iald E hG fp_cc123.1 (fp_a28 fp_cc123) (fp_in_s g_5) dX12_told_131 ?_
    exact fp_ireti E hG (fp_pr1 h) (fp_pr2 h) dX12_told_132
  replace h := fp_ifF q1_7 h
  by_cases q1_8 : p1 = (nI 8)
  · replace h := fp_ifT q1_8 h
    refine lv_tableIn (off := 132) (tgt := 133) hx hb dX12_told_1 (by rw [q1_8]; decide) (by rw [q1_8]; decide) (by rw [q1_8]; rfl) (by decide) ?_
    refine lv_aload_n hx hb dX12_told_133 rfl (lv_at hl 0 rfl) ?_
    refine fp_g12_5 E hG tw_810 dX12_told_134 ?_
    refine lv_bipush (v := (nI 22)) hx hb dX12_told_137 (by decide) ?_
    obtain ⟨g_6, h⟩ := fp_gd_s h
    refine fp_iald E hG fp_cc123.1 (fp_a28 fp_cc123) (fp_in_s g_6) dX12_told_139 ?_
    exact fp_ireti E hG (fp_pr1 h) (fp_pr2 h) dX12_told_140
  replace h := fp_ifF q1_8 h
  by_cases q1_9 : p1 = (nI 9)
  · replace h := fp_ifT q1_9 h
    refine lv_tableIn (off := 140) (tgt := 141) hx hb dX12_told_1 (by rw [q1_9]; decide) (by rw [q1_9]; decide) (by rw [q1_9]; rfl) (by decide) ?_
    refine lv_aload_n hx hb dX12_told_141 rfl (lv_at hl 0 rfl) ?_
    refine fp_g12_5 E hG tw_810 dX12_told_142 ?_
    refine lv_bipush (v := (nI 23)) hx hb dX12_told_145 (by decide) ?_
    obtain ⟨g_7, h⟩ := fp_gd_s h
    refine fp_iald E hG fp_cc123.1 (fp_a28 fp_cc123) (fp_in_s g_7) dX12_told_147 ?_
    exact fp_ireti E hG (fp_pr1 h) (fp_pr2 h) dX12_told_148
  replace h := fp_ifF q1_9 h
  by_cases q1_10 : p1 = (nI 10)
  · replace h := fp_ifT q1_10 h
    refine lv_tableIn (off := 148) (tgt := 149) hx hb dX12_told_1 (by rw [q1_10]; decide) (by rw [q1_10]; decide) (by rw [q1_10]; rfl) (by decide) ?_
    refine lv_aload_n hx hb dX12_told_149 rfl (lv_at hl 0 rfl) ?_
    refine fp_g12_5 E hG tw_810 dX12_told_150 ?_
    refine lv_bipush (v := (nI 24)) hx hb dX12_told_153 (by decide) ?_
    obtain ⟨g_8, h⟩ := fp_gd_s h
    refine fp_iald E hG fp_cc123.1 (fp_a28 fp_cc123) (fp_in_s g_8) dX12_told_155 ?_
    exact fp_ireti E hG (fp_pr1 h) (fp_pr2 h) dX12_told_156
  replace h := fp_ifF q1_10 h
  by_cases q1_11 : p1 = (nI 11)
  · replace h := fp_ifT q1_11 h
    refine lv_tableIn (off := 156) (tgt := 157) hx hb dX12_told_1 (by rw [q1_11]; decide) (by rw [q1_11]; decide) (by rw [q1_11]; rfl) (by decide) ?_
    refine lv_aload_n hx hb dX12_told_157 rfl (lv_at hl 0 rfl) ?_
    obtain ⟨r_9, c_10, h⟩ := fp_b1_s h
    refine fp_callVi (As := []) (rest := []) E hG (c_X12_inspected l D G B c_10) cv_X12_inspected tw_979 tw_981 ts_28 ⟨rfl, rfl⟩ ⟨Nat.le_of_ble_eq_true rfl, Nat.le_of_ble_eq_true rfl⟩ (fp_recv E hG (by decide) (fp_o12 _) rfl) rfl rfl (Nat.le_of_ble_eq_true rfl) hl.1 dX12_told_158 ⟨Nat.zero_le _, Nat.zero_le _⟩ (fun H locs hG => ?_)
    exact fp_ireti E hG (fp_pr1 h) (fp_pr2 h) dX12_told_161
  replace h := fp_ifF q1_11 h
  by_cases q1_12 : p1 = (nI 12)
  · replace h := fp_ifT q1_12 h
    refine lv_tableIn (off := 161) (tgt := 162) hx hb dX12_told_1 (by rw [q1_12]; decide) (by rw [q1_12]; decide) (by rw [q1_12]; rfl) (by decide) ?_
    refine lv_aload_n hx hb dX12_told_162 rfl (lv_at hl 0 rfl) ?_
    obtain ⟨r_11, M_12, c_13, h⟩ := fp_b2_s h
    refine fp_callVi (As := []) (rest := []) E hG (c_X12_emergency l D G B c_13) cv_X12_emergency tw_987 tw_989 ts_30 ⟨rfl, rfl⟩ ⟨Nat.le_of_ble_eq_true rfl, Nat.le_of_ble_eq_true rfl⟩ (fp_recv E hG (by decide) (fp_o12 _) rfl) rfl rfl (Nat.le_of_ble_eq_true rfl) hl.1 dX12_told_163 ⟨Nat.zero_le _, Nat.zero_le _⟩ (fun H locs hG => ?_)
    exact fp_ireti E hG (fp_pr1 h) (fp_pr2 h) dX12_told_166
  replace h := fp_ifF q1_12 h
  by_cases q1_13 : p1 = (nI 13)
  · replace h := fp_ifT q1_13 h
    refine lv_tableIn (off := 166) (tgt := 167) hx hb dX12_told_1 (by rw [q1_13]; decide) (by rw [q1_13]; decide) (by rw [q1_13]; rfl) (by decide) ?_
    refine lv_aload_n hx hb dX12_told_167 rfl (lv_at hl 0 rfl) ?_
    refine fp_g12_5 E hG tw_810 dX12_told_168 ?_
    refine lv_bipush (v := (nI 19)) hx hb dX12_told_171 (by decide) ?_
    obtain ⟨g_14, h⟩ := fp_gd_s h
    refine fp_iald E hG fp_cc123.1 (fp_a28 fp_cc123) (fp_in_s g_14) dX12_told_173 ?_
    exact fp_ireti E hG (fp_pr1 h) (fp_pr2 h) dX12_told_174
  replace h := fp_ifF q1_13 h
  by_cases q1_14 : p1 = (nI 14)
  · replace h := fp_ifT q1_14 h
    refine lv_tableIn (off := 174) (tgt := 175) hx hb dX12_told_1 (by rw [q1_14]; decide) (by rw [q1_14]; decide) (by rw [q1_14]; rfl) (by decide) ?_
    refine lv_aload_n hx hb dX12_told_175 rfl (lv_at hl 0 rfl) ?_
    refine fp_g12_27 E hG tw_832 dX12_told_176 ?_
    exact fp_ireti E hG (fp_pr1 h) (fp_pr2 h) dX12_told_179
  replace h := fp_ifF q1_14 h
  by_cases q1_15 : p1 = (nI 15)
  · replace h := fp_ifT q1_15 h
    refine lv_tableIn (off := 179) (tgt := 180) hx hb dX12_told_1 (by rw [q1_15]; decide) (by rw [q1_15]; decide) (by rw [q1_15]; rfl) (by decide) ?_
    refine lv_aload_n hx hb dX12_told_180 rfl (lv_at hl 0 rfl) ?_
    refine fp_g12_30 E hG tw_835 dX12_told_181 ?_
    exact fp_ireti E hG (fp_pr1 h) (fp_pr2 h) dX12_told_184
  replace h := fp_ifF q1_15 h
  by_cases q1_16 : p1 = (nI 16)
  · replace h := fp_ifT q1_16 h
    refine lv_tableIn (off := 184) (tgt := 185) hx hb dX12_told_1 (by rw [q1_16]; decide) (by rw [q1_16]; decide) (by rw [q1_16]; rfl) (by decide) ?_
    refine lv_aload_n hx hb dX12_told_185 rfl (lv_at hl 0 rfl) ?_
    refine fp_g12_23 E hG tw_828 dX12_told_186 ?_
    exact fp_ireti E hG (fp_pr1 h) (fp_pr2 h) dX12_told_189
  replace h := fp_ifF q1_16 h
  refine lv_tableOut (tgt := 190) hx hb dX12_told_1 (by have eq1_0 := lv_neT (a := 0) q1_0 rfl; have eq1_1 := lv_neT (a := 1) q1_1 rfl; have eq1_2 := lv_neT (a := 2) q1_2 rfl; have eq1_3 := lv_neT (a := 3) q1_3 rfl; have eq1_4 := lv_neT (a := 4) q1_4 rfl; have eq1_5 := lv_neT (a := 5) q1_5 rfl; have eq1_6 := lv_neT (a := 6) q1_6 rfl; have eq1_7 := lv_neT (a := 7) q1_7 rfl; have eq1_8 := lv_neT (a := 8) q1_8 rfl; have eq1_9 := lv_neT (a := 9) q1_9 rfl; have eq1_10 := lv_neT (a := 10) q1_10 rfl; have eq1_11 := lv_neT (a := 11) q1_11 rfl; have eq1_12 := lv_neT (a := 12) q1_12 rfl; have eq1_13 := lv_neT (a := 13) q1_13 rfl; have eq1_14 := lv_neT (a := 14) q1_14 rfl; have eq1_15 := lv_neT (a := 15) q1_15 rfl; have eq1_16 := lv_neT (a := 16) q1_16 rfl; omega) (by decide) ?_
  refine lv_ldc (v := (-1000000002 : Int32)) hx hb hown (fp_tabs E tw_919) dX12_told_190 ?_
  exact fp_ireti E hG (fp_pr1 h) (fp_pr2 h) dX12_told_192
theorem c_X12_told (l : Launch) (D : va_G) (G : Nat → ClassId) (B : Nat) {M : fp_Mem}  {p1 : Int32} {r : Int32} {M' : fp_Mem}  (h : m_X12_told M p1 = some (r, M')) : Met l yX12_told (Cond.code yX12_told cX12_told 2 (some .int) :: fp_T) rm_X12_told (va_Pc [.ref (B + 120), .int p1] (fp_GS D G B M)) (fp_Qi D G B r M') 0 0 (fp_A B) :=
  fp_met (own := RX12) (by decide) rfl (Nat.le_of_ble_eq_true rfl) (fun E hG hl => w_X12_told_0 E  hG hl h)
abbrev rm_X12_table : Room := { frames := 2, cells := 0, slots := 0, locals := 46 }
theorem cv_X12_table : fp_CV yX12_table cX12_table 3 (some .int) 2 := ⟨tw_1005, tw_13, by decide, by decide +kernel⟩
set_option maxHeartbeats 2000000 in
theorem w_X12_table_0 {p : Program} {l : Launch} {e : Env} {s : State} {m : MethodId} {args : Array Value} {below : List Frame} {meth : Method} {c : Code} {D : va_G} {G : Nat → ClassId} {B : Nat} {M : fp_Mem} {p1 : Int32} {p2 : Int32} {r : Int32} (E : fp_EV p s m args meth c cX12_table 3 RX12 (some .int) D G) {H : Heap} {locs : List Loc} {ls : Array Slot} (hG : fp_H D G B s M H locs) (hl : lv_has ls 3 [(0, .ref (B + 120)), (1, .int p1), (2, .int p2)]) (h : m_X12_table M p1 p2 = some r) : W p l e rm_X12_table s m args below meth c H locs 0 0 (MQ below (fp_Qi D G B r M) args s 0 0 (fp_A B)) (F0 m 0 ls []) := by
  have hx := E.1
  have hb := E.2.1
  have hown := E.2.2.2.1
  unfold m_X12_table at h
  refine lv_aload_n hx hb dX12_table_0 rfl (lv_at hl 0 rfl) ?_
  refine lv_iload_n hx hb dX12_table_1 rfl (lv_at hl 1 rfl) ?_
  obtain ⟨r_1, c_2, h⟩ := fp_b1_s h
  refine fp_callVi (As := [.int p1]) (rest := []) E hG (c_X12_isTable l D G B c_2) cv_X12_isTable tw_1006 tw_1008 ts_33 ⟨rfl, rfl⟩ ⟨Nat.le_of_ble_eq_true rfl, Nat.le_of_ble_eq_true rfl⟩ (fp_recv E hG (by decide) (fp_o12 _) rfl) rfl rfl (Nat.le_of_ble_eq_true rfl) hl.1 dX12_table_2 ⟨Nat.zero_le _, Nat.zero_le _⟩ (fun H locs hG => ?_)
  refine lv_if_ne (tgt := 11) hx hb dX12_table_5 (by decide) (fun q => ?_) (fun q => ?_)
  · replace h := fp_ifF q h
    refine lv_iload_n hx hb dX12_table_11 rfl (lv_at hl 2 rfl) ?_
    by_cases q12_0 : p2 = (nI 0)
    · replace h := fp_ifT q12_0 h
      refine lv_tableIn (off := 32) (tgt := 44) hx hb dX12_table_12 (by rw [q12_0]; decide) (by rw [q12_0]; decide) (by rw [q12_0]; rfl) (by decide) ?_
      refine lv_aload_n hx hb dX12_table_44 rfl (lv_at hl 0 rfl) ?_
      refine fp_g12_5 E hG tw_810 dX12_table_45 ?_
      refine lv_iload_n hx hb dX12_table_48 rfl (lv_at hl 1 rfl) ?_
      obtain ⟨g_3, h⟩ := fp_gd_s h
      refine fp_iald E hG fp_cc123.1 (fp_a28 fp_cc123) (fp_in_s g_3) dX12_table_49 ?_
      exact fp_ireti E hG (Option.some.inj h) rfl dX12_table_50
    replace h := fp_ifF q12_0 h
    by_cases q12_1 : p2 = (nI 1)
    · replace h := fp_ifT q12_1 h
      refine lv_tableIn (off := 39) (tgt := 51) hx hb dX12_table_12 (by rw [q12_1]; decide) (by rw [q12_1]; decide) (by rw [q12_1]; rfl) (by decide) ?_
      refine lv_aload_n hx hb dX12_table_51 rfl (lv_at hl 0 rfl) ?_
      refine fp_g12_5 E hG tw_810 dX12_table_52 ?_
      refine lv_bipush (v := (nI 9)) hx hb dX12_table_55 (by decide) ?_
      refine lv_iload_n hx hb dX12_table_57 rfl (lv_at hl 1 rfl) ?_
      refine lv_iadd hx hb dX12_table_58 ?_
      obtain ⟨g_4, h⟩ := fp_gd_s h
      refine fp_iald E hG fp_cc123.1 (fp_a28 fp_cc123) (fp_in_s g_4) dX12_table_59 ?_
      exact fp_ireti E hG (Option.some.inj h) rfl dX12_table_60
    replace h := fp_ifF q12_1 h
    by_cases q12_2 : p2 = (nI 2)
    · replace h := fp_ifT q12_2 h
      refine lv_tableIn (off := 49) (tgt := 61) hx hb dX12_table_12 (by rw [q12_2]; decide) (by rw [q12_2]; decide) (by rw [q12_2]; rfl) (by decide) ?_
      refine lv_aload_n hx hb dX12_table_61 rfl (lv_at hl 0 rfl) ?_
      refine lv_iload_n hx hb dX12_table_62 rfl (lv_at hl 1 rfl) ?_
      obtain ⟨r_5, c_6, h⟩ := fp_b1_s h
      refine fp_callVi (As := [.int p1]) (rest := []) E hG (c_X12_free l D G B c_6) cv_X12_free tw_983 tw_985 ts_29 ⟨rfl, rfl⟩ ⟨Nat.le_of_ble_eq_true rfl, Nat.le_of_ble_eq_true rfl⟩ (fp_recv E hG (by decide) (fp_o12 _) rfl) rfl rfl (Nat.le_of_ble_eq_true rfl) hl.1 dX12_table_63 ⟨Nat.zero_le _, Nat.zero_le _⟩ (fun H locs hG => ?_)
      exact fp_ireti E hG (Option.some.inj h) rfl dX12_table_66
    replace h := fp_ifF q12_2 h
    by_cases q12_3 : p2 = (nI 3)
    · replace h := fp_ifT q12_3 h
      refine lv_tableIn (off := 55) (tgt := 67) hx hb dX12_table_12 (by rw [q12_3]; decide) (by rw [q12_3]; decide) (by rw [q12_3]; rfl) (by decide) ?_
      refine lv_aload_n hx hb dX12_table_67 rfl (lv_at hl 0 rfl) ?_
      refine lv_iload_n hx hb dX12_table_68 rfl (lv_at hl 1 rfl) ?_
      obtain ⟨r_7, c_8, h⟩ := fp_b1_s h
      refine fp_callVi (As := [.int p1]) (rest := []) E hG (c_X12_joined l D G B c_8) cv_X12_joined tw_995 tw_997 ts_32 ⟨rfl, rfl⟩ ⟨Nat.le_of_ble_eq_true rfl, Nat.le_of_ble_eq_true rfl⟩ (fp_recv E hG (by decide) (fp_o12 _) rfl) rfl rfl (Nat.le_of_ble_eq_true rfl) hl.1 dX12_table_69 ⟨Nat.zero_le _, Nat.zero_le _⟩ (fun H locs hG => ?_)
      exact fp_ireti E hG (Option.some.inj h) rfl dX12_table_72
    replace h := fp_ifF q12_3 h
    refine lv_tableOut (tgt := 73) hx hb dX12_table_12 (by have eq12_0 := lv_neT (a := 0) q12_0 rfl; have eq12_1 := lv_neT (a := 1) q12_1 rfl; have eq12_2 := lv_neT (a := 2) q12_2 rfl; have eq12_3 := lv_neT (a := 3) q12_3 rfl; omega) (by decide) ?_
    refine lv_ldc (v := (-1000000002 : Int32)) hx hb hown (fp_tabs E tw_919) dX12_table_73 ?_
    exact fp_ireti E hG (Option.some.inj h) rfl dX12_table_75
  · replace h := fp_ifT q h
    refine lv_ldc (v := (-1000000001 : Int32)) hx hb hown (fp_tabs E tw_1010) dX12_table_8 ?_
    exact fp_ireti E hG (Option.some.inj h) rfl dX12_table_10
theorem c_X12_table (l : Launch) (D : va_G) (G : Nat → ClassId) (B : Nat) {M : fp_Mem}  {p1 : Int32} {p2 : Int32} {r : Int32}  (h : m_X12_table M p1 p2 = some r) : Met l yX12_table (Cond.code yX12_table cX12_table 3 (some .int) :: fp_T) rm_X12_table (va_Pc [.ref (B + 120), .int p1, .int p2] (fp_GS D G B M)) (fp_Qi D G B r M) 0 0 (fp_A B) :=
  fp_met (own := RX12) (by decide) rfl (Nat.le_of_ble_eq_true rfl) (fun E hG hl => w_X12_table_0 E  hG hl h)
abbrev rm_X12_way : Room := { frames := 1, cells := 0, slots := 0, locals := 25 }
theorem cv_X12_way : fp_CV yX12_way cX12_way 3 (some .int) 2 := ⟨tw_1014, tw_13, by decide, by decide +kernel⟩
set_option maxHeartbeats 2000000 in
theorem w_X12_way_0 {p : Program} {l : Launch} {e : Env} {s : State} {m : MethodId} {args : Array Value} {below : List Frame} {meth : Method} {c : Code} {D : va_G} {G : Nat → ClassId} {B : Nat} {M : fp_Mem} {p1 : Int32} {p2 : Int32} {r : Int32} (E : fp_EV p s m args meth c cX12_way 3 RX12 (some .int) D G) {H : Heap} {locs : List Loc} {ls : Array Slot} (hG : fp_H D G B s M H locs) (hl : lv_has ls 3 [(0, .ref (B + 120)), (1, .int p1), (2, .int p2)]) (h : m_X12_way M p1 p2 = some r) : W p l e rm_X12_way s m args below meth c H locs 0 0 (MQ below (fp_Qi D G B r M) args s 0 0 (fp_A B)) (F0 m 0 ls []) := by
  have hx := E.1
  have hb := E.2.1
  have hown := E.2.2.2.1
  unfold m_X12_way at h
  refine lv_iload_n hx hb dX12_way_0 rfl (lv_at hl 1 rfl) ?_
  refine lv_i2l hx hb dX12_way_1 rfl ?_
  refine lv_lconst (v := (lN 0)) hx hb dX12_way_2 (by decide) ?_
  refine lv_aload_n hx hb dX12_way_3 rfl (lv_at hl 0 rfl) ?_
  refine fp_g12_2 E hG tw_807 dX12_way_4 ?_
  refine lv_iconst (v := (nI 1)) hx hb dX12_way_7 (by decide) ?_
  refine lv_isub hx hb dX12_way_8 ?_
  refine lv_i2l hx hb dX12_way_9 rfl ?_
  obtain ⟨r_1, c_2, h⟩ := fp_b1_s h
  refine fp_callSi (As := [.long (Int32.toInt64 p1), .long (lN 0), .long (Int32.toInt64 ((M 120 2) - (nI 1)))]) (rest := []) E hG (c_X12_in l D G B c_2) cv_X12_in tw_916 tw_917 ⟨rfl, rfl⟩ ⟨Nat.le_of_ble_eq_true rfl, Nat.le_of_ble_eq_true rfl⟩ rfl rfl (Nat.le_of_ble_eq_true rfl) hl.1 dX12_way_10 ⟨Nat.zero_le _, Nat.zero_le _⟩ (fun H locs hG => ?_)
  refine lv_if_ne (tgt := 19) hx hb dX12_way_13 (by decide) (fun q => ?_) (fun q => ?_)
  · replace h := fp_ifF q h
    refine lv_iload_n hx hb dX12_way_19 rfl (lv_at hl 2 rfl) ?_
    by_cases q20_0 : p2 = (nI 0)
    · replace h := fp_ifT q20_0 h
      refine lv_tableIn (off := 28) (tgt := 48) hx hb dX12_way_20 (by rw [q20_0]; decide) (by rw [q20_0]; decide) (by rw [q20_0]; rfl) (by decide) ?_
      refine lv_aload_n hx hb dX12_way_48 rfl (lv_at hl 0 rfl) ?_
      refine fp_g12_3 E hG tw_808 dX12_way_49 ?_
      refine lv_iload_n hx hb dX12_way_52 rfl (lv_at hl 1 rfl) ?_
      obtain ⟨g_3, h⟩ := fp_gd_s h
      refine fp_iald E hG fp_cc121.1 (fp_a21 fp_cc121) (fp_in_s g_3) dX12_way_53 ?_
      exact fp_ireti E hG (Option.some.inj h) rfl dX12_way_54
    replace h := fp_ifF q20_0 h
    by_cases q20_1 : p2 = (nI 1)
    · replace h := fp_ifT q20_1 h
      refine lv_tableIn (off := 35) (tgt := 55) hx hb dX12_way_20 (by rw [q20_1]; decide) (by rw [q20_1]; decide) (by rw [q20_1]; rfl) (by decide) ?_
      refine lv_aload_n hx hb dX12_way_55 rfl (lv_at hl 0 rfl) ?_
      refine fp_g12_4 E hG tw_809 dX12_way_56 ?_
      refine lv_iload_n hx hb dX12_way_59 rfl (lv_at hl 1 rfl) ?_
      obtain ⟨g_4, h⟩ := fp_gd_s h
      refine fp_iald E hG fp_cc122.1 (fp_a21 fp_cc122) (fp_in_s g_4) dX12_way_60 ?_
      exact fp_ireti E hG (Option.some.inj h) rfl dX12_way_61
    replace h := fp_ifF q20_1 h
    by_cases q20_2 : p2 = (nI 2)
    · replace h := fp_ifT q20_2 h
      refine lv_tableIn (off := 42) (tgt := 62) hx hb dX12_way_20 (by rw [q20_2]; decide) (by rw [q20_2]; decide) (by rw [q20_2]; rfl) (by decide) ?_
      refine lv_aload_n hx hb dX12_way_62 rfl (lv_at hl 0 rfl) ?_
      refine fp_g12_5 E hG tw_810 dX12_way_63 ?_
      refine lv_bipush (v := (nI 19)) hx hb dX12_way_66 (by decide) ?_
      obtain ⟨g_5, h⟩ := fp_gd_s h
      refine fp_iald E hG fp_cc123.1 (fp_a28 fp_cc123) (fp_in_s g_5) dX12_way_68 ?_
      refine lv_iload_n hx hb dX12_way_69 rfl (lv_at hl 1 rfl) ?_
      refine lv_ishr hx hb dX12_way_70 ?_
      refine lv_iconst (v := (nI 1)) hx hb dX12_way_71 (by decide) ?_
      refine lv_iand hx hb dX12_way_72 ?_
      exact fp_ireti E hG (Option.some.inj h) rfl dX12_way_73
    replace h := fp_ifF q20_2 h
    refine lv_tableOut (tgt := 74) hx hb dX12_way_20 (by have eq20_0 := lv_neT (a := 0) q20_0 rfl; have eq20_1 := lv_neT (a := 1) q20_1 rfl; have eq20_2 := lv_neT (a := 2) q20_2 rfl; omega) (by decide) ?_
    refine lv_ldc (v := (-1000000002 : Int32)) hx hb hown (fp_tabs E tw_919) dX12_way_74 ?_
    exact fp_ireti E hG (Option.some.inj h) rfl dX12_way_76
  · replace h := fp_ifT q h
    refine lv_ldc (v := (-1000000001 : Int32)) hx hb hown (fp_tabs E tw_1010) dX12_way_16 ?_
    exact fp_ireti E hG (Option.some.inj h) rfl dX12_way_18
theorem c_X12_way (l : Launch) (D : va_G) (G : Nat → ClassId) (B : Nat) {M : fp_Mem}  {p1 : Int32} {p2 : Int32} {r : Int32}  (h : m_X12_way M p1 p2 = some r) : Met l yX12_way (Cond.code yX12_way cX12_way 3 (some .int) :: fp_T) rm_X12_way (va_Pc [.ref (B + 120), .int p1, .int p2] (fp_GS D G B M)) (fp_Qi D G B r M) 0 0 (fp_A B) :=
  fp_met (own := RX12) (by decide) rfl (Nat.le_of_ble_eq_true rfl) (fun E hG hl => w_X12_way_0 E  hG hl h)
abbrev rm_X12_remember : Room := { frames := 0, cells := 0, slots := 0, locals := 0 }
theorem cv_X12_remember : fp_CV yX12_remember cX12_remember 2 none 0 := ⟨tw_1022, tw_13, by decide, by decide +kernel⟩
set_option maxHeartbeats 2000000 in
theorem w_X12_remember_52 {p : Program} {l : Launch} {e : Env} {s : State} {m : MethodId} {args : Array Value} {below : List Frame} {meth : Method} {c : Code} {D : va_G} {G : Nat → ClassId} {B : Nat} {M' : fp_Mem} (E : fp_EV p s m args meth c cX12_remember 2 RX12 none D G) : ∀ (n : Nat) (v1 : Int32) (M : fp_Mem) {H : Heap} {locs : List Loc} {ls : Array Slot}, fp_H D G B s M H locs → lv_has ls 2 [(0, .ref (B + 120)), (1, .int v1)] → m_X12_remember_52 n v1 M = some M' → W p l e rm_X12_remember s m args below meth c H locs 0 0 (MQ below (fp_Qv D G B M') args s 0 0 (fp_A B)) (F0 m 52 ls []) := by
  have hx := E.1
  have hb := E.2.1
  have hown := E.2.2.2.1
  intro n
  induction n with
  | zero =>
    intro v1 M H locs ls hG hl h
    exact nomatch h
  | succ n ih =>
    have ihK := @ih
    intro v1 M H locs ls hG hl h
    rw [m_X12_remember_52] at h
    refine lv_iload_n hx hb dX12_remember_52 rfl (lv_at hl 1 rfl) ?_
    refine lv_bipush (v := (nI 25)) hx hb dX12_remember_53 (by decide) ?_
    refine lv_icmp_ge (tgt := 84) hx hb dX12_remember_55 (by decide) (fun q => ?_) (fun q => ?_)
    · replace h := fp_ifT q h
      refine lv_aload_n hx hb dX12_remember_84 rfl (lv_at hl 0 rfl) ?_
      refine lv_dup hx hb dX12_remember_85 rfl ?_
      refine fp_g12_23 E hG tw_828 dX12_remember_86 ?_
      refine lv_iconst (v := (nI 1)) hx hb dX12_remember_89 (by decide) ?_
      refine lv_iadd hx hb dX12_remember_90 ?_
      obtain ⟨M_1, eM_1, h⟩ := fp_lt_s h
      refine fp_p12_23 E hG tw_828 dX12_remember_91 (fun H locs hG => ?_)
      replace hG := fp_memH eM_1 hG
      exact fp_retv E hG (Option.some.inj h) dX12_remember_94
    · replace h := fp_ifF q h
      refine lv_aload_n hx hb dX12_remember_58 rfl (lv_at hl 0 rfl) ?_
      refine fp_g12_24 E hG tw_829 dX12_remember_59 ?_
      refine lv_bipush (v := (nI 25)) hx hb dX12_remember_62 (by decide) ?_
      refine lv_aload_n hx hb dX12_remember_64 rfl (lv_at hl 0 rfl) ?_
      refine fp_g12_23 E hG tw_828 dX12_remember_65 ?_
      refine lv_imul hx hb dX12_remember_68 ?_
      refine lv_iload_n hx hb dX12_remember_69 rfl (lv_at hl 1 rfl) ?_
      refine lv_iadd hx hb dX12_remember_70 ?_
      refine lv_aload_n hx hb dX12_remember_71 rfl (lv_at hl 0 rfl) ?_
      refine fp_g12_5 E hG tw_810 dX12_remember_72 ?_
      refine lv_iload_n hx hb dX12_remember_75 rfl (lv_at hl 1 rfl) ?_
      obtain ⟨g_2, h⟩ := fp_gd_s h
      refine fp_iald E hG fp_cc123.1 (fp_a28 fp_cc123) (fp_in_s g_2) dX12_remember_76 ?_
      obtain ⟨g_3, h⟩ := fp_gd_s h
      obtain ⟨M_4, eM_4, h⟩ := fp_lt_s h
      refine fp_iast E hG fp_cc131.1 (fp_a30 fp_cc131) (fp_in_s g_3) dX12_remember_77 (fun H locs hG => ?_)
      replace hG := fp_memH eM_4 hG
      obtain ⟨x_5, ex_5, h⟩ := fp_lt_s h
      refine lv_iinc (v := x_5) (lv' := [(1, .int x_5), (0, .ref (B + 120))]) hx hb dX12_remember_78 hl (k := 1) rfl (by rw [ex_5]; rfl) (by decide) rfl (fun ls hl => ?_)
      refine lv_goto (tgt := 52) hx hb dX12_remember_81 (by decide) ?_
      exact ih _ _ hG (lv_sub hl [1, 0] rfl) h
set_option maxHeartbeats 2000000 in
theorem w_X12_remember_50 {p : Program} {l : Launch} {e : Env} {s : State} {m : MethodId} {args : Array Value} {below : List Frame} {meth : Method} {c : Code} {D : va_G} {G : Nat → ClassId} {B : Nat} {M' : fp_Mem} (E : fp_EV p s m args meth c cX12_remember 2 RX12 none D G) (M : fp_Mem) {H : Heap} {locs : List Loc} {ls : Array Slot} (hG : fp_H D G B s M H locs) (hl : lv_has ls 2 [(0, .ref (B + 120))]) (h : m_X12_remember_50 M = some M') : W p l e rm_X12_remember s m args below meth c H locs 0 0 (MQ below (fp_Qv D G B M') args s 0 0 (fp_A B)) (F0 m 50 ls []) := by
  have hx := E.1
  have hb := E.2.1
  have hown := E.2.2.2.1
  unfold m_X12_remember_50 at h
  refine lv_iconst (v := (nI 0)) hx hb dX12_remember_50 (by decide) ?_
  refine lv_istore_n (lv' := [(1, .int (nI 0)), (0, .ref (B + 120))]) hx hb dX12_remember_51 rfl hl (by decide) rfl (fun ls hl => ?_)
  exact w_X12_remember_52 E   fp_fu _ _ hG (lv_sub hl [1, 0] rfl) h

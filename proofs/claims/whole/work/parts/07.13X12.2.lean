theorem cv_X12_couldCome : fp_CV yX12_couldCome cX12_couldCome 5 (some .int) 0 := ⟨tw_1148, tw_13, by decide, by decide +kernel⟩
set_option maxHeartbeats 2000000 in
theorem w_X12_couldCome_99 {p : Program} {l : Launch} {e : Env} {s : State} {m : MethodId} {args : Array Value} {below : List Frame} {meth : Method} {c : Code} {D : va_G} {G : Nat → ClassId} {B : Nat} {K8 : Int32 → Int32 → fp_Mem → Option (Int32 × fp_Mem)} {r : Int32} {M' : fp_Mem} (E : fp_EV p s m args meth c cX12_couldCome 5 RX12 (some .int) D G) (HK8 : ∀ (wv1 : Int32) (wv2 : Int32) (wM : fp_Mem) {H : Heap} {locs : List Loc} {ls : Array Slot}, fp_H D G B s wM H locs → lv_has ls 5 [(0, .ref (B + 120)), (1, .int wv1), (2, .int wv2)] → K8 wv1 wv2 wM = some (r, M') → W p l e rm_X12_couldCome s m args below meth c H locs 0 0 (MQ below (fp_Qi D G B r M') args s 0 0 (fp_A B)) (F0 m 8 ls [])) (v2 : Int32) (s0 : Int32) (s1 : Int32) (M : fp_Mem) {H : Heap} {locs : List Loc} {ls : Array Slot} (hG : fp_H D G B s M H locs) (hl : lv_has ls 5 [(0, .ref (B + 120)), (2, .int v2)]) (h : m_X12_couldCome_99 K8 v2 s0 s1 M = some (r, M')) : W p l e rm_X12_couldCome s m args below meth c H locs 0 0 (MQ below (fp_Qi D G B r M') args s 0 0 (fp_A B)) (F0 m 99 ls [.int s1, .int s0]) := by
  have hx := E.1
  have hb := E.2.1
  have hown := E.2.2.2.1
  unfold m_X12_couldCome_99 at h
  refine lv_ior hx hb dX12_couldCome_99 ?_
  obtain ⟨x_1, ex_1, h⟩ := fp_lt_s h
  refine fp_top ex_1 ?_
  refine lv_istore_n (lv' := [(1, .int x_1), (0, .ref (B + 120)), (2, .int v2)]) hx hb dX12_couldCome_100 rfl hl (by decide) rfl (fun ls hl => ?_)
  obtain ⟨x_2, ex_2, h⟩ := fp_lt_s h
  refine lv_iinc (v := x_2) (lv' := [(2, .int x_2), (1, .int x_1), (0, .ref (B + 120))]) hx hb dX12_couldCome_101 hl (k := 2) rfl (by rw [ex_2]; rfl) (by decide) rfl (fun ls hl => ?_)
  refine lv_goto (tgt := 8) hx hb dX12_couldCome_104 (by decide) ?_
  exact HK8 _ _ _ hG (lv_sub hl [2, 1, 0] rfl) h
set_option maxHeartbeats 2000000 in
theorem w_X12_couldCome_87 {p : Program} {l : Launch} {e : Env} {s : State} {m : MethodId} {args : Array Value} {below : List Frame} {meth : Method} {c : Code} {D : va_G} {G : Nat → ClassId} {B : Nat} {K8 : Int32 → Int32 → fp_Mem → Option (Int32 × fp_Mem)} {r : Int32} {M' : fp_Mem} (E : fp_EV p s m args meth c cX12_couldCome 5 RX12 (some .int) D G) (HK8 : ∀ (wv1 : Int32) (wv2 : Int32) (wM : fp_Mem) {H : Heap} {locs : List Loc} {ls : Array Slot}, fp_H D G B s wM H locs → lv_has ls 5 [(0, .ref (B + 120)), (1, .int wv1), (2, .int wv2)] → K8 wv1 wv2 wM = some (r, M') → W p l e rm_X12_couldCome s m args below meth c H locs 0 0 (MQ below (fp_Qi D G B r M') args s 0 0 (fp_A B)) (F0 m 8 ls [])) (v1 : Int32) (v2 : Int32) (v3 : Int32) (M : fp_Mem) {H : Heap} {locs : List Loc} {ls : Array Slot} (hG : fp_H D G B s M H locs) (hl : lv_has ls 5 [(0, .ref (B + 120)), (1, .int v1), (2, .int v2), (3, .int v3)]) (h : m_X12_couldCome_87 K8 v1 v2 v3 M = some (r, M')) : W p l e rm_X12_couldCome s m args below meth c H locs 0 0 (MQ below (fp_Qi D G B r M') args s 0 0 (fp_A B)) (F0 m 87 ls []) := by
  have hx := E.1
  have hb := E.2.1
  have hown := E.2.2.2.1
  unfold m_X12_couldCome_87 at h
  refine lv_iload_n hx hb dX12_couldCome_87 rfl (lv_at hl 1 rfl) ?_
  refine lv_iload_n hx hb dX12_couldCome_88 rfl (lv_at hl 3 rfl) ?_
  refine lv_if_eq (tgt := 98) hx hb dX12_couldCome_89 (by decide) (fun q => ?_) (fun q => ?_)
  · replace h := fp_ifT q h
    refine lv_iconst (v := (nI 0)) hx hb dX12_couldCome_98 (by decide) ?_
    exact w_X12_couldCome_99 E  HK8 _ _ _ _ hG (lv_sub hl [0, 2] rfl) h
  · replace h := fp_ifF q h
    refine lv_iconst (v := (nI 1)) hx hb dX12_couldCome_92 (by decide) ?_
    refine lv_iload_n hx hb dX12_couldCome_93 rfl (lv_at hl 2 rfl) ?_
    refine lv_ishl hx hb dX12_couldCome_94 ?_
    refine lv_goto (tgt := 99) hx hb dX12_couldCome_95 (by decide) ?_
    exact w_X12_couldCome_99 E  HK8 _ _ _ _ hG (lv_sub hl [0, 2] rfl) h
set_option maxHeartbeats 2000000 in
theorem w_X12_couldCome_80 {p : Program} {l : Launch} {e : Env} {s : State} {m : MethodId} {args : Array Value} {below : List Frame} {meth : Method} {c : Code} {D : va_G} {G : Nat → ClassId} {B : Nat} {K8 : Int32 → Int32 → fp_Mem → Option (Int32 × fp_Mem)} {K37 : Int32 → Int32 → Int32 → Int32 → fp_Mem → Option (Int32 × fp_Mem)} {r : Int32} {M' : fp_Mem} (E : fp_EV p s m args meth c cX12_couldCome 5 RX12 (some .int) D G) (HK8 : ∀ (wv1 : Int32) (wv2 : Int32) (wM : fp_Mem) {H : Heap} {locs : List Loc} {ls : Array Slot}, fp_H D G B s wM H locs → lv_has ls 5 [(0, .ref (B + 120)), (1, .int wv1), (2, .int wv2)] → K8 wv1 wv2 wM = some (r, M') → W p l e rm_X12_couldCome s m args below meth c H locs 0 0 (MQ below (fp_Qi D G B r M') args s 0 0 (fp_A B)) (F0 m 8 ls [])) (HK37 : ∀ (wv1 : Int32) (wv2 : Int32) (wv3 : Int32) (wv4 : Int32) (wM : fp_Mem) {H : Heap} {locs : List Loc} {ls : Array Slot}, fp_H D G B s wM H locs → lv_has ls 5 [(0, .ref (B + 120)), (1, .int wv1), (2, .int wv2), (3, .int wv3), (4, .int wv4)] → K37 wv1 wv2 wv3 wv4 wM = some (r, M') → W p l e rm_X12_couldCome s m args below meth c H locs 0 0 (MQ below (fp_Qi D G B r M') args s 0 0 (fp_A B)) (F0 m 37 ls [])) (v1 : Int32) (v2 : Int32) (v4 : Int32) (s0 : Int32) (M : fp_Mem) {H : Heap} {locs : List Loc} {ls : Array Slot} (hG : fp_H D G B s M H locs) (hl : lv_has ls 5 [(0, .ref (B + 120)), (1, .int v1), (2, .int v2), (4, .int v4)]) (h : m_X12_couldCome_80 K8 K37 v1 v2 v4 s0 M = some (r, M')) : W p l e rm_X12_couldCome s m args below meth c H locs 0 0 (MQ below (fp_Qi D G B r M') args s 0 0 (fp_A B)) (F0 m 80 ls [.int s0]) := by
  have hx := E.1
  have hb := E.2.1
  have hown := E.2.2.2.1
  unfold m_X12_couldCome_80 at h
  refine lv_istore_n (lv' := [(3, .int s0), (0, .ref (B + 120)), (1, .int v1), (2, .int v2), (4, .int v4)]) hx hb dX12_couldCome_80 rfl hl (by decide) rfl (fun ls hl => ?_)
  obtain ⟨x_3, ex_3, h⟩ := fp_lt_s h
  refine lv_iinc (v := x_3) (lv' := [(4, .int x_3), (3, .int s0), (0, .ref (B + 120)), (1, .int v1), (2, .int v2)]) hx hb dX12_couldCome_81 hl (k := 4) rfl (by rw [ex_3]; rfl) (by decide) rfl (fun ls hl => ?_)
  refine lv_goto (tgt := 37) hx hb dX12_couldCome_84 (by decide) ?_
  exact HK37 _ _ _ _ _ hG (lv_sub hl [2, 3, 4, 1, 0] rfl) h
set_option maxHeartbeats 2000000 in
theorem w_X12_couldCome_37 {p : Program} {l : Launch} {e : Env} {s : State} {m : MethodId} {args : Array Value} {below : List Frame} {meth : Method} {c : Code} {D : va_G} {G : Nat → ClassId} {B : Nat} {K8 : Int32 → Int32 → fp_Mem → Option (Int32 × fp_Mem)} {r : Int32} {M' : fp_Mem} (E : fp_EV p s m args meth c cX12_couldCome 5 RX12 (some .int) D G) (HK8 : ∀ (wv1 : Int32) (wv2 : Int32) (wM : fp_Mem) {H : Heap} {locs : List Loc} {ls : Array Slot}, fp_H D G B s wM H locs → lv_has ls 5 [(0, .ref (B + 120)), (1, .int wv1), (2, .int wv2)] → K8 wv1 wv2 wM = some (r, M') → W p l e rm_X12_couldCome s m args below meth c H locs 0 0 (MQ below (fp_Qi D G B r M') args s 0 0 (fp_A B)) (F0 m 8 ls [])) : ∀ (n : Nat) (v1 : Int32) (v2 : Int32) (v3 : Int32) (v4 : Int32) (M : fp_Mem) {H : Heap} {locs : List Loc} {ls : Array Slot}, fp_H D G B s M H locs → lv_has ls 5 [(0, .ref (B + 120)), (1, .int v1), (2, .int v2), (3, .int v3), (4, .int v4)] → m_X12_couldCome_37 K8 n v1 v2 v3 v4 M = some (r, M') → W p l e rm_X12_couldCome s m args below meth c H locs 0 0 (MQ below (fp_Qi D G B r M') args s 0 0 (fp_A B)) (F0 m 37 ls []) := by
  have hx := E.1
  have hb := E.2.1
  have hown := E.2.2.2.1
  intro n
  induction n with
  | zero =>
    intro v1 v2 v3 v4 M H locs ls hG hl h
    exact nomatch h
  | succ n ih =>
    have ihK := @ih
    intro v1 v2 v3 v4 M H locs ls hG hl h
    rw [m_X12_couldCome_37] at h
    refine lv_iload hx hb dX12_couldCome_37 (lv_at hl 4 rfl) ?_
    refine lv_aload_n hx hb dX12_couldCome_39 rfl (lv_at hl 0 rfl) ?_
    refine fp_g12_27 E hG tw_832 dX12_couldCome_40 ?_
    refine lv_icmp_ge (tgt := 87) hx hb dX12_couldCome_43 (by decide) (fun q => ?_) (fun q => ?_)
    · replace h := fp_ifT q h
      exact w_X12_couldCome_87 E  HK8 _ _ _ _ hG (lv_sub hl [0, 1, 2, 3] rfl) h
    · replace h := fp_ifF q h
      refine lv_iload_n hx hb dX12_couldCome_46 rfl (lv_at hl 3 rfl) ?_
      refine lv_if_eq (tgt := 87) hx hb dX12_couldCome_47 (by decide) (fun q => ?_) (fun q => ?_)
      · replace h := fp_ifT q h
        exact w_X12_couldCome_87 E  HK8 _ _ _ _ hG (lv_sub hl [0, 1, 2, 3] rfl) h
      · replace h := fp_ifF q h
        refine lv_aload_n hx hb dX12_couldCome_50 rfl (lv_at hl 0 rfl) ?_
        refine lv_iload_n hx hb dX12_couldCome_51 rfl (lv_at hl 2 rfl) ?_
        obtain ⟨r_4, c_5, h⟩ := fp_b1_s h
        refine fp_callVi (As := [.int v2]) (rest := []) E hG (c_X12_movers l D G B c_5) cv_X12_movers tw_1149 tw_1151 ts_49 ⟨rfl, rfl⟩ ⟨Nat.le_of_ble_eq_true rfl, Nat.le_of_ble_eq_true rfl⟩ (fp_recv E hG (by decide) (fp_o12 _) rfl) rfl rfl (Nat.le_of_ble_eq_true rfl) hl.1 dX12_couldCome_52 ⟨Nat.zero_le _, Nat.zero_le _⟩ (fun H locs hG => ?_)
        refine lv_aload_n hx hb dX12_couldCome_55 rfl (lv_at hl 0 rfl) ?_
        refine fp_g12_28 E hG tw_833 dX12_couldCome_56 ?_
        refine lv_iload hx hb dX12_couldCome_59 (lv_at hl 4 rfl) ?_
        obtain ⟨g_6, h⟩ := fp_gd_s h
        refine fp_iald E hG fp_cc134.1 (fp_a31 fp_cc134) (fp_in_s g_6) dX12_couldCome_61 ?_
        obtain ⟨r_7, c_8, h⟩ := fp_b1_s h
        refine fp_callSi (As := [.int r_4, .int (M 134 (Int32.toNatClampNeg v4))]) (rest := []) E hG (c_X12_has l D G B c_8) cv_X12_has tw_999 tw_1000 ⟨rfl, rfl⟩ ⟨Nat.le_of_ble_eq_true rfl, Nat.le_of_ble_eq_true rfl⟩ rfl rfl (Nat.le_of_ble_eq_true rfl) hl.1 dX12_couldCome_62 ⟨Nat.zero_le _, Nat.zero_le _⟩ (fun H locs hG => ?_)
        refine lv_aload_n hx hb dX12_couldCome_65 rfl (lv_at hl 0 rfl) ?_
        refine fp_g12_29 E hG tw_834 dX12_couldCome_66 ?_
        refine lv_iload hx hb dX12_couldCome_69 (lv_at hl 4 rfl) ?_
        obtain ⟨g_9, h⟩ := fp_gd_s h
        refine fp_zald E hG fp_cc135.1 (fp_a32 fp_cc135) (fp_in_s g_9) dX12_couldCome_71 ?_
        refine lv_icmp_ne (tgt := 79) hx hb dX12_couldCome_72 (by decide) (fun q => ?_) (fun q => ?_)
        · replace h := fp_ifF q h
          refine lv_iconst (v := (nI 0)) hx hb dX12_couldCome_79 (by decide) ?_
          exact w_X12_couldCome_80 E  HK8 ihK _ _ _ _ _ hG (lv_sub hl [0, 1, 2, 4] rfl) h
        · replace h := fp_ifT q h
          refine lv_iconst (v := (nI 1)) hx hb dX12_couldCome_75 (by decide) ?_
          refine lv_goto (tgt := 80) hx hb dX12_couldCome_76 (by decide) ?_
          exact w_X12_couldCome_80 E  HK8 ihK _ _ _ _ _ hG (lv_sub hl [0, 1, 2, 4] rfl) h
set_option maxHeartbeats 2000000 in
theorem w_X12_couldCome_33 {p : Program} {l : Launch} {e : Env} {s : State} {m : MethodId} {args : Array Value} {below : List Frame} {meth : Method} {c : Code} {D : va_G} {G : Nat → ClassId} {B : Nat} {K8 : Int32 → Int32 → fp_Mem → Option (Int32 × fp_Mem)} {r : Int32} {M' : fp_Mem} (E : fp_EV p s m args meth c cX12_couldCome 5 RX12 (some .int) D G) (HK8 : ∀ (wv1 : Int32) (wv2 : Int32) (wM : fp_Mem) {H : Heap} {locs : List Loc} {ls : Array Slot}, fp_H D G B s wM H locs → lv_has ls 5 [(0, .ref (B + 120)), (1, .int wv1), (2, .int wv2)] → K8 wv1 wv2 wM = some (r, M') → W p l e rm_X12_couldCome s m args below meth c H locs 0 0 (MQ below (fp_Qi D G B r M') args s 0 0 (fp_A B)) (F0 m 8 ls [])) (v1 : Int32) (v2 : Int32) (s0 : Int32) (M : fp_Mem) {H : Heap} {locs : List Loc} {ls : Array Slot} (hG : fp_H D G B s M H locs) (hl : lv_has ls 5 [(0, .ref (B + 120)), (1, .int v1), (2, .int v2)]) (h : m_X12_couldCome_33 K8 v1 v2 s0 M = some (r, M')) : W p l e rm_X12_couldCome s m args below meth c H locs 0 0 (MQ below (fp_Qi D G B r M') args s 0 0 (fp_A B)) (F0 m 33 ls [.int s0]) := by
  have hx := E.1
  have hb := E.2.1
  have hown := E.2.2.2.1
  unfold m_X12_couldCome_33 at h
  refine lv_istore_n (lv' := [(3, .int s0), (0, .ref (B + 120)), (1, .int v1), (2, .int v2)]) hx hb dX12_couldCome_33 rfl hl (by decide) rfl (fun ls hl => ?_)
  refine lv_iconst (v := (nI 0)) hx hb dX12_couldCome_34 (by decide) ?_
  refine lv_istore (lv' := [(4, .int (nI 0)), (3, .int s0), (0, .ref (B + 120)), (1, .int v1), (2, .int v2)]) hx hb dX12_couldCome_35 hl (by decide) rfl (fun ls hl => ?_)
  exact w_X12_couldCome_37 E  HK8 fp_fu _ _ _ _ _ hG (lv_sub hl [2, 3, 4, 1, 0] rfl) h
set_option maxHeartbeats 2000000 in
theorem w_X12_couldCome_8 {p : Program} {l : Launch} {e : Env} {s : State} {m : MethodId} {args : Array Value} {below : List Frame} {meth : Method} {c : Code} {D : va_G} {G : Nat → ClassId} {B : Nat} {r : Int32} {M' : fp_Mem} (E : fp_EV p s m args meth c cX12_couldCome 5 RX12 (some .int) D G) : ∀ (n : Nat) (v1 : Int32) (v2 : Int32) (M : fp_Mem) {H : Heap} {locs : List Loc} {ls : Array Slot}, fp_H D G B s M H locs → lv_has ls 5 [(0, .ref (B + 120)), (1, .int v1), (2, .int v2)] → m_X12_couldCome_8 n v1 v2 M = some (r, M') → W p l e rm_X12_couldCome s m args below meth c H locs 0 0 (MQ below (fp_Qi D G B r M') args s 0 0 (fp_A B)) (F0 m 8 ls []) := by
  have hx := E.1
  have hb := E.2.1
  have hown := E.2.2.2.1
  intro n
  induction n with
  | zero =>
    intro v1 v2 M H locs ls hG hl h
    exact nomatch h
  | succ n ih =>
    have ihK := @ih
    intro v1 v2 M H locs ls hG hl h
    rw [m_X12_couldCome_8] at h
    refine lv_iload_n hx hb dX12_couldCome_8 rfl (lv_at hl 2 rfl) ?_
    refine lv_aload_n hx hb dX12_couldCome_9 rfl (lv_at hl 0 rfl) ?_
    refine fp_g12_1 E hG tw_806 dX12_couldCome_10 ?_
    refine lv_icmp_ge (tgt := 107) hx hb dX12_couldCome_13 (by decide) (fun q => ?_) (fun q => ?_)
    · replace h := fp_ifT q h
      refine lv_iload_n hx hb dX12_couldCome_107 rfl (lv_at hl 1 rfl) ?_
      exact fp_ireti E hG (fp_pr1 h) (fp_pr2 h) dX12_couldCome_108
    · replace h := fp_ifF q h
      refine lv_aload_n hx hb dX12_couldCome_16 rfl (lv_at hl 0 rfl) ?_
      refine fp_g12_22 E hG tw_827 dX12_couldCome_17 ?_
      refine lv_iload_n hx hb dX12_couldCome_20 rfl (lv_at hl 2 rfl) ?_
      obtain ⟨g_10, h⟩ := fp_gd_s h
      refine fp_iald E hG fp_cc130.1 (fp_a20 fp_cc130) (fp_in_s g_10) dX12_couldCome_21 ?_
      refine lv_sipush (v := (nI 1000)) hx hb dX12_couldCome_22 (by decide) ?_
      refine lv_icmp_ge (tgt := 32) hx hb dX12_couldCome_25 (by decide) (fun q => ?_) (fun q => ?_)
      · replace h := fp_ifT q h
        refine lv_iconst (v := (nI 0)) hx hb dX12_couldCome_32 (by decide) ?_
        exact w_X12_couldCome_33 E  ihK _ _ _ _ hG (lv_sub hl [0, 1, 2] rfl) h
      · replace h := fp_ifF q h
        refine lv_iconst (v := (nI 1)) hx hb dX12_couldCome_28 (by decide) ?_
        refine lv_goto (tgt := 33) hx hb dX12_couldCome_29 (by decide) ?_
        exact w_X12_couldCome_33 E  ihK _ _ _ _ hG (lv_sub hl [0, 1, 2] rfl) h
set_option maxHeartbeats 2000000 in
theorem w_X12_couldCome_0 {p : Program} {l : Launch} {e : Env} {s : State} {m : MethodId} {args : Array Value} {below : List Frame} {meth : Method} {c : Code} {D : va_G} {G : Nat → ClassId} {B : Nat} {r : Int32} {M' : fp_Mem} (E : fp_EV p s m args meth c cX12_couldCome 5 RX12 (some .int) D G) {M : fp_Mem} {H : Heap} {locs : List Loc} {ls : Array Slot} (hG : fp_H D G B s M H locs) (hl : lv_has ls 5 [(0, .ref (B + 120))]) (h : m_X12_couldCome M = some (r, M')) : W p l e rm_X12_couldCome s m args below meth c H locs 0 0 (MQ below (fp_Qi D G B r M') args s 0 0 (fp_A B)) (F0 m 0 ls []) := by
  have hx := E.1
  have hb := E.2.1
  have hown := E.2.2.2.1
  unfold m_X12_couldCome at h
  refine lv_aload_n hx hb dX12_couldCome_0 rfl (lv_at hl 0 rfl) ?_
  obtain ⟨M_11, c_12, h⟩ := fp_b1_s h
  refine fp_callVv (As := []) (rest := []) E hG (c_X12_findAway l D G B c_12) cv_X12_findAway tw_991 tw_993 ts_31 ⟨rfl, rfl⟩ ⟨Nat.le_of_ble_eq_true rfl, Nat.le_of_ble_eq_true rfl⟩ (fp_recv E hG (by decide) (fp_o12 _) rfl) rfl rfl (Nat.le_of_ble_eq_true rfl) hl.1 dX12_couldCome_1 ⟨Nat.zero_le _, Nat.zero_le _⟩ (fun H locs hG => ?_)
  refine lv_iconst (v := (nI 0)) hx hb dX12_couldCome_4 (by decide) ?_
  refine lv_istore_n (lv' := [(1, .int (nI 0)), (0, .ref (B + 120))]) hx hb dX12_couldCome_5 rfl hl (by decide) rfl (fun ls hl => ?_)
  refine lv_iconst (v := (nI 0)) hx hb dX12_couldCome_6 (by decide) ?_
  refine lv_istore_n (lv' := [(2, .int (nI 0)), (1, .int (nI 0)), (0, .ref (B + 120))]) hx hb dX12_couldCome_7 rfl hl (by decide) rfl (fun ls hl => ?_)
  exact w_X12_couldCome_8 E   fp_fu _ _ _ hG (lv_sub hl [2, 1, 0] rfl) h
theorem c_X12_couldCome (l : Launch) (D : va_G) (G : Nat → ClassId) (B : Nat) {M : fp_Mem}   {r : Int32} {M' : fp_Mem}  (h : m_X12_couldCome M = some (r, M')) : Met l yX12_couldCome (Cond.code yX12_couldCome cX12_couldCome 5 (some .int) :: fp_T) rm_X12_couldCome (va_Pc [.ref (B + 120)] (fp_GS D G B M)) (fp_Qi D G B r M') 0 0 (fp_A B) :=
  fp_met (own := RX12) (by decide) rfl (Nat.le_of_ble_eq_true rfl) (fun E hG hl => w_X12_couldCome_0 E  hG hl h)
abbrev rm_X12_came : Room := { frames := 5, cells := 0, slots := 0, locals := 115 }
theorem cv_X12_came : fp_CV yX12_came cX12_came 1 (some .int) 0 := ⟨tw_1144, tw_13, by decide, by decide +kernel⟩
set_option maxHeartbeats 2000000 in
theorem w_X12_came_0 {p : Program} {l : Launch} {e : Env} {s : State} {m : MethodId} {args : Array Value} {below : List Frame} {meth : Method} {c : Code} {D : va_G} {G : Nat → ClassId} {B : Nat} {r : Int32} {M' : fp_Mem} (E : fp_EV p s m args meth c cX12_came 1 RX12 (some .int) D G) {M : fp_Mem} {H : Heap} {locs : List Loc} {ls : Array Slot} (hG : fp_H D G B s M H locs) (hl : lv_has ls 1 [(0, .ref (B + 120))]) (h : m_X12_came M = some (r, M')) : W p l e rm_X12_came s m args below meth c H locs 0 0 (MQ below (fp_Qi D G B r M') args s 0 0 (fp_A B)) (F0 m 0 ls []) := by
  have hx := E.1
  have hb := E.2.1
  have hown := E.2.2.2.1
  unfold m_X12_came at h
  refine lv_aload_n hx hb dX12_came_0 rfl (lv_at hl 0 rfl) ?_
  obtain ⟨r_1, M_2, c_3, h⟩ := fp_b2_s h
  refine fp_callVi (As := []) (rest := []) E hG (c_X12_couldCome l D G B c_3) cv_X12_couldCome tw_1145 tw_1147 ts_48 ⟨rfl, rfl⟩ ⟨Nat.le_of_ble_eq_true rfl, Nat.le_of_ble_eq_true rfl⟩ (fp_recv E hG (by decide) (fp_o12 _) rfl) rfl rfl (Nat.le_of_ble_eq_true rfl) hl.1 dX12_came_1 ⟨Nat.zero_le _, Nat.zero_le _⟩ (fun H locs hG => ?_)
  exact fp_ireti E hG (fp_pr1 h) (fp_pr2 h) dX12_came_4
theorem c_X12_came (l : Launch) (D : va_G) (G : Nat → ClassId) (B : Nat) {M : fp_Mem}   {r : Int32} {M' : fp_Mem}  (h : m_X12_came M = some (r, M')) : Met l yX12_came (Cond.code yX12_came cX12_came 1 (some .int) :: fp_T) rm_X12_came (va_Pc [.ref (B + 120)] (fp_GS D G B M)) (fp_Qi D G B r M') 0 0 (fp_A B) :=
  fp_met (own := RX12) (by decide) rfl (Nat.le_of_ble_eq_true rfl) (fun E hG hl => w_X12_came_0 E  hG hl h)
abbrev rm_X12_look : Room := { frames := 5, cells := 0, slots := 0, locals := 115 }
theorem cv_X12_look : fp_CV yX12_look cX12_look 8 (some .int) 0 := ⟨tw_1156, tw_13, by decide, by decide +kernel⟩
set_option maxHeartbeats 2000000 in
theorem w_X12_look_129 {p : Program} {l : Launch} {e : Env} {s : State} {m : MethodId} {args : Array Value} {below : List Frame} {meth : Method} {c : Code} {D : va_G} {G : Nat → ClassId} {B : Nat} {K18 : Int32 → Int32 → Int32 → Int32 → Int32 → fp_Mem → Option (Int32 × fp_Mem)} {r : Int32} {M' : fp_Mem} (E : fp_EV p s m args meth c cX12_look 8 RX12 (some .int) D G) (HK18 : ∀ (wv1 : Int32) (wv2 : Int32) (wv3 : Int32) (wv4 : Int32) (wv5 : Int32) (wM : fp_Mem) {H : Heap} {locs : List Loc} {ls : Array Slot}, fp_H D G B s wM H locs → lv_has ls 8 [(0, .ref (B + 120)), (1, .int wv1), (2, .int wv2), (3, .int wv3), (4, .int wv4), (5, .int wv5)] → K18 wv1 wv2 wv3 wv4 wv5 wM = some (r, M') → W p l e rm_X12_look s m args below meth c H locs 0 0 (MQ below (fp_Qi D G B r M') args s 0 0 (fp_A B)) (F0 m 18 ls [])) (v1 : Int32) (v2 : Int32) (v3 : Int32) (v5 : Int32) (s0 : Int32) (M : fp_Mem) {H : Heap} {locs : List Loc} {ls : Array Slot} (hG : fp_H D G B s M H locs) (hl : lv_has ls 8 [(0, .ref (B + 120)), (1, .int v1), (2, .int v2), (3, .int v3), (5, .int v5)]) (h : m_X12_look_129 K18 v1 v2 v3 v5 s0 M = some (r, M')) : W p l e rm_X12_look s m args below meth c H locs 0 0 (MQ below (fp_Qi D G B r M') args s 0 0 (fp_A B)) (F0 m 129 ls [.int s0]) := by
  have hx := E.1
  have hb := E.2.1
  have hown := E.2.2.2.1
  unfold m_X12_look_129 at h
  refine lv_istore (lv' := [(4, .int s0), (0, .ref (B + 120)), (1, .int v1), (2, .int v2), (3, .int v3), (5, .int v5)]) hx hb dX12_look_129 hl (by decide) rfl (fun ls hl => ?_)
  obtain ⟨x_1, ex_1, h⟩ := fp_lt_s h
  refine lv_iinc (v := x_1) (lv' := [(5, .int x_1), (4, .int s0), (0, .ref (B + 120)), (1, .int v1), (2, .int v2), (3, .int v3)]) hx hb dX12_look_131 hl (k := 5) rfl (by rw [ex_1]; rfl) (by decide) rfl (fun ls hl => ?_)
  refine lv_goto (tgt := 18) hx hb dX12_look_134 (by decide) ?_
  exact HK18 _ _ _ _ _ _ hG (lv_sub hl [2, 3, 4, 5, 1, 0] rfl) h
set_option maxHeartbeats 2000000 in
theorem w_X12_look_114 {p : Program} {l : Launch} {e : Env} {s : State} {m : MethodId} {args : Array Value} {below : List Frame} {meth : Method} {c : Code} {D : va_G} {G : Nat → ClassId} {B : Nat} {K18 : Int32 → Int32 → Int32 → Int32 → Int32 → fp_Mem → Option (Int32 × fp_Mem)} {r : Int32} {M' : fp_Mem} (E : fp_EV p s m args meth c cX12_look 8 RX12 (some .int) D G) (HK18 : ∀ (wv1 : Int32) (wv2 : Int32) (wv3 : Int32) (wv4 : Int32) (wv5 : Int32) (wM : fp_Mem) {H : Heap} {locs : List Loc} {ls : Array Slot}, fp_H D G B s wM H locs → lv_has ls 8 [(0, .ref (B + 120)), (1, .int wv1), (2, .int wv2), (3, .int wv3), (4, .int wv4), (5, .int wv5)] → K18 wv1 wv2 wv3 wv4 wv5 wM = some (r, M') → W p l e rm_X12_look s m args below meth c H locs 0 0 (MQ below (fp_Qi D G B r M') args s 0 0 (fp_A B)) (F0 m 18 ls [])) (v1 : Int32) (v2 : Int32) (v4 : Int32) (v5 : Int32) (v7 : Int32) (s0 : Int32) (M : fp_Mem) {H : Heap} {locs : List Loc} {ls : Array Slot} (hG : fp_H D G B s M H locs) (hl : lv_has ls 8 [(0, .ref (B + 120)), (1, .int v1), (2, .int v2), (4, .int v4), (5, .int v5), (7, .int v7)]) (h : m_X12_look_114 K18 v1 v2 v4 v5 v7 s0 M = some (r, M')) : W p l e rm_X12_look s m args below meth c H locs 0 0 (MQ below (fp_Qi D G B r M') args s 0 0 (fp_A B)) (F0 m 114 ls [.int s0]) := by
  have hx := E.1
  have hb := E.2.1
  have hown := E.2.2.2.1
  unfold m_X12_look_114 at h
  refine lv_istore_n (lv' := [(3, .int s0), (0, .ref (B + 120)), (1, .int v1), (2, .int v2), (4, .int v4), (5, .int v5), (7, .int v7)]) hx hb dX12_look_114 rfl hl (by decide) rfl (fun ls hl => ?_)
  refine lv_iload hx hb dX12_look_115 (lv_at hl 6 rfl) ?_
  refine lv_iload hx hb dX12_look_117 (lv_at hl 4 rfl) ?_
  refine lv_icmp_ge (tgt := 127) hx hb dX12_look_119 (by decide) (fun q => ?_) (fun q => ?_)
  · replace h := fp_ifT q h
    refine lv_iload hx hb dX12_look_127 (lv_at hl 4 rfl) ?_
    exact w_X12_look_129 E  HK18 _ _ _ _ _ _ hG (lv_sub hl [1, 2, 3, 0, 5] rfl) h
  · replace h := fp_ifF q h
    refine lv_iload hx hb dX12_look_122 (lv_at hl 6 rfl) ?_
    refine lv_goto (tgt := 129) hx hb dX12_look_124 (by decide) ?_
    exact w_X12_look_129 E  HK18 _ _ _ _ _ _ hG (lv_sub hl [1, 2, 3, 0, 5] rfl) h
set_option maxHeartbeats 2000000 in
theorem w_X12_look_99 {p : Program} {l : Launch} {e : Env} {s : State} {m : MethodId} {args : Array Value} {below : List Frame} {meth : Method} {c : Code} {D : va_G} {G : Nat → ClassId} {B : Nat} {K18 : Int32 → Int32 → Int32 → Int32 → Int32 → fp_Mem → Option (Int32 × fp_Mem)} {r : Int32} {M' : fp_Mem} (E : fp_EV p s m args meth c cX12_look 8 RX12 (some .int) D G) (HK18 : ∀ (wv1 : Int32) (wv2 : Int32) (wv3 : Int32) (wv4 : Int32) (wv5 : Int32) (wM : fp_Mem) {H : Heap} {locs : List Loc} {ls : Array Slot}, fp_H D G B s wM H locs → lv_has ls 8 [(0, .ref (B + 120)), (1, .int wv1), (2, .int wv2), (3, .int wv3), (4, .int wv4), (5, .int wv5)] → K18 wv1 wv2 wv3 wv4 wv5 wM = some (r, M') → W p l e rm_X12_look s m args below meth c H locs 0 0 (MQ below (fp_Qi D G B r M') args s 0 0 (fp_A B)) (F0 m 18 ls [])) (v1 : Int32) (v2 : Int32) (v3 : Int32) (v4 : Int32) (v5 : Int32) (s0 : Int32) (M : fp_Mem) {H : Heap} {locs : List Loc} {ls : Array Slot} (hG : fp_H D G B s M H locs) (hl : lv_has ls 8 [(0, .ref (B + 120)), (1, .int v1), (2, .int v2), (3, .int v3), (4, .int v4), (5, .int v5)]) (h : m_X12_look_99 K18 v1 v2 v3 v4 v5 s0 M = some (r, M')) : W p l e rm_X12_look s m args below meth c H locs 0 0 (MQ below (fp_Qi D G B r M') args s 0 0 (fp_A B)) (F0 m 99 ls [.int s0]) := by
  have hx := E.1
  have hb := E.2.1
  have hown := E.2.2.2.1
  unfold m_X12_look_99 at h
  refine lv_istore (lv' := [(7, .int s0), (0, .ref (B + 120)), (1, .int v1), (2, .int v2), (3, .int v3), (4, .int v4), (5, .int v5)]) hx hb dX12_look_99 hl (by decide) rfl (fun ls hl => ?_)
  refine lv_iload hx hb dX12_look_101 (lv_at hl 0 rfl) ?_
  refine lv_iload hx hb dX12_look_103 (lv_at hl 5 rfl) ?_
  refine lv_icmp_ge (tgt := 113) hx hb dX12_look_105 (by decide) (fun q => ?_) (fun q => ?_)
  · replace h := fp_ifT q h
    refine lv_iload_n hx hb dX12_look_113 rfl (lv_at hl 4 rfl) ?_
    exact w_X12_look_114 E  HK18 _ _ _ _ _ _ _ hG (lv_sub hl [1, 2, 3, 5, 6, 0] rfl) h
  · replace h := fp_ifF q h
    refine lv_iload hx hb dX12_look_108 (lv_at hl 6 rfl) ?_
    refine lv_goto (tgt := 114) hx hb dX12_look_110 (by decide) ?_
    exact w_X12_look_114 E  HK18 _ _ _ _ _ _ _ hG (lv_sub hl [1, 2, 3, 5, 6, 0] rfl) h
set_option maxHeartbeats 2000000 in
theorem w_X12_look_72 {p : Program} {l : Launch} {e : Env} {s : State} {m : MethodId} {args : Array Value} {below : List Frame} {meth : Method} {c : Code} {D : va_G} {G : Nat → ClassId} {B : Nat} {K18 : Int32 → Int32 → Int32 → Int32 → Int32 → fp_Mem → Option (Int32 × fp_Mem)} {K33 : Int32 → Int32 → Int32 → Int32 → Int32 → Int32 → Int32 → fp_Mem → Option (Int32 × fp_Mem)} {r : Int32} {M' : fp_Mem} (E : fp_EV p s m args meth c cX12_look 8 RX12 (some .int) D G) (HK18 : ∀ (wv1 : Int32) (wv2 : Int32) (wv3 : Int32) (wv4 : Int32) (wv5 : Int32) (wM : fp_Mem) {H : Heap} {locs : List Loc} {ls : Array Slot}, fp_H D G B s wM H locs → lv_has ls 8 [(0, .ref (B + 120)), (1, .int wv1), (2, .int wv2), (3, .int wv3), (4, .int wv4), (5, .int wv5)] → K18 wv1 wv2 wv3 wv4 wv5 wM = some (r, M') → W p l e rm_X12_look s m args below meth c H locs 0 0 (MQ below (fp_Qi D G B r M') args s 0 0 (fp_A B)) (F0 m 18 ls [])) (HK33 : ∀ (wv1 : Int32) (wv2 : Int32) (wv3 : Int32) (wv4 : Int32) (wv5 : Int32) (wv6 : Int32) (wv7 : Int32) (wM : fp_Mem) {H : Heap} {locs : List Loc} {ls : Array Slot}, fp_H D G B s wM H locs → lv_has ls 8 [(0, .ref (B + 120)), (1, .int wv1), (2, .int wv2), (3, .int wv3), (4, .int wv4), (5, .int wv5), (6, .int wv6), (7, .int wv7)] → K33 wv1 wv2 wv3 wv4 wv5 wv6 wv7 wM = some (r, M') → W p l e rm_X12_look s m args below meth c H locs 0 0 (MQ below (fp_Qi D G B r M') args s 0 0 (fp_A B)) (F0 m 33 ls [])) (v1 : Int32) (v2 : Int32) (v3 : Int32) (v4 : Int32) (v5 : Int32) (v7 : Int32) (s0 : Int32) (s1 : Int32) (M : fp_Mem) {H : Heap} {locs : List Loc} {ls : Array Slot} (hG : fp_H D G B s M H locs) (hl : lv_has ls 8 [(0, .ref (B + 120)), (1, .int v1), (2, .int v2), (3, .int v3), (4, .int v4), (5, .int v5), (7, .int v7)]) (h : m_X12_look_72 K18 K33 v1 v2 v3 v4 v5 v7 s0 s1 M = some (r, M')) : W p l e rm_X12_look s m args below meth c H locs 0 0 (MQ below (fp_Qi D G B r M') args s 0 0 (fp_A B)) (F0 m 72 ls [.int s1, .int s0]) := by
  have hx := E.1
  have hb := E.2.1
  have hown := E.2.2.2.1
  unfold m_X12_look_72 at h
  refine lv_iadd hx hb dX12_look_72 ?_
  obtain ⟨x_2, ex_2, h⟩ := fp_lt_s h
  refine fp_top ex_2 ?_
  refine lv_istore (lv' := [(6, .int x_2), (0, .ref (B + 120)), (1, .int v1), (2, .int v2), (3, .int v3), (4, .int v4), (5, .int v5), (7, .int v7)]) hx hb dX12_look_73 hl (by decide) rfl (fun ls hl => ?_)
  obtain ⟨x_3, ex_3, h⟩ := fp_lt_s h
  refine lv_iinc (v := x_3) (lv' := [(7, .int x_3), (6, .int x_2), (0, .ref (B + 120)), (1, .int v1), (2, .int v2), (3, .int v3), (4, .int v4), (5, .int v5)]) hx hb dX12_look_75 hl (k := 7) rfl (by rw [ex_3]; rfl) (by decide) rfl (fun ls hl => ?_)
  refine lv_goto (tgt := 33) hx hb dX12_look_78 (by decide) ?_
  exact HK33 _ _ _ _ _ _ _ _ hG (lv_sub hl [2, 3, 4, 5, 6, 7, 1, 0] rfl) h
set_option maxHeartbeats 2000000 in
theorem w_X12_look_71 {p : Program} {l : Launch} {e : Env} {s : State} {m : MethodId} {args : Array Value} {below : List Frame} {meth : Method} {c : Code} {D : va_G} {G : Nat → ClassId} {B : Nat} {K18 : Int32 → Int32 → Int32 → Int32 → Int32 → fp_Mem → Option (Int32 × fp_Mem)} {K33 : Int32 → Int32 → Int32 → Int32 → Int32 → Int32 → Int32 → fp_Mem → Option (Int32 × fp_Mem)} {r : Int32} {M' : fp_Mem} (E : fp_EV p s m args meth c cX12_look 8 RX12 (some .int) D G) (HK18 : ∀ (wv1 : Int32) (wv2 : Int32) (wv3 : Int32) (wv4 : Int32) (wv5 : Int32) (wM : fp_Mem) {H : Heap} {locs : List Loc} {ls : Array Slot}, fp_H D G B s wM H locs → lv_has ls 8 [(0, .ref (B + 120)), (1, .int wv1), (2, .int wv2), (3, .int wv3), (4, .int wv4), (5, .int wv5)] → K18 wv1 wv2 wv3 wv4 wv5 wM = some (r, M') → W p l e rm_X12_look s m args below meth c H locs 0 0 (MQ below (fp_Qi D G B r M') args s 0 0 (fp_A B)) (F0 m 18 ls [])) (HK33 : ∀ (wv1 : Int32) (wv2 : Int32) (wv3 : Int32) (wv4 : Int32) (wv5 : Int32) (wv6 : Int32) (wv7 : Int32) (wM : fp_Mem) {H : Heap} {locs : List Loc} {ls : Array Slot}, fp_H D G B s wM H locs → lv_has ls 8 [(0, .ref (B + 120)), (1, .int wv1), (2, .int wv2), (3, .int wv3), (4, .int wv4), (5, .int wv5), (6, .int wv6), (7, .int wv7)] → K33 wv1 wv2 wv3 wv4 wv5 wv6 wv7 wM = some (r, M') → W p l e rm_X12_look s m args below meth c H locs 0 0 (MQ below (fp_Qi D G B r M') args s 0 0 (fp_A B)) (F0 m 33 ls [])) (v1 : Int32) (v2 : Int32) (v3 : Int32) (v4 : Int32) (v5 : Int32) (v7 : Int32) (s0 : Int32) (M : fp_Mem) {H : Heap} {locs : List Loc} {ls : Array Slot} (hG : fp_H D G B s M H locs) (hl : lv_has ls 8 [(0, .ref (B + 120)), (1, .int v1), (2, .int v2), (3, .int v3), (4, .int v4), (5, .int v5), (7, .int v7)]) (h : m_X12_look_71 K18 K33 v1 v2 v3 v4 v5 v7 s0 M = some (r, M')) : W p l e rm_X12_look s m args below meth c H locs 0 0 (MQ below (fp_Qi D G B r M') args s 0 0 (fp_A B)) (F0 m 71 ls [.int s0]) := by
  have hx := E.1
  have hb := E.2.1
  have hown := E.2.2.2.1
  unfold m_X12_look_71 at h
  refine lv_iconst (v := (nI 0)) hx hb dX12_look_71 (by decide) ?_
  exact w_X12_look_72 E  HK18 HK33 _ _ _ _ _ _ _ _ _ hG (lv_sub hl [0, 1, 2, 3, 4, 5, 6] rfl) h
set_option maxHeartbeats 2000000 in
theorem w_X12_look_33 {p : Program} {l : Launch} {e : Env} {s : State} {m : MethodId} {args : Array Value} {below : List Frame} {meth : Method} {c : Code} {D : va_G} {G : Nat → ClassId} {B : Nat} {K18 : Int32 → Int32 → Int32 → Int32 → Int32 → fp_Mem → Option (Int32 × fp_Mem)} {r : Int32} {M' : fp_Mem} (E : fp_EV p s m args meth c cX12_look 8 RX12 (some .int) D G) (HK18 : ∀ (wv1 : Int32) (wv2 : Int32) (wv3 : Int32) (wv4 : Int32) (wv5 : Int32) (wM : fp_Mem) {H : Heap} {locs : List Loc} {ls : Array Slot}, fp_H D G B s wM H locs → lv_has ls 8 [(0, .ref (B + 120)), (1, .int wv1), (2, .int wv2), (3, .int wv3), (4, .int wv4), (5, .int wv5)] → K18 wv1 wv2 wv3 wv4 wv5 wM = some (r, M') → W p l e rm_X12_look s m args below meth c H locs 0 0 (MQ below (fp_Qi D G B r M') args s 0 0 (fp_A B)) (F0 m 18 ls [])) : ∀ (n : Nat) (v1 : Int32) (v2 : Int32) (v3 : Int32) (v4 : Int32) (v5 : Int32) (v6 : Int32) (v7 : Int32) (M : fp_Mem) {H : Heap} {locs : List Loc} {ls : Array Slot}, fp_H D G B s M H locs → lv_has ls 8 [(0, .ref (B + 120)), (1, .int v1), (2, .int v2), (3, .int v3), (4, .int v4), (5, .int v5), (6, .int v6), (7, .int v7)] → m_X12_look_33 K18 n v1 v2 v3 v4 v5 v6 v7 M = some (r, M') → W p l e rm_X12_look s m args below meth c H locs 0 0 (MQ below (fp_Qi D G B r M') args s 0 0 (fp_A B)) (F0 m 33 ls []) := by
  have hx := E.1
  have hb := E.2.1
  have hown := E.2.2.2.1
  intro n
  induction n with
  | zero =>
    intro v1 v2 v3 v4 v5 v6 v7 M H locs ls hG hl h
    exact nomatch h
  | succ n ih =>
    have ihK := @ih
    intro v1 v2 v3 v4 v5 v6 v7 M H locs ls hG hl h
    rw [m_X12_look_33] at h
    refine lv_iload hx hb dX12_look_33 (lv_at hl 7 rfl) ?_
    refine lv_aload_n hx hb dX12_look_35 rfl (lv_at hl 0 rfl) ?_
    refine fp_g12_1 E hG tw_806 dX12_look_36 ?_
    refine lv_icmp_ge (tgt := 81) hx hb dX12_look_39 (by decide) (fun q => ?_) (fun q => ?_)
    · replace h := fp_ifT q h
      refine lv_iload hx hb dX12_look_81 (lv_at hl 6 rfl) ?_
      refine lv_iload_n hx hb dX12_look_83 rfl (lv_at hl 2 rfl) ?_
      refine lv_iload hx hb dX12_look_84 (lv_at hl 6 rfl) ?_
      refine lv_isub hx hb dX12_look_86 ?_
      refine lv_icmp_le (tgt := 95) hx hb dX12_look_87 (by decide) (fun q => ?_) (fun q => ?_)
      · replace h := fp_ifT q h
        refine lv_iload_n hx hb dX12_look_95 rfl (lv_at hl 2 rfl) ?_
        refine lv_iload hx hb dX12_look_96 (lv_at hl 6 rfl) ?_
        refine lv_isub hx hb dX12_look_98 ?_
        exact w_X12_look_99 E  HK18 _ _ _ _ _ _ _ hG (lv_sub hl [0, 1, 2, 3, 4, 5] rfl) h
      · replace h := fp_ifF q h
        refine lv_iload hx hb dX12_look_90 (lv_at hl 6 rfl) ?_
        refine lv_goto (tgt := 99) hx hb dX12_look_92 (by decide) ?_
        exact w_X12_look_99 E  HK18 _ _ _ _ _ _ _ hG (lv_sub hl [0, 1, 2, 3, 4, 5] rfl) h
    · replace h := fp_ifF q h
      refine lv_iload hx hb dX12_look_42 (lv_at hl 6 rfl) ?_
      refine lv_iload_n hx hb dX12_look_44 rfl (lv_at hl 1 rfl) ?_
      refine lv_iload hx hb dX12_look_45 (lv_at hl 7 rfl) ?_
      obtain ⟨r_4, c_5, h⟩ := fp_b1_s h
      refine fp_callSi (As := [.int v1, .int v7]) (rest := [.int v6]) E hG (c_X12_has l D G B c_5) cv_X12_has tw_999 tw_1000 ⟨rfl, rfl⟩ ⟨Nat.le_of_ble_eq_true rfl, Nat.le_of_ble_eq_true rfl⟩ rfl rfl (Nat.le_of_ble_eq_true rfl) hl.1 dX12_look_47 ⟨Nat.zero_le _, Nat.zero_le _⟩ (fun H locs hG => ?_)
      refine lv_if_eq (tgt := 71) hx hb dX12_look_50 (by decide) (fun q => ?_) (fun q => ?_)
      · replace h := fp_ifT q h
        exact w_X12_look_71 E  HK18 ihK _ _ _ _ _ _ _ _ hG (lv_sub hl [0, 1, 2, 3, 4, 5, 7] rfl) h
      · replace h := fp_ifF q h
        refine lv_aload_n hx hb dX12_look_53 rfl (lv_at hl 0 rfl) ?_
        refine lv_iload hx hb dX12_look_54 (lv_at hl 7 rfl) ?_
        obtain ⟨r_6, c_7, h⟩ := fp_b1_s h
        refine fp_callVi (As := [.int v7]) (rest := [.int v6]) E hG (c_X12_movers l D G B c_7) cv_X12_movers tw_1149 tw_1151 ts_49 ⟨rfl, rfl⟩ ⟨Nat.le_of_ble_eq_true rfl, Nat.le_of_ble_eq_true rfl⟩ (fp_recv E hG (by decide) (fp_o12 _) rfl) rfl rfl (Nat.le_of_ble_eq_true rfl) hl.1 dX12_look_56 ⟨Nat.zero_le _, Nat.zero_le _⟩ (fun H locs hG => ?_)
        refine lv_iload hx hb dX12_look_59 (lv_at hl 5 rfl) ?_
        obtain ⟨r_8, c_9, h⟩ := fp_b1_s h
        refine fp_callSi (As := [.int r_6, .int v5]) (rest := [.int v6]) E hG (c_X12_has l D G B c_9) cv_X12_has tw_999 tw_1000 ⟨rfl, rfl⟩ ⟨Nat.le_of_ble_eq_true rfl, Nat.le_of_ble_eq_true rfl⟩ rfl rfl (Nat.le_of_ble_eq_true rfl) hl.1 dX12_look_61 ⟨Nat.zero_le _, Nat.zero_le _⟩ (fun H locs hG => ?_)
        refine lv_if_eq (tgt := 71) hx hb dX12_look_64 (by decide) (fun q => ?_) (fun q => ?_)
        · replace h := fp_ifT q h
          exact w_X12_look_71 E  HK18 ihK _ _ _ _ _ _ _ _ hG (lv_sub hl [0, 1, 2, 3, 4, 5, 7] rfl) h
        · replace h := fp_ifF q h
          refine lv_iconst (v := (nI 1)) hx hb dX12_look_67 (by decide) ?_
          refine lv_goto (tgt := 72) hx hb dX12_look_68 (by decide) ?_
          exact w_X12_look_72 E  HK18 ihK _ _ _ _ _ _ _ _ _ hG (lv_sub hl [0, 1, 2, 3, 4, 5, 7] rfl) h
set_option maxHeartbeats 2000000 in
theorem w_X12_look_18 {p : Program} {l : Launch} {e : Env} {s : State} {m : MethodId} {args : Array Value} {below : List Frame} {meth : Method} {c : Code} {D : va_G} {G : Nat → ClassId} {B : Nat} {r : Int32} {M' : fp_Mem} (E : fp_EV p s m args meth c cX12_look 8 RX12 (some .int) D G) : ∀ (n : Nat) (v1 : Int32) (v2 : Int32) (v3 : Int32) (v4 : Int32) (v5 : Int32) (M : fp_Mem) {H : Heap} {locs : List Loc} {ls : Array Slot}, fp_H D G B s M H locs → lv_has ls 8 [(0, .ref (B + 120)), (1, .int v1), (2, .int v2), (3, .int v3), (4, .int v4), (5, .int v5)] → m_X12_look_18 n v1 v2 v3 v4 v5 M = some (r, M') → W p l e rm_X12_look s m args below meth c H locs 0 0 (MQ below (fp_Qi D G B r M') args s 0 0 (fp_A B)) (F0 m 18 ls []) := by
  have hx := E.1
  have hb := E.2.1
  have hown := E.2.2.2.1
  intro n
  induction n with
  | zero =>
    intro v1 v2 v3 v4 v5 M H locs ls hG hl h
    exact nomatch h
  | succ n ih =>
    have ihK := @ih
    intro v1 v2 v3 v4 v5 M H locs ls hG hl h
    rw [m_X12_look_18] at h
    refine lv_iload hx hb dX12_look_18 (lv_at hl 5 rfl) ?_
    refine lv_aload_n hx hb dX12_look_20 rfl (lv_at hl 0 rfl) ?_
    refine fp_g12_1 E hG tw_806 dX12_look_21 ?_
    refine lv_icmp_ge (tgt := 137) hx hb dX12_look_24 (by decide) (fun q => ?_) (fun q => ?_)
    · replace h := fp_ifT q h
      refine lv_iload_n hx hb dX12_look_137 rfl (lv_at hl 3 rfl) ?_
      exact fp_ireti E hG (fp_pr1 h) (fp_pr2 h) dX12_look_138
    · replace h := fp_ifF q h
      refine lv_iconst (v := (nI 0)) hx hb dX12_look_27 (by decide) ?_
      refine lv_istore (lv' := [(6, .int (nI 0)), (0, .ref (B + 120)), (1, .int v1), (2, .int v2), (3, .int v3), (4, .int v4), (5, .int v5)]) hx hb dX12_look_28 hl (by decide) rfl (fun ls hl => ?_)
      refine lv_iconst (v := (nI 0)) hx hb dX12_look_30 (by decide) ?_
      refine lv_istore (lv' := [(7, .int (nI 0)), (6, .int (nI 0)), (0, .ref (B + 120)), (1, .int v1), (2, .int v2), (3, .int v3), (4, .int v4), (5, .int v5)]) hx hb dX12_look_31 hl (by decide) rfl (fun ls hl => ?_)
      exact w_X12_look_33 E  ihK fp_fu _ _ _ _ _ _ _ _ hG (lv_sub hl [2, 3, 4, 5, 6, 7, 1, 0] rfl) h
set_option maxHeartbeats 2000000 in
theorem w_X12_look_0 {p : Program} {l : Launch} {e : Env} {s : State} {m : MethodId} {args : Array Value} {below : List Frame} {meth : Method} {c : Code} {D : va_G} {G : Nat → ClassId} {B : Nat} {r : Int32} {M' : fp_Mem} (E : fp_EV p s m args meth c cX12_look 8 RX12 (some .int) D G) {M : fp_Mem} {H : Heap} {locs : List Loc} {ls : Array Slot} (hG : fp_H D G B s M H locs) (hl : lv_has ls 8 [(0, .ref (B + 120))]) (h : m_X12_look M = some (r, M')) : W p l e rm_X12_look s m args below meth c H locs 0 0 (MQ below (fp_Qi D G B r M') args s 0 0 (fp_A B)) (F0 m 0 ls []) := by
  have hx := E.1
  have hb := E.2.1
  have hown := E.2.2.2.1
  unfold m_X12_look at h
  refine lv_aload_n hx hb dX12_look_0 rfl (lv_at hl 0 rfl) ?_
  obtain ⟨r_10, M_11, c_12, h⟩ := fp_b2_s h
  refine fp_callVi (As := []) (rest := []) E hG (c_X12_couldCome l D G B c_12) cv_X12_couldCome tw_1145 tw_1147 ts_48 ⟨rfl, rfl⟩ ⟨Nat.le_of_ble_eq_true rfl, Nat.le_of_ble_eq_true rfl⟩ (fp_recv E hG (by decide) (fp_o12 _) rfl) rfl rfl (Nat.le_of_ble_eq_true rfl) hl.1 dX12_look_1 ⟨Nat.zero_le _, Nat.zero_le _⟩ (fun H locs hG => ?_)
  refine lv_istore_n (lv' := [(1, .int r_10), (0, .ref (B + 120))]) hx hb dX12_look_4 rfl hl (by decide) rfl (fun ls hl => ?_)
  refine lv_iload_n hx hb dX12_look_5 rfl (lv_at hl 0 rfl) ?_
  obtain ⟨r_13, c_14, h⟩ := fp_b1_s h
  refine fp_callSi (As := [.int r_10]) (rest := []) E hG (c_X12_bits l D G B c_14) cv_X12_bits tw_1157 tw_1158 ⟨rfl, rfl⟩ ⟨Nat.le_of_ble_eq_true rfl, Nat.le_of_ble_eq_true rfl⟩ rfl rfl (Nat.le_of_ble_eq_true rfl) hl.1 dX12_look_6 ⟨Nat.zero_le _, Nat.zero_le _⟩ (fun H locs hG => ?_)
  refine lv_istore_n (lv' := [(2, .int r_13), (1, .int r_10), (0, .ref (B + 120))]) hx hb dX12_look_9 rfl hl (by decide) rfl (fun ls hl => ?_)
  refine lv_iconst (v := (-1 : Int32)) hx hb dX12_look_10 (by decide) ?_
  refine lv_istore_n (lv' := [(3, .int (-1 : Int32)), (2, .int r_13), (1, .int r_10), (0, .ref (B + 120))]) hx hb dX12_look_11 rfl hl (by decide) rfl (fun ls hl => ?_)
  refine lv_iload_n hx hb dX12_look_12 rfl (lv_at hl 1 rfl) ?_
  refine lv_istore (lv' := [(4, .int r_13), (3, .int (-1 : Int32)), (2, .int r_13), (1, .int r_10), (0, .ref (B + 120))]) hx hb dX12_look_13 hl (by decide) rfl (fun ls hl => ?_)
  refine lv_iconst (v := (nI 0)) hx hb dX12_look_15 (by decide) ?_
  refine lv_istore (lv' := [(5, .int (nI 0)), (4, .int r_13), (3, .int (-1 : Int32)), (2, .int r_13), (1, .int r_10), (0, .ref (B + 120))]) hx hb dX12_look_16 hl (by decide) rfl (fun ls hl => ?_)
  exact w_X12_look_18 E   fp_fu _ _ _ _ _ _ hG (lv_sub hl [5, 4, 3, 2, 1, 0] rfl) h
theorem c_X12_look (l : Launch) (D : va_G) (G : Nat → ClassId) (B : Nat) {M : fp_Mem}   {r : Int32} {M' : fp_Mem}  (h : m_X12_look M = some (r, M')) : Met l yX12_look (Cond.code yX12_look cX12_look 8 (some .int) :: fp_T) rm_X12_look (va_Pc [.ref (B + 120)] (fp_GS D G B M)) (fp_Qi D G B r M') 0 0 (fp_A B) :=
  fp_met (own := RX12) (by decide) rfl (Nat.le_of_ble_eq_true rfl) (fun E hG hl => w_X12_look_0 E  hG hl h)
abbrev rm_X12_write : Room := { frames := 2, cells := 0, slots := 0, locals := 46 }
theorem cv_X12_write : fp_CV yX12_write cX12_write 3 (some .int) 2 := ⟨tw_1163, tw_13, by decide, by decide +kernel⟩
set_option maxHeartbeats 2000000 in
theorem w_X12_write_0 {p : Program} {l : Launch} {e : Env} {s : State} {m : MethodId} {args : Array Value} {below : List Frame} {meth : Method} {c : Code} {D : va_G} {G : Nat → ClassId} {B : Nat} {p1 : Int32} {p2 : Int32} {r : Int32} {M' : fp_Mem} (E : fp_EV p s m args meth c cX12_write 3 RX12 (some .int) D G) {M : fp_Mem} {H : Heap} {locs : List Loc} {ls : Array Slot} (hG : fp_H D G B s M H locs) (hl : lv_has ls 3 [(0, .ref (B + 120)), (1, .int p1), (2, .int p2)]) (h : m_X12_write M p1 p2 = some (r, M')) : W p l e rm_X12_write s m args below meth c H locs 0 0 (MQ below (fp_Qi D G B r M') args s 0 0 (fp_A B)) (F0 m 0 ls []) := by
  have hx := E.1
  have hb := E.2.1
  have hown := E.2.2.2.1
  unfold m_X12_write at h
  refine lv_aload_n hx hb dX12_write_0 rfl (lv_at hl 0 rfl) ?_
  refine lv_iload_n hx hb dX12_write_1 rfl (lv_at hl 1 rfl) ?_
  obtain ⟨r_1, c_2, h⟩ := fp_b1_s h
  refine fp_callVi (As := [.int p1]) (rest := []) E hG (c_X12_isTable l D G B c_2) cv_X12_isTable tw_1006 tw_1008 ts_33 ⟨rfl, rfl⟩ ⟨Nat.le_of_ble_eq_true rfl, Nat.le_of_ble_eq_true rfl⟩ (fp_recv E hG (by decide) (fp_o12 _) rfl) rfl rfl (Nat.le_of_ble_eq_true rfl) hl.1 dX12_write_2 ⟨Nat.zero_le _, Nat.zero_le _⟩ (fun H locs hG => ?_)
  refine lv_if_ne (tgt := 11) hx hb dX12_write_5 (by decide) (fun q => ?_) (fun q => ?_)
  · replace h := fp_ifF q h
    refine lv_iload_n hx hb dX12_write_11 rfl (lv_at hl 2 rfl) ?_
    refine lv_i2l hx hb dX12_write_12 rfl ?_
    refine lv_lconst (v := (lN 0)) hx hb dX12_write_13 (by decide) ?_
    refine lv_ldc2 (v := (lN 20)) hx hb hown (fp_tabs E tw_1164) dX12_write_14 ?_
    obtain ⟨r_3, c_4, h⟩ := fp_b1_s h
    refine fp_callSi (As := [.long (Int32.toInt64 p2), .long (lN 0), .long (lN 20)]) (rest := []) E hG (c_X12_in l D G B c_4) cv_X12_in tw_916 tw_917 ⟨rfl, rfl⟩ ⟨Nat.le_of_ble_eq_true rfl, Nat.le_of_ble_eq_true rfl⟩ rfl rfl (Nat.le_of_ble_eq_true rfl) hl.1 dX12_write_17 ⟨Nat.zero_le _, Nat.zero_le _⟩ (fun H locs hG => ?_)
    refine lv_if_ne (tgt := 26) hx hb dX12_write_20 (by decide) (fun q => ?_) (fun q => ?_)
    · replace h := fp_ifF q h
      refine lv_aload_n hx hb dX12_write_26 rfl (lv_at hl 0 rfl) ?_
      refine fp_g12_30 E hG tw_835 dX12_write_27 ?_
      refine lv_bipush (v := (nI 15)) hx hb dX12_write_30 (by decide) ?_
      refine lv_icmp_ne (tgt := 38) hx hb dX12_write_32 (by decide) (fun q => ?_) (fun q => ?_)
      · replace h := fp_ifF q h
        refine lv_aload_n hx hb dX12_write_38 rfl (lv_at hl 0 rfl) ?_
        refine fp_g12_31 E hG tw_836 dX12_write_39 ?_
        refine lv_aload_n hx hb dX12_write_42 rfl (lv_at hl 0 rfl) ?_
        refine fp_g12_30 E hG tw_835 dX12_write_43 ?_
        refine lv_iload_n hx hb dX12_write_46 rfl (lv_at hl 1 rfl) ?_
        obtain ⟨g_5, h⟩ := fp_gd_s h
        obtain ⟨M_6, eM_6, h⟩ := fp_lt_s h
        refine fp_iast E hG fp_cc136.1 (fp_a23 fp_cc136) (fp_in_s g_5) dX12_write_47 (fun H locs hG => ?_)
        replace hG := fp_memH eM_6 hG
        refine lv_aload_n hx hb dX12_write_48 rfl (lv_at hl 0 rfl) ?_
        refine fp_g12_32 E hG tw_837 dX12_write_49 ?_
        refine lv_aload_n hx hb dX12_write_52 rfl (lv_at hl 0 rfl) ?_
        refine fp_g12_30 E hG tw_835 dX12_write_53 ?_
        refine lv_iload_n hx hb dX12_write_56 rfl (lv_at hl 2 rfl) ?_
        obtain ⟨g_7, h⟩ := fp_gd_s h
        obtain ⟨M_8, eM_8, h⟩ := fp_lt_s h
        refine fp_iast E hG fp_cc137.1 (fp_a23 fp_cc137) (fp_in_s g_7) dX12_write_57 (fun H locs hG => ?_)
        replace hG := fp_memH eM_8 hG
        refine lv_aload_n hx hb dX12_write_58 rfl (lv_at hl 0 rfl) ?_
        refine lv_dup hx hb dX12_write_59 rfl ?_
        refine fp_g12_30 E hG tw_835 dX12_write_60 ?_
        refine lv_iconst (v := (nI 1)) hx hb dX12_write_63 (by decide) ?_
        refine lv_iadd hx hb dX12_write_64 ?_
        obtain ⟨M_9, eM_9, h⟩ := fp_lt_s h
        refine fp_p12_30 E hG tw_835 dX12_write_65 (fun H locs hG => ?_)
        replace hG := fp_memH eM_9 hG
        refine lv_aload_n hx hb dX12_write_68 rfl (lv_at hl 0 rfl) ?_
        refine fp_g12_30 E hG tw_835 dX12_write_69 ?_
        exact fp_ireti E hG (fp_pr1 h) (fp_pr2 h) dX12_write_72
      · replace h := fp_ifT q h
        refine lv_ldc (v := (-1000000004 : Int32)) hx hb hown (fp_tabs E tw_920) dX12_write_35 ?_
        exact fp_ireti E hG (fp_pr1 h) (fp_pr2 h) dX12_write_37
    · replace h := fp_ifT q h
      refine lv_ldc (v := (-1000000002 : Int32)) hx hb hown (fp_tabs E tw_919) dX12_write_23 ?_
      exact fp_ireti E hG (fp_pr1 h) (fp_pr2 h) dX12_write_25
  · replace h := fp_ifT q h
    refine lv_ldc (v := (-1000000001 : Int32)) hx hb hown (fp_tabs E tw_1010) dX12_write_8 ?_
    exact fp_ireti E hG (fp_pr1 h) (fp_pr2 h) dX12_write_10
theorem c_X12_write (l : Launch) (D : va_G) (G : Nat → ClassId) (B : Nat) {M : fp_Mem}  {p1 : Int32} {p2 : Int32} {r : Int32} {M' : fp_Mem}  (h : m_X12_write M p1 p2 = some (r, M')) : Met l yX12_write (Cond.code yX12_write cX12_write 3 (some .int) :: fp_T) rm_X12_write (va_Pc [.ref (B + 120), .int p1, .int p2] (fp_GS D G B M)) (fp_Qi D G B r M') 0 0 (fp_A B) :=
  fp_met (own := RX12) (by decide) rfl (Nat.le_of_ble_eq_true rfl) (fun E hG hl => w_X12_write_0 E  hG hl h)
abbrev rm_X12_tear : Room := { frames := 0, cells := 0, slots := 0, locals := 0 }
theorem cv_X12_tear : fp_CV yX12_tear cX12_tear 2 (some .int) 0 := ⟨tw_1168, tw_13, by decide, by decide +kernel⟩
set_option maxHeartbeats 2000000 in
theorem w_X12_tear_0 {p : Program} {l : Launch} {e : Env} {s : State} {m : MethodId} {args : Array Value} {below : List Frame} {meth : Method} {c : Code} {D : va_G} {G : Nat → ClassId} {B : Nat} {r : Int32} {M' : fp_Mem} (E : fp_EV p s m args meth c cX12_tear 2 RX12 (some .int) D G) {M : fp_Mem} {H : Heap} {locs : List Loc} {ls : Array Slot} (hG : fp_H D G B s M H locs) (hl : lv_has ls 2 [(0, .ref (B + 120))]) (h : m_X12_tear M = some (r, M')) : W p l e rm_X12_tear s m args below meth c H locs 0 0 (MQ below (fp_Qi D G B r M') args s 0 0 (fp_A B)) (F0 m 0 ls []) := by
  have hx := E.1
  have hb := E.2.1
  have hown := E.2.2.2.1
  unfold m_X12_tear at h
  refine lv_aload_n hx hb dX12_tear_0 rfl (lv_at hl 0 rfl) ?_
  refine fp_g12_27 E hG tw_832 dX12_tear_1 ?_
  refine lv_aload_n hx hb dX12_tear_4 rfl (lv_at hl 0 rfl) ?_
  refine fp_g12_30 E hG tw_835 dX12_tear_5 ?_
  refine lv_iadd hx hb dX12_tear_8 ?_
  obtain ⟨x_1, ex_1, h⟩ := fp_lt_s h
  refine fp_top ex_1 ?_
  refine lv_istore_n (lv' := [(1, .int x_1), (0, .ref (B + 120))]) hx hb dX12_tear_9 rfl hl (by decide) rfl (fun ls hl => ?_)
  refine lv_aload_n hx hb dX12_tear_10 rfl (lv_at hl 1 rfl) ?_
  refine lv_iconst (v := (nI 0)) hx hb dX12_tear_11 (by decide) ?_
  obtain ⟨M_2, eM_2, h⟩ := fp_lt_s h
  refine fp_p12_27 E hG tw_832 dX12_tear_12 (fun H locs hG => ?_)
  replace hG := fp_memH eM_2 hG
  refine lv_aload_n hx hb dX12_tear_15 rfl (lv_at hl 1 rfl) ?_
  refine lv_iconst (v := (nI 0)) hx hb dX12_tear_16 (by decide) ?_
  obtain ⟨M_3, eM_3, h⟩ := fp_lt_s h
  refine fp_p12_30 E hG tw_835 dX12_tear_17 (fun H locs hG => ?_)
  replace hG := fp_memH eM_3 hG
  refine lv_iload_n hx hb dX12_tear_20 rfl (lv_at hl 0 rfl) ?_
  exact fp_ireti E hG (fp_pr1 h) (fp_pr2 h) dX12_tear_21
theorem c_X12_tear (l : Launch) (D : va_G) (G : Nat → ClassId) (B : Nat) {M : fp_Mem}   {r : Int32} {M' : fp_Mem}  (h : m_X12_tear M = some (r, M')) : Met l yX12_tear (Cond.code yX12_tear cX12_tear 2 (some .int) :: fp_T) rm_X12_tear (va_Pc [.ref (B + 120)] (fp_GS D G B M)) (fp_Qi D G B r M') 0 0 (fp_A B) :=
  fp_met (own := RX12) (by decide) rfl (Nat.le_of_ble_eq_true rfl) (fun E hG hl => w_X12_tear_0 E  hG hl h)
abbrev rm_X12_judge : Room := { frames := 0, cells := 0, slots := 0, locals := 0 }
theorem cv_X12_judge : fp_CV yX12_judge cX12_judge 2 (some .int) 0 := ⟨tw_1172, tw_13, by decide, by decide +kernel⟩
set_option maxHeartbeats 2000000 in
theorem w_X12_judge_2 {p : Program} {l : Launch} {e : Env} {s : State} {m : MethodId} {args : Array Value} {below : List Frame} {meth : Method} {c : Code} {D : va_G} {G : Nat → ClassId} {B : Nat} {M : fp_Mem} {r : Int32} (E : fp_EV p s m args meth c cX12_judge 2 RX12 (some .int) D G) : ∀ (n : Nat) (v1 : Int32) {H : Heap} {locs : List Loc} {ls : Array Slot}, fp_H D G B s M H locs → lv_has ls 2 [(0, .ref (B + 120)), (1, .int v1)] → m_X12_judge_2 M n v1 = some r → W p l e rm_X12_judge s m args below meth c H locs 0 0 (MQ below (fp_Qi D G B r M) args s 0 0 (fp_A B)) (F0 m 2 ls []) := by
  have hx := E.1
  have hb := E.2.1
  have hown := E.2.2.2.1
  intro n
  induction n with
  | zero =>
    intro v1 H locs ls hG hl h
    exact nomatch h
  | succ n ih =>
    have ihK := @ih
    intro v1 H locs ls hG hl h
    rw [m_X12_judge_2] at h
    refine lv_iload_n hx hb dX12_judge_2 rfl (lv_at hl 1 rfl) ?_
    refine lv_aload_n hx hb dX12_judge_3 rfl (lv_at hl 0 rfl) ?_
    refine fp_g12_30 E hG tw_835 dX12_judge_4 ?_
    refine lv_icmp_ge (tgt := 41) hx hb dX12_judge_7 (by decide) (fun q => ?_) (fun q => ?_)
    · replace h := fp_ifT q h
      refine lv_iconst (v := (-1 : Int32)) hx hb dX12_judge_41 (by decide) ?_
      exact fp_ireti E hG (Option.some.inj h) rfl dX12_judge_42
    · replace h := fp_ifF q h
      refine lv_aload_n hx hb dX12_judge_10 rfl (lv_at hl 0 rfl) ?_
      refine fp_g12_5 E hG tw_810 dX12_judge_11 ?_
      refine lv_bipush (v := (nI 9)) hx hb dX12_judge_14 (by decide) ?_
      refine lv_aload_n hx hb dX12_judge_16 rfl (lv_at hl 0 rfl) ?_
      refine fp_g12_31 E hG tw_836 dX12_judge_17 ?_
      refine lv_iload_n hx hb dX12_judge_20 rfl (lv_at hl 1 rfl) ?_
      obtain ⟨g_1, h⟩ := fp_gd_s h
      refine fp_iald E hG fp_cc136.1 (fp_a23 fp_cc136) (fp_in_s g_1) dX12_judge_21 ?_
      refine lv_iadd hx hb dX12_judge_22 ?_
      obtain ⟨g_2, h⟩ := fp_gd_s h
      refine fp_iald E hG fp_cc123.1 (fp_a28 fp_cc123) (fp_in_s g_2) dX12_judge_23 ?_
      refine lv_aload_n hx hb dX12_judge_24 rfl (lv_at hl 0 rfl) ?_
      refine fp_g12_32 E hG tw_837 dX12_judge_25 ?_
      refine lv_iload_n hx hb dX12_judge_28 rfl (lv_at hl 1 rfl) ?_
      obtain ⟨g_3, h⟩ := fp_gd_s h
      refine fp_iald E hG fp_cc137.1 (fp_a23 fp_cc137) (fp_in_s g_3) dX12_judge_29 ?_
      refine lv_icmp_eq (tgt := 35) hx hb dX12_judge_30 (by decide) (fun q => ?_) (fun q => ?_)
      · replace h := fp_ifT q h
        obtain ⟨x_4, ex_4, h⟩ := fp_lt_s h
        refine lv_iinc (v := x_4) (lv' := [(1, .int x_4), (0, .ref (B + 120))]) hx hb dX12_judge_35 hl (k := 1) rfl (by rw [ex_4]; rfl) (by decide) rfl (fun ls hl => ?_)
        refine lv_goto (tgt := 2) hx hb dX12_judge_38 (by decide) ?_
        exact ih _ hG (lv_sub hl [1, 0] rfl) h
      · replace h := fp_ifF q h
        refine lv_iload_n hx hb dX12_judge_33 rfl (lv_at hl 1 rfl) ?_
        exact fp_ireti E hG (Option.some.inj h) rfl dX12_judge_34
set_option maxHeartbeats 2000000 in
theorem w_X12_judge_0 {p : Program} {l : Launch} {e : Env} {s : State} {m : MethodId} {args : Array Value} {below : List Frame} {meth : Method} {c : Code} {D : va_G} {G : Nat → ClassId} {B : Nat} {M : fp_Mem} {r : Int32} (E : fp_EV p s m args meth c cX12_judge 2 RX12 (some .int) D G) {H : Heap} {locs : List Loc} {ls : Array Slot} (hG : fp_H D G B s M H locs) (hl : lv_has ls 2 [(0, .ref (B + 120))]) (h : m_X12_judge M = some r) : W p l e rm_X12_judge s m args below meth c H locs 0 0 (MQ below (fp_Qi D G B r M) args s 0 0 (fp_A B)) (F0 m 0 ls []) := by
  have hx := E.1
  have hb := E.2.1
  have hown := E.2.2.2.1
  unfold m_X12_judge at h
  refine lv_iconst (v := (nI 0)) hx hb dX12_judge_0 (by decide) ?_
  refine lv_istore_n (lv' := [(1, .int (nI 0)), (0, .ref (B + 120))]) hx hb dX12_judge_1 rfl hl (by decide) rfl (fun ls hl => ?_)
  exact w_X12_judge_2 E   fp_fu _ hG (lv_sub hl [1, 0] rfl) h
theorem c_X12_judge (l : Launch) (D : va_G) (G : Nat → ClassId) (B : Nat) {M : fp_Mem}   {r : Int32}  (h : m_X12_judge M = some r) : Met l yX12_judge (Cond.code yX12_judge cX12_judge 2 (some .int) :: fp_T) rm_X12_judge (va_Pc [.ref (B + 120)] (fp_GS D G B M)) (fp_Qi D G B r M) 0 0 (fp_A B) :=
  fp_met (own := RX12) (by decide) rfl (Nat.le_of_ble_eq_true rfl) (fun E hG hl => w_X12_judge_0 E  hG hl h)
abbrev rm_X12_seed : Room := { frames := 0, cells := 0, slots := 0, locals := 0 }
theorem cv_X12_seed : fp_CV yX12_seed cX12_seed 3 (some .int) 1 := ⟨tw_1176, tw_13, by decide, by decide +kernel⟩
set_option maxHeartbeats 2000000 in
theorem w_X12_seed_0 {p : Program} {l : Launch} {e : Env} {s : State} {m : MethodId} {args : Array Value} {below : List Frame} {meth : Method} {c : Code} {D : va_G} {G : Nat → ClassId} {B : Nat} {p1 : Int32} {r : Int32} {M' : fp_Mem} (E : fp_EV p s m args meth c cX12_seed 3 RX12 (some .int) D G) {M : fp_Mem} {H : Heap} {locs : List Loc} {ls : Array Slot} (hG : fp_H D G B s M H locs) (hl : lv_has ls 3 [(0, .ref (B + 120)), (1, .int p1)]) (h : m_X12_seed M p1 = some (r, M')) : W p l e rm_X12_seed s m args below meth c H locs 0 0 (MQ below (fp_Qi D G B r M') args s 0 0 (fp_A B)) (F0 m 0 ls []) := by
  have hx := E.1
  have hb := E.2.1
  have hown := E.2.2.2.1
  unfold m_X12_seed at h
  refine lv_iload_n hx hb dX12_seed_0 rfl (lv_at hl 1 rfl) ?_
  refine lv_if_ge (tgt := 7) hx hb dX12_seed_1 (by decide) (fun q => ?_) (fun q => ?_)
  · replace h := fp_ifT q h
    refine lv_aload_n hx hb dX12_seed_7 rfl (lv_at hl 0 rfl) ?_
    refine fp_g12_6 E hG tw_811 dX12_seed_8 ?_
    obtain ⟨x_1, ex_1, h⟩ := fp_lt_s h
    refine fp_top ex_1 ?_
    refine lv_istore_n (lv' := [(2, .int x_1), (0, .ref (B + 120)), (1, .int p1)]) hx hb dX12_seed_11 rfl hl (by decide) rfl (fun ls hl => ?_)
    refine lv_aload_n hx hb dX12_seed_12 rfl (lv_at hl 1 rfl) ?_
    refine lv_iload_n hx hb dX12_seed_13 rfl (lv_at hl 2 rfl) ?_
    obtain ⟨M_2, eM_2, h⟩ := fp_lt_s h
    refine fp_p12_6 E hG tw_811 dX12_seed_14 (fun H locs hG => ?_)
    replace hG := fp_memH eM_2 hG
    refine lv_iload_n hx hb dX12_seed_17 rfl (lv_at hl 0 rfl) ?_
    exact fp_ireti E hG (fp_pr1 h) (fp_pr2 h) dX12_seed_18
  · replace h := fp_ifF q h
    refine lv_ldc (v := (-1000000002 : Int32)) hx hb hown (fp_tabs E tw_919) dX12_seed_4 ?_
    exact fp_ireti E hG (fp_pr1 h) (fp_pr2 h) dX12_seed_6
theorem c_X12_seed (l : Launch) (D : va_G) (G : Nat → ClassId) (B : Nat) {M : fp_Mem}  {p1 : Int32} {r : Int32} {M' : fp_Mem}  (h : m_X12_seed M p1 = some (r, M')) : Met l yX12_seed (Cond.code yX12_seed cX12_seed 3 (some .int) :: fp_T) rm_X12_seed (va_Pc [.ref (B + 120), .int p1] (fp_GS D G B M)) (fp_Qi D G B r M') 0 0 (fp_A B) :=
  fp_met (own := RX12) (by decide) rfl (Nat.le_of_ble_eq_true rfl) (fun E hG hl => w_X12_seed_0 E  hG hl h)
abbrev rm_X12_keep : Room := { frames := 1, cells := 0, slots := 0, locals := 25 }
theorem cv_X12_keep : fp_CV yX12_keep cX12_keep 3 (some .int) 1 := ⟨tw_1180, tw_13, by decide, by decide +kernel⟩
set_option maxHeartbeats 2000000 in
theorem w_X12_keep_15 {p : Program} {l : Launch} {e : Env} {s : State} {m : MethodId} {args : Array Value} {below : List Frame} {meth : Method} {c : Code} {D : va_G} {G : Nat → ClassId} {B : Nat} {p1 : Int32} {r : Int32} {M' : fp_Mem} (E : fp_EV p s m args meth c cX12_keep 3 RX12 (some .int) D G) : ∀ (n : Nat) (v2 : Int32) (M : fp_Mem) {H : Heap} {locs : List Loc} {ls : Array Slot}, fp_H D G B s M H locs → lv_has ls 3 [(0, .ref (B + 120)), (1, .int p1), (2, .int v2)] → m_X12_keep_15 p1 n v2 M = some (r, M') → W p l e rm_X12_keep s m args below meth c H locs 0 0 (MQ below (fp_Qi D G B r M') args s 0 0 (fp_A B)) (F0 m 15 ls []) := by
  have hx := E.1
  have hb := E.2.1
  have hown := E.2.2.2.1
  intro n
  induction n with
  | zero =>
    intro v2 M H locs ls hG hl h
    exact nomatch h
  | succ n ih =>
    have ihK := @ih
    intro v2 M H locs ls hG hl h
    rw [m_X12_keep_15] at h
    refine lv_iload_n hx hb dX12_keep_15 rfl (lv_at hl 2 rfl) ?_
    refine lv_bipush (v := (nI 25)) hx hb dX12_keep_16 (by decide) ?_
    refine lv_icmp_ge (tgt := 44) hx hb dX12_keep_18 (by decide) (fun q => ?_) (fun q => ?_)
    · replace h := fp_ifT q h
      refine lv_aload_n hx hb dX12_keep_44 rfl (lv_at hl 0 rfl) ?_
      refine fp_g12_33 E hG tw_838 dX12_keep_45 ?_
      refine lv_bipush (v := (nI 26)) hx hb dX12_keep_48 (by decide) ?_
      refine lv_iload_n hx hb dX12_keep_50 rfl (lv_at hl 1 rfl) ?_
      refine lv_imul hx hb dX12_keep_51 ?_
      refine lv_bipush (v := (nI 25)) hx hb dX12_keep_52 (by decide) ?_
      refine lv_iadd hx hb dX12_keep_54 ?_
      refine lv_aload_n hx hb dX12_keep_55 rfl (lv_at hl 0 rfl) ?_
      refine fp_g12_6 E hG tw_811 dX12_keep_56 ?_
      obtain ⟨g_1, h⟩ := fp_gd_s h
      obtain ⟨M_2, eM_2, h⟩ := fp_lt_s h
      refine fp_iast E hG fp_cc138.1 (fp_a33 fp_cc138) (fp_in_s g_1) dX12_keep_59 (fun H locs hG => ?_)
      replace hG := fp_memH eM_2 hG
      refine lv_aload_n hx hb dX12_keep_60 rfl (lv_at hl 0 rfl) ?_
      refine fp_g12_34 E hG tw_839 dX12_keep_61 ?_
      refine lv_iload_n hx hb dX12_keep_64 rfl (lv_at hl 1 rfl) ?_
      refine lv_iconst (v := (nI 1)) hx hb dX12_keep_65 (by decide) ?_
      obtain ⟨g_3, h⟩ := fp_gd_s h
      obtain ⟨M_4, eM_4, h⟩ := fp_lt_s h
      refine fp_zast E hG fp_cc139.1 (fp_a27 fp_cc139) (fp_in_s g_3) dX12_keep_66 (fun H locs hG => ?_)
      replace hG := fp_memH eM_4 hG
      refine lv_aload_n hx hb dX12_keep_67 rfl (lv_at hl 0 rfl) ?_
      refine lv_iconst (v := (nI 0)) hx hb dX12_keep_68 (by decide) ?_
      obtain ⟨M_5, eM_5, h⟩ := fp_lt_s h
      refine fp_p12_23 E hG tw_828 dX12_keep_69 (fun H locs hG => ?_)
      replace hG := fp_memH eM_5 hG
      refine lv_iconst (v := (nI 1)) hx hb dX12_keep_72 (by decide) ?_
      exact fp_ireti E hG (fp_pr1 h) (fp_pr2 h) dX12_keep_73
    · replace h := fp_ifF q h
      refine lv_aload_n hx hb dX12_keep_21 rfl (lv_at hl 0 rfl) ?_
      refine fp_g12_33 E hG tw_838 dX12_keep_22 ?_
      refine lv_bipush (v := (nI 26)) hx hb dX12_keep_25 (by decide) ?_
      refine lv_iload_n hx hb dX12_keep_27 rfl (lv_at hl 1 rfl) ?_
      refine lv_imul hx hb dX12_keep_28 ?_
      refine lv_iload_n hx hb dX12_keep_29 rfl (lv_at hl 2 rfl) ?_
      refine lv_iadd hx hb dX12_keep_30 ?_
      refine lv_aload_n hx hb dX12_keep_31 rfl (lv_at hl 0 rfl) ?_
      refine fp_g12_5 E hG tw_810 dX12_keep_32 ?_
      refine lv_iload_n hx hb dX12_keep_35 rfl (lv_at hl 2 rfl) ?_
      obtain ⟨g_6, h⟩ := fp_gd_s h
      refine fp_iald E hG fp_cc123.1 (fp_a28 fp_cc123) (fp_in_s g_6) dX12_keep_36 ?_
      obtain ⟨g_7, h⟩ := fp_gd_s h
      obtain ⟨M_8, eM_8, h⟩ := fp_lt_s h
      refine fp_iast E hG fp_cc138.1 (fp_a33 fp_cc138) (fp_in_s g_7) dX12_keep_37 (fun H locs hG => ?_)
      replace hG := fp_memH eM_8 hG
      obtain ⟨x_9, ex_9, h⟩ := fp_lt_s h
      refine lv_iinc (v := x_9) (lv' := [(2, .int x_9), (0, .ref (B + 120)), (1, .int p1)]) hx hb dX12_keep_38 hl (k := 2) rfl (by rw [ex_9]; rfl) (by decide) rfl (fun ls hl => ?_)
      refine lv_goto (tgt := 15) hx hb dX12_keep_41 (by decide) ?_
      exact ih _ _ hG (lv_sub hl [1, 2, 0] rfl) h
set_option maxHeartbeats 2000000 in
theorem w_X12_keep_0 {p : Program} {l : Launch} {e : Env} {s : State} {m : MethodId} {args : Array Value} {below : List Frame} {meth : Method} {c : Code} {D : va_G} {G : Nat → ClassId} {B : Nat} {p1 : Int32} {r : Int32} {M' : fp_Mem} (E : fp_EV p s m args meth c cX12_keep 3 RX12 (some .int) D G) {M : fp_Mem} {H : Heap} {locs : List Loc} {ls : Array Slot} (hG : fp_H D G B s M H locs) (hl : lv_has ls 3 [(0, .ref (B + 120)), (1, .int p1)]) (h : m_X12_keep M p1 = some (r, M')) : W p l e rm_X12_keep s m args below meth c H locs 0 0 (MQ below (fp_Qi D G B r M') args s 0 0 (fp_A B)) (F0 m 0 ls []) := by
  have hx := E.1
  have hb := E.2.1
  have hown := E.2.2.2.1
  unfold m_X12_keep at h
  refine lv_iload_n hx hb dX12_keep_0 rfl (lv_at hl 1 rfl) ?_
  refine lv_i2l hx hb dX12_keep_1 rfl ?_
  refine lv_lconst (v := (lN 0)) hx hb dX12_keep_2 (by decide) ?_
  refine lv_lconst (v := (lN 1)) hx hb dX12_keep_3 (by decide) ?_
  obtain ⟨r_10, c_11, h⟩ := fp_b1_s h
  refine fp_callSi (As := [.long (Int32.toInt64 p1), .long (lN 0), .long (lN 1)]) (rest := []) E hG (c_X12_in l D G B c_11) cv_X12_in tw_916 tw_917 ⟨rfl, rfl⟩ ⟨Nat.le_of_ble_eq_true rfl, Nat.le_of_ble_eq_true rfl⟩ rfl rfl (Nat.le_of_ble_eq_true rfl) hl.1 dX12_keep_4 ⟨Nat.zero_le _, Nat.zero_le _⟩ (fun H locs hG => ?_)
  refine lv_if_ne (tgt := 13) hx hb dX12_keep_7 (by decide) (fun q => ?_) (fun q => ?_)
  · replace h := fp_ifF q h
    refine lv_iconst (v := (nI 0)) hx hb dX12_keep_13 (by decide) ?_
    refine lv_istore_n (lv' := [(2, .int (nI 0)), (0, .ref (B + 120)), (1, .int p1)]) hx hb dX12_keep_14 rfl hl (by decide) rfl (fun ls hl => ?_)
    exact w_X12_keep_15 E   fp_fu _ _ hG (lv_sub hl [1, 2, 0] rfl) h
  · replace h := fp_ifT q h
    refine lv_ldc (v := (-1000000001 : Int32)) hx hb hown (fp_tabs E tw_1010) dX12_keep_10 ?_
    exact fp_ireti E hG (fp_pr1 h) (fp_pr2 h) dX12_keep_12
theorem c_X12_keep (l : Launch) (D : va_G) (G : Nat → ClassId) (B : Nat) {M : fp_Mem}  {p1 : Int32} {r : Int32} {M' : fp_Mem}  (h : m_X12_keep M p1 = some (r, M')) : Met l yX12_keep (Cond.code yX12_keep cX12_keep 3 (some .int) :: fp_T) rm_X12_keep (va_Pc [.ref (B + 120), .int p1] (fp_GS D G B M)) (fp_Qi D G B r M') 0 0 (fp_A B) :=
  fp_met (own := RX12) (by decide) rfl (Nat.le_of_ble_eq_true rfl) (fun E hG hl => w_X12_keep_0 E  hG hl h)
abbrev rm_X12_goBack : Room := { frames := 1, cells := 0, slots := 0, locals := 25 }
theorem cv_X12_goBack : fp_CV yX12_goBack cX12_goBack 3 (some .int) 1 := ⟨tw_1184, tw_13, by decide, by decide +kernel⟩
set_option maxHeartbeats 2000000 in
theorem w_X12_goBack_27 {p : Program} {l : Launch} {e : Env} {s : State} {m : MethodId} {args : Array Value} {below : List Frame} {meth : Method} {c : Code} {D : va_G} {G : Nat → ClassId} {B : Nat} {p1 : Int32} {r : Int32} {M' : fp_Mem} (E : fp_EV p s m args meth c cX12_goBack 3 RX12 (some .int) D G) : ∀ (n : Nat) (v2 : Int32) (M : fp_Mem) {H : Heap} {locs : List Loc} {ls : Array Slot}, fp_H D G B s M H locs → lv_has ls 3 [(0, .ref (B + 120)), (1, .int p1), (2, .int v2)] → m_X12_goBack_27 p1 n v2 M = some (r, M') → W p l e rm_X12_goBack s m args below meth c H locs 0 0 (MQ below (fp_Qi D G B r M') args s 0 0 (fp_A B)) (F0 m 27 ls []) := by
  have hx := E.1
  have hb := E.2.1
  have hown := E.2.2.2.1
  intro n
  induction n with
  | zero =>
    intro v2 M H locs ls hG hl h
    exact nomatch h
  | succ n ih =>
    have ihK := @ih
    intro v2 M H locs ls hG hl h
    rw [m_X12_goBack_27] at h
    refine lv_iload_n hx hb dX12_goBack_27 rfl (lv_at hl 2 rfl) ?_
    refine lv_bipush (v := (nI 25)) hx hb dX12_goBack_28 (by decide) ?_
    refine lv_icmp_ge (tgt := 56) hx hb dX12_goBack_30 (by decide) (fun q => ?_) (fun q => ?_)
    · replace h := fp_ifT q h
      refine lv_aload_n hx hb dX12_goBack_56 rfl (lv_at hl 0 rfl) ?_
      refine lv_aload_n hx hb dX12_goBack_57 rfl (lv_at hl 0 rfl) ?_
      refine fp_g12_33 E hG tw_838 dX12_goBack_58 ?_
      refine lv_bipush (v := (nI 26)) hx hb dX12_goBack_61 (by decide) ?_
      refine lv_iload_n hx hb dX12_goBack_63 rfl (lv_at hl 1 rfl) ?_
      refine lv_imul hx hb dX12_goBack_64 ?_
      refine lv_bipush (v := (nI 25)) hx hb dX12_goBack_65 (by decide) ?_
      refine lv_iadd hx hb dX12_goBack_67 ?_
      obtain ⟨g_1, h⟩ := fp_gd_s h
      refine fp_iald E hG fp_cc138.1 (fp_a33 fp_cc138) (fp_in_s g_1) dX12_goBack_68 ?_
      obtain ⟨M_2, eM_2, h⟩ := fp_lt_s h
      refine fp_p12_6 E hG tw_811 dX12_goBack_69 (fun H locs hG => ?_)
      replace hG := fp_memH eM_2 hG
      refine lv_aload_n hx hb dX12_goBack_72 rfl (lv_at hl 0 rfl) ?_
      refine lv_iconst (v := (nI 0)) hx hb dX12_goBack_73 (by decide) ?_
      obtain ⟨M_3, eM_3, h⟩ := fp_lt_s h
      refine fp_p12_23 E hG tw_828 dX12_goBack_74 (fun H locs hG => ?_)
      replace hG := fp_memH eM_3 hG
      refine lv_iconst (v := (nI 1)) hx hb dX12_goBack_77 (by decide) ?_
      exact fp_ireti E hG (fp_pr1 h) (fp_pr2 h) dX12_goBack_78
    · replace h := fp_ifF q h
      refine lv_aload_n hx hb dX12_goBack_33 rfl (lv_at hl 0 rfl) ?_
      refine fp_g12_5 E hG tw_810 dX12_goBack_34 ?_
      refine lv_iload_n hx hb dX12_goBack_37 rfl (lv_at hl 2 rfl) ?_
      refine lv_aload_n hx hb dX12_goBack_38 rfl (lv_at hl 0 rfl) ?_
      refine fp_g12_33 E hG tw_838 dX12_goBack_39 ?_
      refine lv_bipush (v := (nI 26)) hx hb dX12_goBack_42 (by decide) ?_
      refine lv_iload_n hx hb dX12_goBack_44 rfl (lv_at hl 1 rfl) ?_
      refine lv_imul hx hb dX12_goBack_45 ?_
      refine lv_iload_n hx hb dX12_goBack_46 rfl (lv_at hl 2 rfl) ?_
      refine lv_iadd hx hb dX12_goBack_47 ?_
      obtain ⟨g_4, h⟩ := fp_gd_s h
      refine fp_iald E hG fp_cc138.1 (fp_a33 fp_cc138) (fp_in_s g_4) dX12_goBack_48 ?_
      obtain ⟨g_5, h⟩ := fp_gd_s h
      obtain ⟨M_6, eM_6, h⟩ := fp_lt_s h
      refine fp_iast E hG fp_cc123.1 (fp_a28 fp_cc123) (fp_in_s g_5) dX12_goBack_49 (fun H locs hG => ?_)
      replace hG := fp_memH eM_6 hG
      obtain ⟨x_7, ex_7, h⟩ := fp_lt_s h
      refine lv_iinc (v := x_7) (lv' := [(2, .int x_7), (0, .ref (B + 120)), (1, .int p1)]) hx hb dX12_goBack_50 hl (k := 2) rfl (by rw [ex_7]; rfl) (by decide) rfl (fun ls hl => ?_)
      refine lv_goto (tgt := 27) hx hb dX12_goBack_53 (by decide) ?_
      exact ih _ _ hG (lv_sub hl [1, 2, 0] rfl) h
set_option maxHeartbeats 2000000 in
theorem w_X12_goBack_0 {p : Program} {l : Launch} {e : Env} {s : State} {m : MethodId} {args : Array Value} {below : List Frame} {meth : Method} {c : Code} {D : va_G} {G : Nat → ClassId} {B : Nat} {p1 : Int32} {r : Int32} {M' : fp_Mem} (E : fp_EV p s m args meth c cX12_goBack 3 RX12 (some .int) D G) {M : fp_Mem} {H : Heap} {locs : List Loc} {ls : Array Slot} (hG : fp_H D G B s M H locs) (hl : lv_has ls 3 [(0, .ref (B + 120)), (1, .int p1)]) (h : m_X12_goBack M p1 = some (r, M')) : W p l e rm_X12_goBack s m args below meth c H locs 0 0 (MQ below (fp_Qi D G B r M') args s 0 0 (fp_A B)) (F0 m 0 ls []) := by
  have hx := E.1
  have hb := E.2.1
  have hown := E.2.2.2.1
  unfold m_X12_goBack at h
  refine lv_iload_n hx hb dX12_goBack_0 rfl (lv_at hl 1 rfl) ?_
  refine lv_i2l hx hb dX12_goBack_1 rfl ?_
  refine lv_lconst (v := (lN 0)) hx hb dX12_goBack_2 (by decide) ?_
  refine lv_lconst (v := (lN 1)) hx hb dX12_goBack_3 (by decide) ?_
  obtain ⟨r_8, c_9, h⟩ := fp_b1_s h
  refine fp_callSi (As := [.long (Int32.toInt64 p1), .long (lN 0), .long (lN 1)]) (rest := []) E hG (c_X12_in l D G B c_9) cv_X12_in tw_916 tw_917 ⟨rfl, rfl⟩ ⟨Nat.le_of_ble_eq_true rfl, Nat.le_of_ble_eq_true rfl⟩ rfl rfl (Nat.le_of_ble_eq_true rfl) hl.1 dX12_goBack_4 ⟨Nat.zero_le _, Nat.zero_le _⟩ (fun H locs hG => ?_)
  refine lv_if_ne (tgt := 13) hx hb dX12_goBack_7 (by decide) (fun q => ?_) (fun q => ?_)
  · replace h := fp_ifF q h
    refine lv_aload_n hx hb dX12_goBack_13 rfl (lv_at hl 0 rfl) ?_
    refine fp_g12_34 E hG tw_839 dX12_goBack_14 ?_
    refine lv_iload_n hx hb dX12_goBack_17 rfl (lv_at hl 1 rfl) ?_
    obtain ⟨g_10, h⟩ := fp_gd_s h
    refine fp_zald E hG fp_cc139.1 (fp_a27 fp_cc139) (fp_in_s g_10) dX12_goBack_18 ?_
    refine lv_if_ne (tgt := 25) hx hb dX12_goBack_19 (by decide) (fun q => ?_) (fun q => ?_)
    · replace h := fp_ifF q h
      refine lv_iconst (v := (nI 0)) hx hb dX12_goBack_25 (by decide) ?_
      refine lv_istore_n (lv' := [(2, .int (nI 0)), (0, .ref (B + 120)), (1, .int p1)]) hx hb dX12_goBack_26 rfl hl (by decide) rfl (fun ls hl => ?_)
      exact w_X12_goBack_27 E   fp_fu _ _ hG (lv_sub hl [1, 2, 0] rfl) h
    · replace h := fp_ifT q h
      refine lv_ldc (v := (-1000000003 : Int32)) hx hb hown (fp_tabs E tw_1040) dX12_goBack_22 ?_
      exact fp_ireti E hG (fp_pr1 h) (fp_pr2 h) dX12_goBack_24
  · replace h := fp_ifT q h
    refine lv_ldc (v := (-1000000001 : Int32)) hx hb hown (fp_tabs E tw_1010) dX12_goBack_10 ?_
    exact fp_ireti E hG (fp_pr1 h) (fp_pr2 h) dX12_goBack_12
theorem c_X12_goBack (l : Launch) (D : va_G) (G : Nat → ClassId) (B : Nat) {M : fp_Mem}  {p1 : Int32} {r : Int32} {M' : fp_Mem}  (h : m_X12_goBack M p1 = some (r, M')) : Met l yX12_goBack (Cond.code yX12_goBack cX12_goBack 3 (some .int) :: fp_T) rm_X12_goBack (va_Pc [.ref (B + 120), .int p1] (fp_GS D G B M)) (fp_Qi D G B r M') 0 0 (fp_A B) :=
  fp_met (own := RX12) (by decide) rfl (Nat.le_of_ble_eq_true rfl) (fun E hG hl => w_X12_goBack_0 E  hG hl h)

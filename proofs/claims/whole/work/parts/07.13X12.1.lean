set_option maxHeartbeats 2000000 in
theorem w_X12_remember_12 {p : Program} {l : Launch} {e : Env} {s : State} {m : MethodId} {args : Array Value} {below : List Frame} {meth : Method} {c : Code} {D : va_G} {G : Nat → ClassId} {B : Nat} {M' : fp_Mem} (E : fp_EV p s m args meth c cX12_remember 2 RX12 none D G) : ∀ (n : Nat) (v1 : Int32) (M : fp_Mem) {H : Heap} {locs : List Loc} {ls : Array Slot}, fp_H D G B s M H locs → lv_has ls 2 [(0, .ref (B + 120)), (1, .int v1)] → m_X12_remember_12 n v1 M = some M' → W p l e rm_X12_remember s m args below meth c H locs 0 0 (MQ below (fp_Qv D G B M') args s 0 0 (fp_A B)) (F0 m 12 ls []) := by
  have hx := E.1
  have hb := E.2.1
  have hown := E.2.2.2.1
  intro n
  induction n with
  | zero =>
    intro v1 M H locs ls hG hl h
    exact nomatch h
  | succ n ih =>
    have ihK := @ih
    intro v1 M H locs ls hG hl h
    rw [m_X12_remember_12] at h
    refine lv_iload_n hx hb dX12_remember_12 rfl (lv_at hl 1 rfl) ?_
    refine lv_sipush (v := (nI 500)) hx hb dX12_remember_13 (by decide) ?_
    refine lv_icmp_ge (tgt := 40) hx hb dX12_remember_16 (by decide) (fun q => ?_) (fun q => ?_)
    · replace h := fp_ifT q h
      refine lv_aload_n hx hb dX12_remember_40 rfl (lv_at hl 0 rfl) ?_
      refine lv_dup hx hb dX12_remember_41 rfl ?_
      refine fp_g12_23 E hG tw_828 dX12_remember_42 ?_
      refine lv_iconst (v := (nI 1)) hx hb dX12_remember_45 (by decide) ?_
      refine lv_isub hx hb dX12_remember_46 ?_
      obtain ⟨M_6, eM_6, h⟩ := fp_lt_s h
      refine fp_p12_23 E hG tw_828 dX12_remember_47 (fun H locs hG => ?_)
      replace hG := fp_memH eM_6 hG
      exact w_X12_remember_50 E   _ hG (lv_sub hl [0] rfl) h
    · replace h := fp_ifF q h
      refine lv_aload_n hx hb dX12_remember_19 rfl (lv_at hl 0 rfl) ?_
      refine fp_g12_24 E hG tw_829 dX12_remember_20 ?_
      refine lv_iload_n hx hb dX12_remember_23 rfl (lv_at hl 1 rfl) ?_
      refine lv_bipush (v := (nI 25)) hx hb dX12_remember_24 (by decide) ?_
      refine lv_isub hx hb dX12_remember_26 ?_
      refine lv_aload_n hx hb dX12_remember_27 rfl (lv_at hl 0 rfl) ?_
      refine fp_g12_24 E hG tw_829 dX12_remember_28 ?_
      refine lv_iload_n hx hb dX12_remember_31 rfl (lv_at hl 1 rfl) ?_
      obtain ⟨g_7, h⟩ := fp_gd_s h
      refine fp_iald E hG fp_cc131.1 (fp_a30 fp_cc131) (fp_in_s g_7) dX12_remember_32 ?_
      obtain ⟨g_8, h⟩ := fp_gd_s h
      obtain ⟨M_9, eM_9, h⟩ := fp_lt_s h
      refine fp_iast E hG fp_cc131.1 (fp_a30 fp_cc131) (fp_in_s g_8) dX12_remember_33 (fun H locs hG => ?_)
      replace hG := fp_memH eM_9 hG
      obtain ⟨x_10, ex_10, h⟩ := fp_lt_s h
      refine lv_iinc (v := x_10) (lv' := [(1, .int x_10), (0, .ref (B + 120))]) hx hb dX12_remember_34 hl (k := 1) rfl (by rw [ex_10]; rfl) (by decide) rfl (fun ls hl => ?_)
      refine lv_goto (tgt := 12) hx hb dX12_remember_37 (by decide) ?_
      exact ih _ _ hG (lv_sub hl [1, 0] rfl) h
set_option maxHeartbeats 2000000 in
theorem w_X12_remember_0 {p : Program} {l : Launch} {e : Env} {s : State} {m : MethodId} {args : Array Value} {below : List Frame} {meth : Method} {c : Code} {D : va_G} {G : Nat → ClassId} {B : Nat} {M' : fp_Mem} (E : fp_EV p s m args meth c cX12_remember 2 RX12 none D G) {M : fp_Mem} {H : Heap} {locs : List Loc} {ls : Array Slot} (hG : fp_H D G B s M H locs) (hl : lv_has ls 2 [(0, .ref (B + 120))]) (h : m_X12_remember M = some M') : W p l e rm_X12_remember s m args below meth c H locs 0 0 (MQ below (fp_Qv D G B M') args s 0 0 (fp_A B)) (F0 m 0 ls []) := by
  have hx := E.1
  have hb := E.2.1
  have hown := E.2.2.2.1
  unfold m_X12_remember at h
  refine lv_aload_n hx hb dX12_remember_0 rfl (lv_at hl 0 rfl) ?_
  refine fp_g12_23 E hG tw_828 dX12_remember_1 ?_
  refine lv_bipush (v := (nI 20)) hx hb dX12_remember_4 (by decide) ?_
  refine lv_icmp_ne (tgt := 50) hx hb dX12_remember_6 (by decide) (fun q => ?_) (fun q => ?_)
  · replace h := fp_ifF q h
    exact w_X12_remember_50 E   _ hG (lv_sub hl [0] rfl) h
  · replace h := fp_ifT q h
    refine lv_bipush (v := (nI 25)) hx hb dX12_remember_9 (by decide) ?_
    refine lv_istore_n (lv' := [(1, .int (nI 25)), (0, .ref (B + 120))]) hx hb dX12_remember_11 rfl hl (by decide) rfl (fun ls hl => ?_)
    exact w_X12_remember_12 E   fp_fu _ _ hG (lv_sub hl [1, 0] rfl) h
theorem c_X12_remember (l : Launch) (D : va_G) (G : Nat → ClassId) (B : Nat) {M : fp_Mem}   {M' : fp_Mem}  (h : m_X12_remember M = some M') : Met l yX12_remember (Cond.code yX12_remember cX12_remember 2 none :: fp_T) rm_X12_remember (va_Pc [.ref (B + 120)] (fp_GS D G B M)) (fp_Qv D G B M') 0 0 (fp_A B) :=
  fp_met (own := RX12) (by decide) rfl (Nat.le_of_ble_eq_true rfl) (fun E hG hl => w_X12_remember_0 E  hG hl h)
abbrev rm_X12_guest : Room := { frames := 4, cells := 0, slots := 0, locals := 90 }
theorem cv_X12_guest : fp_CV yX12_guest cX12_guest 3 (some .int) 1 := ⟨tw_1026, tw_13, by decide, by decide +kernel⟩
set_option maxHeartbeats 2000000 in
theorem w_X12_guest_136 {p : Program} {l : Launch} {e : Env} {s : State} {m : MethodId} {args : Array Value} {below : List Frame} {meth : Method} {c : Code} {D : va_G} {G : Nat → ClassId} {B : Nat} {p1 : Int32} {r : Int32} {M' : fp_Mem} (E : fp_EV p s m args meth c cX12_guest 3 RX12 (some .int) D G) (s1 : Int32) (s2 : Int32) (M : fp_Mem) {H : Heap} {locs : List Loc} {ls : Array Slot} (hG : fp_H D G B s M H locs) (hl : lv_has ls 3 []) (h : m_X12_guest_136 p1 s1 s2 M = some (r, M')) : W p l e rm_X12_guest s m args below meth c H locs 0 0 (MQ below (fp_Qi D G B r M') args s 0 0 (fp_A B)) (F0 m 136 ls [.int s2, .int s1, .ref (B + 123)]) := by
  have hx := E.1
  have hb := E.2.1
  have hown := E.2.2.2.1
  unfold m_X12_guest_136 at h
  obtain ⟨g_1, h⟩ := fp_gd_s h
  obtain ⟨M_2, eM_2, h⟩ := fp_lt_s h
  refine fp_iast E hG fp_cc123.1 (fp_a28 fp_cc123) (fp_in_s g_1) dX12_guest_136 (fun H locs hG => ?_)
  replace hG := fp_memH eM_2 hG
  refine lv_bipush (v := (-2 : Int32)) hx hb dX12_guest_137 (by decide) ?_
  exact fp_ireti E hG (fp_pr1 h) (fp_pr2 h) dX12_guest_139
set_option maxHeartbeats 2000000 in
theorem w_X12_guest_0 {p : Program} {l : Launch} {e : Env} {s : State} {m : MethodId} {args : Array Value} {below : List Frame} {meth : Method} {c : Code} {D : va_G} {G : Nat → ClassId} {B : Nat} {p1 : Int32} {r : Int32} {M' : fp_Mem} (E : fp_EV p s m args meth c cX12_guest 3 RX12 (some .int) D G) {M : fp_Mem} {H : Heap} {locs : List Loc} {ls : Array Slot} (hG : fp_H D G B s M H locs) (hl : lv_has ls 3 [(0, .ref (B + 120)), (1, .int p1)]) (h : m_X12_guest M p1 = some (r, M')) : W p l e rm_X12_guest s m args below meth c H locs 0 0 (MQ below (fp_Qi D G B r M') args s 0 0 (fp_A B)) (F0 m 0 ls []) := by
  have hx := E.1
  have hb := E.2.1
  have hown := E.2.2.2.1
  unfold m_X12_guest at h
  refine lv_aload_n hx hb dX12_guest_0 rfl (lv_at hl 0 rfl) ?_
  obtain ⟨M_3, c_4, h⟩ := fp_b1_s h
  refine fp_callVv (As := []) (rest := []) E hG (c_X12_findAway l D G B c_4) cv_X12_findAway tw_991 tw_993 ts_31 ⟨rfl, rfl⟩ ⟨Nat.le_of_ble_eq_true rfl, Nat.le_of_ble_eq_true rfl⟩ (fp_recv E hG (by decide) (fp_o12 _) rfl) rfl rfl (Nat.le_of_ble_eq_true rfl) hl.1 dX12_guest_1 ⟨Nat.zero_le _, Nat.zero_le _⟩ (fun H locs hG => ?_)
  refine lv_aload_n hx hb dX12_guest_4 rfl (lv_at hl 0 rfl) ?_
  refine fp_g12_5 E hG tw_810 dX12_guest_5 ?_
  refine lv_bipush (v := (nI 24)) hx hb dX12_guest_8 (by decide) ?_
  refine lv_dup2_11 hx hb dX12_guest_10 rfl rfl ?_
  obtain ⟨g_5, h⟩ := fp_gd_s h
  refine fp_iald E hG fp_cc123.1 (fp_a28 fp_cc123) (fp_in_s g_5) dX12_guest_11 ?_
  refine lv_iconst (v := (nI 1)) hx hb dX12_guest_12 (by decide) ?_
  refine lv_iadd hx hb dX12_guest_13 ?_
  obtain ⟨g_6, h⟩ := fp_gd_s h
  obtain ⟨M_7, eM_7, h⟩ := fp_lt_s h
  refine fp_iast E hG fp_cc123.1 (fp_a28 fp_cc123) (fp_in_s g_6) dX12_guest_14 (fun H locs hG => ?_)
  replace hG := fp_memH eM_7 hG
  refine lv_aload_n hx hb dX12_guest_15 rfl (lv_at hl 0 rfl) ?_
  refine fp_g12_22 E hG tw_827 dX12_guest_16 ?_
  refine lv_iload_n hx hb dX12_guest_19 rfl (lv_at hl 1 rfl) ?_
  obtain ⟨g_8, h⟩ := fp_gd_s h
  refine fp_iald E hG fp_cc130.1 (fp_a20 fp_cc130) (fp_in_s g_8) dX12_guest_20 ?_
  refine lv_sipush (v := (nI 1000)) hx hb dX12_guest_21 (by decide) ?_
  refine lv_icmp_ge (tgt := 64) hx hb dX12_guest_24 (by decide) (fun q => ?_) (fun q => ?_)
  · replace h := fp_ifT q h
    refine lv_aload_n hx hb dX12_guest_64 rfl (lv_at hl 0 rfl) ?_
    refine lv_iload_n hx hb dX12_guest_65 rfl (lv_at hl 1 rfl) ?_
    obtain ⟨r_9, c_10, h⟩ := fp_b1_s h
    refine fp_callVi (As := [.int p1]) (rest := []) E hG (c_X12_free l D G B c_10) cv_X12_free tw_983 tw_985 ts_29 ⟨rfl, rfl⟩ ⟨Nat.le_of_ble_eq_true rfl, Nat.le_of_ble_eq_true rfl⟩ (fp_recv E hG (by decide) (fp_o12 _) rfl) rfl rfl (Nat.le_of_ble_eq_true rfl) hl.1 dX12_guest_66 ⟨Nat.zero_le _, Nat.zero_le _⟩ (fun H locs hG => ?_)
    refine lv_if_le (tgt := 140) hx hb dX12_guest_69 (by decide) (fun q => ?_) (fun q => ?_)
    · replace h := fp_ifT q h
      refine lv_aload_n hx hb dX12_guest_140 rfl (lv_at hl 0 rfl) ?_
      refine fp_g12_5 E hG tw_810 dX12_guest_141 ?_
      refine lv_bipush (v := (nI 20)) hx hb dX12_guest_144 (by decide) ?_
      refine lv_dup2_11 hx hb dX12_guest_146 rfl rfl ?_
      obtain ⟨g_11, h⟩ := fp_gd_s h
      refine fp_iald E hG fp_cc123.1 (fp_a28 fp_cc123) (fp_in_s g_11) dX12_guest_147 ?_
      refine lv_iconst (v := (nI 1)) hx hb dX12_guest_148 (by decide) ?_
      refine lv_iadd hx hb dX12_guest_149 ?_
      obtain ⟨g_12, h⟩ := fp_gd_s h
      obtain ⟨M_13, eM_13, h⟩ := fp_lt_s h
      refine fp_iast E hG fp_cc123.1 (fp_a28 fp_cc123) (fp_in_s g_12) dX12_guest_150 (fun H locs hG => ?_)
      replace hG := fp_memH eM_13 hG
      refine lv_bipush (v := (-3 : Int32)) hx hb dX12_guest_151 (by decide) ?_
      exact fp_ireti E hG (fp_pr1 h) (fp_pr2 h) dX12_guest_153
    · replace h := fp_ifF q h
      refine lv_aload_n hx hb dX12_guest_72 rfl (lv_at hl 0 rfl) ?_
      refine fp_g12_5 E hG tw_810 dX12_guest_73 ?_
      refine lv_bipush (v := (nI 9)) hx hb dX12_guest_76 (by decide) ?_
      refine lv_iload_n hx hb dX12_guest_78 rfl (lv_at hl 1 rfl) ?_
      refine lv_iadd hx hb dX12_guest_79 ?_
      refine lv_dup2_11 hx hb dX12_guest_80 rfl rfl ?_
      obtain ⟨g_14, h⟩ := fp_gd_s h
      refine fp_iald E hG fp_cc123.1 (fp_a28 fp_cc123) (fp_in_s g_14) dX12_guest_81 ?_
      refine lv_iconst (v := (nI 1)) hx hb dX12_guest_82 (by decide) ?_
      refine lv_iadd hx hb dX12_guest_83 ?_
      obtain ⟨g_15, h⟩ := fp_gd_s h
      obtain ⟨M_16, eM_16, h⟩ := fp_lt_s h
      refine fp_iast E hG fp_cc123.1 (fp_a28 fp_cc123) (fp_in_s g_15) dX12_guest_84 (fun H locs hG => ?_)
      replace hG := fp_memH eM_16 hG
      refine lv_aload_n hx hb dX12_guest_85 rfl (lv_at hl 0 rfl) ?_
      refine fp_g12_5 E hG tw_810 dX12_guest_86 ?_
      refine lv_bipush (v := (nI 22)) hx hb dX12_guest_89 (by decide) ?_
      refine lv_dup2_11 hx hb dX12_guest_91 rfl rfl ?_
      obtain ⟨g_17, h⟩ := fp_gd_s h
      refine fp_iald E hG fp_cc123.1 (fp_a28 fp_cc123) (fp_in_s g_17) dX12_guest_92 ?_
      refine lv_iconst (v := (nI 1)) hx hb dX12_guest_93 (by decide) ?_
      refine lv_iadd hx hb dX12_guest_94 ?_
      obtain ⟨g_18, h⟩ := fp_gd_s h
      obtain ⟨M_19, eM_19, h⟩ := fp_lt_s h
      refine fp_iast E hG fp_cc123.1 (fp_a28 fp_cc123) (fp_in_s g_18) dX12_guest_95 (fun H locs hG => ?_)
      replace hG := fp_memH eM_19 hG
      refine lv_aload_n hx hb dX12_guest_96 rfl (lv_at hl 0 rfl) ?_
      refine fp_g12_5 E hG tw_810 dX12_guest_97 ?_
      refine lv_bipush (v := (nI 23)) hx hb dX12_guest_100 (by decide) ?_
      refine lv_aload_n hx hb dX12_guest_102 rfl (lv_at hl 0 rfl) ?_
      refine fp_g12_5 E hG tw_810 dX12_guest_103 ?_
      refine lv_bipush (v := (nI 23)) hx hb dX12_guest_106 (by decide) ?_
      obtain ⟨g_20, h⟩ := fp_gd_s h
      refine fp_iald E hG fp_cc123.1 (fp_a28 fp_cc123) (fp_in_s g_20) dX12_guest_108 ?_
      refine lv_aload_n hx hb dX12_guest_109 rfl (lv_at hl 0 rfl) ?_
      refine fp_g12_0 E hG tw_805 dX12_guest_110 ?_
      refine lv_iadd hx hb dX12_guest_113 ?_
      refine lv_ldc (v := (nI 999999)) hx hb hown (fp_tabs E tw_1035) dX12_guest_114 ?_
      refine lv_icmp_ge (tgt := 134) hx hb dX12_guest_116 (by decide) (fun q => ?_) (fun q => ?_)
      · replace h := fp_ifT q h
        refine lv_ldc (v := (nI 999999)) hx hb hown (fp_tabs E tw_1035) dX12_guest_134 ?_
        exact w_X12_guest_136 E   _ _ _ hG (lv_sub hl [] rfl) h
      · replace h := fp_ifF q h
        refine lv_aload_n hx hb dX12_guest_119 rfl (lv_at hl 0 rfl) ?_
        refine fp_g12_5 E hG tw_810 dX12_guest_120 ?_
        refine lv_bipush (v := (nI 23)) hx hb dX12_guest_123 (by decide) ?_
        obtain ⟨g_21, h⟩ := fp_gd_s h
        refine fp_iald E hG fp_cc123.1 (fp_a28 fp_cc123) (fp_in_s g_21) dX12_guest_125 ?_
        refine lv_aload_n hx hb dX12_guest_126 rfl (lv_at hl 0 rfl) ?_
        refine fp_g12_0 E hG tw_805 dX12_guest_127 ?_
        refine lv_iadd hx hb dX12_guest_130 ?_
        refine lv_goto (tgt := 136) hx hb dX12_guest_131 (by decide) ?_
        exact w_X12_guest_136 E   _ _ _ hG (lv_sub hl [] rfl) h
  · replace h := fp_ifF q h
    refine lv_aload_n hx hb dX12_guest_27 rfl (lv_at hl 0 rfl) ?_
    refine fp_g12_22 E hG tw_827 dX12_guest_28 ?_
    refine lv_iload_n hx hb dX12_guest_31 rfl (lv_at hl 1 rfl) ?_
    obtain ⟨g_22, h⟩ := fp_gd_s h
    refine fp_iald E hG fp_cc130.1 (fp_a20 fp_cc130) (fp_in_s g_22) dX12_guest_32 ?_
    obtain ⟨x_23, ex_23, h⟩ := fp_lt_s h
    refine fp_top ex_23 ?_
    refine lv_istore_n (lv' := [(2, .int x_23), (0, .ref (B + 120)), (1, .int p1)]) hx hb dX12_guest_33 rfl hl (by decide) rfl (fun ls hl => ?_)
    refine lv_aload_n hx hb dX12_guest_34 rfl (lv_at hl 1 rfl) ?_
    refine fp_g12_5 E hG tw_810 dX12_guest_35 ?_
    refine lv_bipush (v := (nI 9)) hx hb dX12_guest_38 (by decide) ?_
    refine lv_aload_n hx hb dX12_guest_40 rfl (lv_at hl 1 rfl) ?_
    refine lv_iload_n hx hb dX12_guest_41 rfl (lv_at hl 2 rfl) ?_
    obtain ⟨r_24, c_25, h⟩ := fp_b1_s h
    refine fp_callVi (As := [.int p1]) (rest := [.int (nI 9), .ref (B + 123)]) E hG (c_X12_lastOf l D G B c_25) cv_X12_lastOf tw_1027 tw_1029 ts_36 ⟨rfl, rfl⟩ ⟨Nat.le_of_ble_eq_true rfl, Nat.le_of_ble_eq_true rfl⟩ (fp_recv E hG (by decide) (fp_o12 _) rfl) rfl rfl (Nat.le_of_ble_eq_true rfl) hl.1 dX12_guest_42 ⟨Nat.zero_le _, Nat.zero_le _⟩ (fun H locs hG => ?_)
    refine lv_iadd hx hb dX12_guest_45 ?_
    refine lv_dup2_11 hx hb dX12_guest_46 rfl rfl ?_
    obtain ⟨g_26, h⟩ := fp_gd_s h
    refine fp_iald E hG fp_cc123.1 (fp_a28 fp_cc123) (fp_in_s g_26) dX12_guest_47 ?_
    refine lv_iconst (v := (nI 1)) hx hb dX12_guest_48 (by decide) ?_
    refine lv_iadd hx hb dX12_guest_49 ?_
    obtain ⟨g_27, h⟩ := fp_gd_s h
    obtain ⟨M_28, eM_28, h⟩ := fp_lt_s h
    refine fp_iast E hG fp_cc123.1 (fp_a28 fp_cc123) (fp_in_s g_27) dX12_guest_50 (fun H locs hG => ?_)
    replace hG := fp_memH eM_28 hG
    refine lv_aload_n hx hb dX12_guest_51 rfl (lv_at hl 1 rfl) ?_
    refine fp_g12_5 E hG tw_810 dX12_guest_52 ?_
    refine lv_bipush (v := (nI 21)) hx hb dX12_guest_55 (by decide) ?_
    refine lv_dup2_11 hx hb dX12_guest_57 rfl rfl ?_
    obtain ⟨g_29, h⟩ := fp_gd_s h
    refine fp_iald E hG fp_cc123.1 (fp_a28 fp_cc123) (fp_in_s g_29) dX12_guest_58 ?_
    refine lv_iload_n hx hb dX12_guest_59 rfl (lv_at hl 0 rfl) ?_
    refine lv_iadd hx hb dX12_guest_60 ?_
    obtain ⟨g_30, h⟩ := fp_gd_s h
    obtain ⟨M_31, eM_31, h⟩ := fp_lt_s h
    refine fp_iast E hG fp_cc123.1 (fp_a28 fp_cc123) (fp_in_s g_30) dX12_guest_61 (fun H locs hG => ?_)
    replace hG := fp_memH eM_31 hG
    refine lv_iload_n hx hb dX12_guest_62 rfl (lv_at hl 0 rfl) ?_
    exact fp_ireti E hG (fp_pr1 h) (fp_pr2 h) dX12_guest_63
theorem c_X12_guest (l : Launch) (D : va_G) (G : Nat → ClassId) (B : Nat) {M : fp_Mem}  {p1 : Int32} {r : Int32} {M' : fp_Mem}  (h : m_X12_guest M p1 = some (r, M')) : Met l yX12_guest (Cond.code yX12_guest cX12_guest 3 (some .int) :: fp_T) rm_X12_guest (va_Pc [.ref (B + 120), .int p1] (fp_GS D G B M)) (fp_Qi D G B r M') 0 0 (fp_A B) :=
  fp_met (own := RX12) (by decide) rfl (Nat.le_of_ble_eq_true rfl) (fun E hG hl => w_X12_guest_0 E  hG hl h)
abbrev rm_X12_come : Room := { frames := 5, cells := 0, slots := 0, locals := 112 }
theorem cv_X12_come : fp_CV yX12_come cX12_come 2 (some .int) 1 := ⟨tw_1018, tw_13, by decide, by decide +kernel⟩
set_option maxHeartbeats 2000000 in
theorem w_X12_come_0 {p : Program} {l : Launch} {e : Env} {s : State} {m : MethodId} {args : Array Value} {below : List Frame} {meth : Method} {c : Code} {D : va_G} {G : Nat → ClassId} {B : Nat} {p1 : Int32} {r : Int32} {M' : fp_Mem} (E : fp_EV p s m args meth c cX12_come 2 RX12 (some .int) D G) {M : fp_Mem} {H : Heap} {locs : List Loc} {ls : Array Slot} (hG : fp_H D G B s M H locs) (hl : lv_has ls 2 [(0, .ref (B + 120)), (1, .int p1)]) (h : m_X12_come M p1 = some (r, M')) : W p l e rm_X12_come s m args below meth c H locs 0 0 (MQ below (fp_Qi D G B r M') args s 0 0 (fp_A B)) (F0 m 0 ls []) := by
  have hx := E.1
  have hb := E.2.1
  have hown := E.2.2.2.1
  unfold m_X12_come at h
  refine lv_aload_n hx hb dX12_come_0 rfl (lv_at hl 0 rfl) ?_
  refine lv_iload_n hx hb dX12_come_1 rfl (lv_at hl 1 rfl) ?_
  obtain ⟨r_1, c_2, h⟩ := fp_b1_s h
  refine fp_callVi (As := [.int p1]) (rest := []) E hG (c_X12_isTable l D G B c_2) cv_X12_isTable tw_1006 tw_1008 ts_33 ⟨rfl, rfl⟩ ⟨Nat.le_of_ble_eq_true rfl, Nat.le_of_ble_eq_true rfl⟩ (fp_recv E hG (by decide) (fp_o12 _) rfl) rfl rfl (Nat.le_of_ble_eq_true rfl) hl.1 dX12_come_2 ⟨Nat.zero_le _, Nat.zero_le _⟩ (fun H locs hG => ?_)
  refine lv_if_ne (tgt := 11) hx hb dX12_come_5 (by decide) (fun q => ?_) (fun q => ?_)
  · replace h := fp_ifF q h
    refine lv_aload_n hx hb dX12_come_11 rfl (lv_at hl 0 rfl) ?_
    refine fp_g12_5 E hG tw_810 dX12_come_12 ?_
    refine lv_bipush (v := (nI 24)) hx hb dX12_come_15 (by decide) ?_
    obtain ⟨g_3, h⟩ := fp_gd_s h
    refine fp_iald E hG fp_cc123.1 (fp_a28 fp_cc123) (fp_in_s g_3) dX12_come_17 ?_
    refine lv_sipush (v := (nI 9000)) hx hb dX12_come_18 (by decide) ?_
    refine lv_icmp_le (tgt := 27) hx hb dX12_come_21 (by decide) (fun q => ?_) (fun q => ?_)
    · replace h := fp_ifT q h
      refine lv_aload_n hx hb dX12_come_27 rfl (lv_at hl 0 rfl) ?_
      obtain ⟨M_4, c_5, h⟩ := fp_b1_s h
      refine fp_callVv (As := []) (rest := []) E hG (c_X12_remember l D G B c_5) cv_X12_remember tw_1019 tw_1021 ts_34 ⟨rfl, rfl⟩ ⟨Nat.le_of_ble_eq_true rfl, Nat.le_of_ble_eq_true rfl⟩ (fp_recv E hG (by decide) (fp_o12 _) rfl) rfl rfl (Nat.le_of_ble_eq_true rfl) hl.1 dX12_come_28 ⟨Nat.zero_le _, Nat.zero_le _⟩ (fun H locs hG => ?_)
      refine lv_aload_n hx hb dX12_come_31 rfl (lv_at hl 0 rfl) ?_
      refine lv_iload_n hx hb dX12_come_32 rfl (lv_at hl 1 rfl) ?_
      obtain ⟨r_6, M_7, c_8, h⟩ := fp_b2_s h
      refine fp_callVi (As := [.int p1]) (rest := []) E hG (c_X12_guest l D G B c_8) cv_X12_guest tw_1023 tw_1025 ts_35 ⟨rfl, rfl⟩ ⟨Nat.le_of_ble_eq_true rfl, Nat.le_of_ble_eq_true rfl⟩ (fp_recv E hG (by decide) (fp_o12 _) rfl) rfl rfl (Nat.le_of_ble_eq_true rfl) hl.1 dX12_come_33 ⟨Nat.zero_le _, Nat.zero_le _⟩ (fun H locs hG => ?_)
      exact fp_ireti E hG (fp_pr1 h) (fp_pr2 h) dX12_come_36
    · replace h := fp_ifF q h
      refine lv_ldc (v := (-1000000004 : Int32)) hx hb hown (fp_tabs E tw_920) dX12_come_24 ?_
      exact fp_ireti E hG (fp_pr1 h) (fp_pr2 h) dX12_come_26
  · replace h := fp_ifT q h
    refine lv_ldc (v := (-1000000001 : Int32)) hx hb hown (fp_tabs E tw_1010) dX12_come_8 ?_
    exact fp_ireti E hG (fp_pr1 h) (fp_pr2 h) dX12_come_10
theorem c_X12_come (l : Launch) (D : va_G) (G : Nat → ClassId) (B : Nat) {M : fp_Mem}  {p1 : Int32} {r : Int32} {M' : fp_Mem}  (h : m_X12_come M p1 = some (r, M')) : Met l yX12_come (Cond.code yX12_come cX12_come 2 (some .int) :: fp_T) rm_X12_come (va_Pc [.ref (B + 120), .int p1] (fp_GS D G B M)) (fp_Qi D G B r M') 0 0 (fp_A B) :=
  fp_met (own := RX12) (by decide) rfl (Nat.le_of_ble_eq_true rfl) (fun E hG hl => w_X12_come_0 E  hG hl h)
abbrev rm_X12_go : Room := { frames := 2, cells := 0, slots := 0, locals := 46 }
theorem cv_X12_go : fp_CV yX12_go cX12_go 2 (some .int) 1 := ⟨tw_1039, tw_13, by decide, by decide +kernel⟩
set_option maxHeartbeats 2000000 in
theorem w_X12_go_0 {p : Program} {l : Launch} {e : Env} {s : State} {m : MethodId} {args : Array Value} {below : List Frame} {meth : Method} {c : Code} {D : va_G} {G : Nat → ClassId} {B : Nat} {p1 : Int32} {r : Int32} {M' : fp_Mem} (E : fp_EV p s m args meth c cX12_go 2 RX12 (some .int) D G) {M : fp_Mem} {H : Heap} {locs : List Loc} {ls : Array Slot} (hG : fp_H D G B s M H locs) (hl : lv_has ls 2 [(0, .ref (B + 120)), (1, .int p1)]) (h : m_X12_go M p1 = some (r, M')) : W p l e rm_X12_go s m args below meth c H locs 0 0 (MQ below (fp_Qi D G B r M') args s 0 0 (fp_A B)) (F0 m 0 ls []) := by
  have hx := E.1
  have hb := E.2.1
  have hown := E.2.2.2.1
  unfold m_X12_go at h
  refine lv_aload_n hx hb dX12_go_0 rfl (lv_at hl 0 rfl) ?_
  refine lv_iload_n hx hb dX12_go_1 rfl (lv_at hl 1 rfl) ?_
  obtain ⟨r_1, c_2, h⟩ := fp_b1_s h
  refine fp_callVi (As := [.int p1]) (rest := []) E hG (c_X12_isTable l D G B c_2) cv_X12_isTable tw_1006 tw_1008 ts_33 ⟨rfl, rfl⟩ ⟨Nat.le_of_ble_eq_true rfl, Nat.le_of_ble_eq_true rfl⟩ (fp_recv E hG (by decide) (fp_o12 _) rfl) rfl rfl (Nat.le_of_ble_eq_true rfl) hl.1 dX12_go_2 ⟨Nat.zero_le _, Nat.zero_le _⟩ (fun H locs hG => ?_)
  refine lv_if_ne (tgt := 11) hx hb dX12_go_5 (by decide) (fun q => ?_) (fun q => ?_)
  · replace h := fp_ifF q h
    refine lv_aload_n hx hb dX12_go_11 rfl (lv_at hl 0 rfl) ?_
    refine fp_g12_5 E hG tw_810 dX12_go_12 ?_
    refine lv_bipush (v := (nI 9)) hx hb dX12_go_15 (by decide) ?_
    refine lv_iload_n hx hb dX12_go_17 rfl (lv_at hl 1 rfl) ?_
    refine lv_iadd hx hb dX12_go_18 ?_
    obtain ⟨g_3, h⟩ := fp_gd_s h
    refine fp_iald E hG fp_cc123.1 (fp_a28 fp_cc123) (fp_in_s g_3) dX12_go_19 ?_
    refine lv_if_ne (tgt := 26) hx hb dX12_go_20 (by decide) (fun q => ?_) (fun q => ?_)
    · replace h := fp_ifF q h
      refine lv_aload_n hx hb dX12_go_26 rfl (lv_at hl 0 rfl) ?_
      obtain ⟨M_4, c_5, h⟩ := fp_b1_s h
      refine fp_callVv (As := []) (rest := []) E hG (c_X12_remember l D G B c_5) cv_X12_remember tw_1019 tw_1021 ts_34 ⟨rfl, rfl⟩ ⟨Nat.le_of_ble_eq_true rfl, Nat.le_of_ble_eq_true rfl⟩ (fp_recv E hG (by decide) (fp_o12 _) rfl) rfl rfl (Nat.le_of_ble_eq_true rfl) hl.1 dX12_go_27 ⟨Nat.zero_le _, Nat.zero_le _⟩ (fun H locs hG => ?_)
      refine lv_aload_n hx hb dX12_go_30 rfl (lv_at hl 0 rfl) ?_
      refine fp_g12_5 E hG tw_810 dX12_go_31 ?_
      refine lv_bipush (v := (nI 9)) hx hb dX12_go_34 (by decide) ?_
      refine lv_iload_n hx hb dX12_go_36 rfl (lv_at hl 1 rfl) ?_
      refine lv_iadd hx hb dX12_go_37 ?_
      refine lv_dup2_11 hx hb dX12_go_38 rfl rfl ?_
      obtain ⟨g_6, h⟩ := fp_gd_s h
      refine fp_iald E hG fp_cc123.1 (fp_a28 fp_cc123) (fp_in_s g_6) dX12_go_39 ?_
      refine lv_iconst (v := (nI 1)) hx hb dX12_go_40 (by decide) ?_
      refine lv_isub hx hb dX12_go_41 ?_
      obtain ⟨g_7, h⟩ := fp_gd_s h
      obtain ⟨M_8, eM_8, h⟩ := fp_lt_s h
      refine fp_iast E hG fp_cc123.1 (fp_a28 fp_cc123) (fp_in_s g_7) dX12_go_42 (fun H locs hG => ?_)
      replace hG := fp_memH eM_8 hG
      refine lv_aload_n hx hb dX12_go_43 rfl (lv_at hl 0 rfl) ?_
      refine fp_g12_5 E hG tw_810 dX12_go_44 ?_
      refine lv_bipush (v := (nI 9)) hx hb dX12_go_47 (by decide) ?_
      refine lv_iload_n hx hb dX12_go_49 rfl (lv_at hl 1 rfl) ?_
      refine lv_iadd hx hb dX12_go_50 ?_
      obtain ⟨g_9, h⟩ := fp_gd_s h
      refine fp_iald E hG fp_cc123.1 (fp_a28 fp_cc123) (fp_in_s g_9) dX12_go_51 ?_
      exact fp_ireti E hG (fp_pr1 h) (fp_pr2 h) dX12_go_52
    · replace h := fp_ifT q h
      refine lv_ldc (v := (-1000000003 : Int32)) hx hb hown (fp_tabs E tw_1040) dX12_go_23 ?_
      exact fp_ireti E hG (fp_pr1 h) (fp_pr2 h) dX12_go_25
  · replace h := fp_ifT q h
    refine lv_ldc (v := (-1000000001 : Int32)) hx hb hown (fp_tabs E tw_1010) dX12_go_8 ?_
    exact fp_ireti E hG (fp_pr1 h) (fp_pr2 h) dX12_go_10
theorem c_X12_go (l : Launch) (D : va_G) (G : Nat → ClassId) (B : Nat) {M : fp_Mem}  {p1 : Int32} {r : Int32} {M' : fp_Mem}  (h : m_X12_go M p1 = some (r, M')) : Met l yX12_go (Cond.code yX12_go cX12_go 2 (some .int) :: fp_T) rm_X12_go (va_Pc [.ref (B + 120), .int p1] (fp_GS D G B M)) (fp_Qi D G B r M') 0 0 (fp_A B) :=
  fp_met (own := RX12) (by decide) rfl (Nat.le_of_ble_eq_true rfl) (fun E hG hl => w_X12_go_0 E  hG hl h)
abbrev rm_X12_build : Room := { frames := 2, cells := 0, slots := 0, locals := 46 }
theorem cv_X12_build : fp_CV yX12_build cX12_build 2 (some .int) 1 := ⟨tw_1044, tw_13, by decide, by decide +kernel⟩
set_option maxHeartbeats 2000000 in
theorem w_X12_build_32 {p : Program} {l : Launch} {e : Env} {s : State} {m : MethodId} {args : Array Value} {below : List Frame} {meth : Method} {c : Code} {D : va_G} {G : Nat → ClassId} {B : Nat} {p1 : Int32} {r : Int32} {M' : fp_Mem} (E : fp_EV p s m args meth c cX12_build 2 RX12 (some .int) D G) (M : fp_Mem) {H : Heap} {locs : List Loc} {ls : Array Slot} (hG : fp_H D G B s M H locs) (hl : lv_has ls 2 []) (h : m_X12_build_32 p1 M = some (r, M')) : W p l e rm_X12_build s m args below meth c H locs 0 0 (MQ below (fp_Qi D G B r M') args s 0 0 (fp_A B)) (F0 m 32 ls []) := by
  have hx := E.1
  have hb := E.2.1
  have hown := E.2.2.2.1
  unfold m_X12_build_32 at h
  refine lv_ldc (v := (-1000000003 : Int32)) hx hb hown (fp_tabs E tw_1040) dX12_build_32 ?_
  exact fp_ireti E hG (fp_pr1 h) (fp_pr2 h) dX12_build_34
set_option maxHeartbeats 2000000 in
theorem w_X12_build_0 {p : Program} {l : Launch} {e : Env} {s : State} {m : MethodId} {args : Array Value} {below : List Frame} {meth : Method} {c : Code} {D : va_G} {G : Nat → ClassId} {B : Nat} {p1 : Int32} {r : Int32} {M' : fp_Mem} (E : fp_EV p s m args meth c cX12_build 2 RX12 (some .int) D G) {M : fp_Mem} {H : Heap} {locs : List Loc} {ls : Array Slot} (hG : fp_H D G B s M H locs) (hl : lv_has ls 2 [(0, .ref (B + 120)), (1, .int p1)]) (h : m_X12_build M p1 = some (r, M')) : W p l e rm_X12_build s m args below meth c H locs 0 0 (MQ below (fp_Qi D G B r M') args s 0 0 (fp_A B)) (F0 m 0 ls []) := by
  have hx := E.1
  have hb := E.2.1
  have hown := E.2.2.2.1
  unfold m_X12_build at h
  refine lv_aload_n hx hb dX12_build_0 rfl (lv_at hl 0 rfl) ?_
  refine lv_iload_n hx hb dX12_build_1 rfl (lv_at hl 1 rfl) ?_
  obtain ⟨r_1, c_2, h⟩ := fp_b1_s h
  refine fp_callVi (As := [.int p1]) (rest := []) E hG (c_X12_isTable l D G B c_2) cv_X12_isTable tw_1006 tw_1008 ts_33 ⟨rfl, rfl⟩ ⟨Nat.le_of_ble_eq_true rfl, Nat.le_of_ble_eq_true rfl⟩ (fp_recv E hG (by decide) (fp_o12 _) rfl) rfl rfl (Nat.le_of_ble_eq_true rfl) hl.1 dX12_build_2 ⟨Nat.zero_le _, Nat.zero_le _⟩ (fun H locs hG => ?_)
  refine lv_if_ne (tgt := 11) hx hb dX12_build_5 (by decide) (fun q => ?_) (fun q => ?_)
  · replace h := fp_ifF q h
    refine lv_aload_n hx hb dX12_build_11 rfl (lv_at hl 0 rfl) ?_
    refine fp_g12_5 E hG tw_810 dX12_build_12 ?_
    refine lv_bipush (v := (nI 18)) hx hb dX12_build_15 (by decide) ?_
    obtain ⟨g_3, h⟩ := fp_gd_s h
    refine fp_iald E hG fp_cc123.1 (fp_a28 fp_cc123) (fp_in_s g_3) dX12_build_17 ?_
    refine lv_if_eq (tgt := 32) hx hb dX12_build_18 (by decide) (fun q => ?_) (fun q => ?_)
    · replace h := fp_ifT q h
      exact w_X12_build_32 E   _ hG (lv_sub hl [] rfl) h
    · replace h := fp_ifF q h
      refine lv_aload_n hx hb dX12_build_21 rfl (lv_at hl 0 rfl) ?_
      refine fp_g12_5 E hG tw_810 dX12_build_22 ?_
      refine lv_iload_n hx hb dX12_build_25 rfl (lv_at hl 1 rfl) ?_
      obtain ⟨g_4, h⟩ := fp_gd_s h
      refine fp_iald E hG fp_cc123.1 (fp_a28 fp_cc123) (fp_in_s g_4) dX12_build_26 ?_
      refine lv_bipush (v := (nI 20)) hx hb dX12_build_27 (by decide) ?_
      refine lv_icmp_ne (tgt := 35) hx hb dX12_build_29 (by decide) (fun q => ?_) (fun q => ?_)
      · replace h := fp_ifF q h
        refine lv_aload_n hx hb dX12_build_35 rfl (lv_at hl 0 rfl) ?_
        obtain ⟨M_5, c_6, h⟩ := fp_b1_s h
        refine fp_callVv (As := []) (rest := []) E hG (c_X12_remember l D G B c_6) cv_X12_remember tw_1019 tw_1021 ts_34 ⟨rfl, rfl⟩ ⟨Nat.le_of_ble_eq_true rfl, Nat.le_of_ble_eq_true rfl⟩ (fp_recv E hG (by decide) (fp_o12 _) rfl) rfl rfl (Nat.le_of_ble_eq_true rfl) hl.1 dX12_build_36 ⟨Nat.zero_le _, Nat.zero_le _⟩ (fun H locs hG => ?_)
        refine lv_aload_n hx hb dX12_build_39 rfl (lv_at hl 0 rfl) ?_
        refine fp_g12_5 E hG tw_810 dX12_build_40 ?_
        refine lv_bipush (v := (nI 18)) hx hb dX12_build_43 (by decide) ?_
        refine lv_dup2_11 hx hb dX12_build_45 rfl rfl ?_
        obtain ⟨g_7, h⟩ := fp_gd_s h
        refine fp_iald E hG fp_cc123.1 (fp_a28 fp_cc123) (fp_in_s g_7) dX12_build_46 ?_
        refine lv_iconst (v := (nI 1)) hx hb dX12_build_47 (by decide) ?_
        refine lv_isub hx hb dX12_build_48 ?_
        obtain ⟨g_8, h⟩ := fp_gd_s h
        obtain ⟨M_9, eM_9, h⟩ := fp_lt_s h
        refine fp_iast E hG fp_cc123.1 (fp_a28 fp_cc123) (fp_in_s g_8) dX12_build_49 (fun H locs hG => ?_)
        replace hG := fp_memH eM_9 hG
        refine lv_aload_n hx hb dX12_build_50 rfl (lv_at hl 0 rfl) ?_
        refine fp_g12_5 E hG tw_810 dX12_build_51 ?_
        refine lv_iload_n hx hb dX12_build_54 rfl (lv_at hl 1 rfl) ?_
        refine lv_dup2_11 hx hb dX12_build_55 rfl rfl ?_
        obtain ⟨g_10, h⟩ := fp_gd_s h
        refine fp_iald E hG fp_cc123.1 (fp_a28 fp_cc123) (fp_in_s g_10) dX12_build_56 ?_
        refine lv_iconst (v := (nI 1)) hx hb dX12_build_57 (by decide) ?_
        refine lv_iadd hx hb dX12_build_58 ?_
        obtain ⟨g_11, h⟩ := fp_gd_s h
        obtain ⟨M_12, eM_12, h⟩ := fp_lt_s h
        refine fp_iast E hG fp_cc123.1 (fp_a28 fp_cc123) (fp_in_s g_11) dX12_build_59 (fun H locs hG => ?_)
        replace hG := fp_memH eM_12 hG
        refine lv_aload_n hx hb dX12_build_60 rfl (lv_at hl 0 rfl) ?_
        refine fp_g12_5 E hG tw_810 dX12_build_61 ?_
        refine lv_iload_n hx hb dX12_build_64 rfl (lv_at hl 1 rfl) ?_
        obtain ⟨g_13, h⟩ := fp_gd_s h
        refine fp_iald E hG fp_cc123.1 (fp_a28 fp_cc123) (fp_in_s g_13) dX12_build_65 ?_
        exact fp_ireti E hG (fp_pr1 h) (fp_pr2 h) dX12_build_66
      · replace h := fp_ifT q h
        exact w_X12_build_32 E   _ hG (lv_sub hl [] rfl) h
  · replace h := fp_ifT q h
    refine lv_ldc (v := (-1000000001 : Int32)) hx hb hown (fp_tabs E tw_1010) dX12_build_8 ?_
    exact fp_ireti E hG (fp_pr1 h) (fp_pr2 h) dX12_build_10
theorem c_X12_build (l : Launch) (D : va_G) (G : Nat → ClassId) (B : Nat) {M : fp_Mem}  {p1 : Int32} {r : Int32} {M' : fp_Mem}  (h : m_X12_build M p1 = some (r, M')) : Met l yX12_build (Cond.code yX12_build cX12_build 2 (some .int) :: fp_T) rm_X12_build (va_Pc [.ref (B + 120), .int p1] (fp_GS D G B M)) (fp_Qi D G B r M') 0 0 (fp_A B) :=
  fp_met (own := RX12) (by decide) rfl (Nat.le_of_ble_eq_true rfl) (fun E hG hl => w_X12_build_0 E  hG hl h)
abbrev rm_X12_breakOne : Room := { frames := 2, cells := 0, slots := 0, locals := 46 }
theorem cv_X12_breakOne : fp_CV yX12_breakOne cX12_breakOne 2 (some .int) 1 := ⟨tw_1048, tw_13, by decide, by decide +kernel⟩
set_option maxHeartbeats 2000000 in
theorem w_X12_breakOne_0 {p : Program} {l : Launch} {e : Env} {s : State} {m : MethodId} {args : Array Value} {below : List Frame} {meth : Method} {c : Code} {D : va_G} {G : Nat → ClassId} {B : Nat} {p1 : Int32} {r : Int32} {M' : fp_Mem} (E : fp_EV p s m args meth c cX12_breakOne 2 RX12 (some .int) D G) {M : fp_Mem} {H : Heap} {locs : List Loc} {ls : Array Slot} (hG : fp_H D G B s M H locs) (hl : lv_has ls 2 [(0, .ref (B + 120)), (1, .int p1)]) (h : m_X12_breakOne M p1 = some (r, M')) : W p l e rm_X12_breakOne s m args below meth c H locs 0 0 (MQ below (fp_Qi D G B r M') args s 0 0 (fp_A B)) (F0 m 0 ls []) := by
  have hx := E.1
  have hb := E.2.1
  have hown := E.2.2.2.1
  unfold m_X12_breakOne at h
  refine lv_aload_n hx hb dX12_breakOne_0 rfl (lv_at hl 0 rfl) ?_
  refine lv_iload_n hx hb dX12_breakOne_1 rfl (lv_at hl 1 rfl) ?_
  obtain ⟨r_1, c_2, h⟩ := fp_b1_s h
  refine fp_callVi (As := [.int p1]) (rest := []) E hG (c_X12_isTable l D G B c_2) cv_X12_isTable tw_1006 tw_1008 ts_33 ⟨rfl, rfl⟩ ⟨Nat.le_of_ble_eq_true rfl, Nat.le_of_ble_eq_true rfl⟩ (fp_recv E hG (by decide) (fp_o12 _) rfl) rfl rfl (Nat.le_of_ble_eq_true rfl) hl.1 dX12_breakOne_2 ⟨Nat.zero_le _, Nat.zero_le _⟩ (fun H locs hG => ?_)
  refine lv_if_ne (tgt := 11) hx hb dX12_breakOne_5 (by decide) (fun q => ?_) (fun q => ?_)
  · replace h := fp_ifF q h
    refine lv_aload_n hx hb dX12_breakOne_11 rfl (lv_at hl 0 rfl) ?_
    refine lv_iload_n hx hb dX12_breakOne_12 rfl (lv_at hl 1 rfl) ?_
    obtain ⟨r_3, c_4, h⟩ := fp_b1_s h
    refine fp_callVi (As := [.int p1]) (rest := []) E hG (c_X12_free l D G B c_4) cv_X12_free tw_983 tw_985 ts_29 ⟨rfl, rfl⟩ ⟨Nat.le_of_ble_eq_true rfl, Nat.le_of_ble_eq_true rfl⟩ (fp_recv E hG (by decide) (fp_o12 _) rfl) rfl rfl (Nat.le_of_ble_eq_true rfl) hl.1 dX12_breakOne_13 ⟨Nat.zero_le _, Nat.zero_le _⟩ (fun H locs hG => ?_)
    refine lv_iconst (v := (nI 1)) hx hb dX12_breakOne_16 (by decide) ?_
    refine lv_icmp_ge (tgt := 23) hx hb dX12_breakOne_17 (by decide) (fun q => ?_) (fun q => ?_)
    · replace h := fp_ifT q h
      refine lv_aload_n hx hb dX12_breakOne_23 rfl (lv_at hl 0 rfl) ?_
      obtain ⟨M_5, c_6, h⟩ := fp_b1_s h
      refine fp_callVv (As := []) (rest := []) E hG (c_X12_remember l D G B c_6) cv_X12_remember tw_1019 tw_1021 ts_34 ⟨rfl, rfl⟩ ⟨Nat.le_of_ble_eq_true rfl, Nat.le_of_ble_eq_true rfl⟩ (fp_recv E hG (by decide) (fp_o12 _) rfl) rfl rfl (Nat.le_of_ble_eq_true rfl) hl.1 dX12_breakOne_24 ⟨Nat.zero_le _, Nat.zero_le _⟩ (fun H locs hG => ?_)
      refine lv_aload_n hx hb dX12_breakOne_27 rfl (lv_at hl 0 rfl) ?_
      refine fp_g12_5 E hG tw_810 dX12_breakOne_28 ?_
      refine lv_iload_n hx hb dX12_breakOne_31 rfl (lv_at hl 1 rfl) ?_
      refine lv_dup2_11 hx hb dX12_breakOne_32 rfl rfl ?_
      obtain ⟨g_7, h⟩ := fp_gd_s h
      refine fp_iald E hG fp_cc123.1 (fp_a28 fp_cc123) (fp_in_s g_7) dX12_breakOne_33 ?_
      refine lv_iconst (v := (nI 1)) hx hb dX12_breakOne_34 (by decide) ?_
      refine lv_isub hx hb dX12_breakOne_35 ?_
      obtain ⟨g_8, h⟩ := fp_gd_s h
      obtain ⟨M_9, eM_9, h⟩ := fp_lt_s h
      refine fp_iast E hG fp_cc123.1 (fp_a28 fp_cc123) (fp_in_s g_8) dX12_breakOne_36 (fun H locs hG => ?_)
      replace hG := fp_memH eM_9 hG
      refine lv_aload_n hx hb dX12_breakOne_37 rfl (lv_at hl 0 rfl) ?_
      refine fp_g12_5 E hG tw_810 dX12_breakOne_38 ?_
      refine lv_iload_n hx hb dX12_breakOne_41 rfl (lv_at hl 1 rfl) ?_
      obtain ⟨g_10, h⟩ := fp_gd_s h
      refine fp_iald E hG fp_cc123.1 (fp_a28 fp_cc123) (fp_in_s g_10) dX12_breakOne_42 ?_
      exact fp_ireti E hG (fp_pr1 h) (fp_pr2 h) dX12_breakOne_43
    · replace h := fp_ifF q h
      refine lv_ldc (v := (-1000000003 : Int32)) hx hb hown (fp_tabs E tw_1040) dX12_breakOne_20 ?_
      exact fp_ireti E hG (fp_pr1 h) (fp_pr2 h) dX12_breakOne_22
  · replace h := fp_ifT q h
    refine lv_ldc (v := (-1000000001 : Int32)) hx hb hown (fp_tabs E tw_1010) dX12_breakOne_8 ?_
    exact fp_ireti E hG (fp_pr1 h) (fp_pr2 h) dX12_breakOne_10
theorem c_X12_breakOne (l : Launch) (D : va_G) (G : Nat → ClassId) (B : Nat) {M : fp_Mem}  {p1 : Int32} {r : Int32} {M' : fp_Mem}  (h : m_X12_breakOne M p1 = some (r, M')) : Met l yX12_breakOne (Cond.code yX12_breakOne cX12_breakOne 2 (some .int) :: fp_T) rm_X12_breakOne (va_Pc [.ref (B + 120), .int p1] (fp_GS D G B M)) (fp_Qi D G B r M') 0 0 (fp_A B) :=
  fp_met (own := RX12) (by decide) rfl (Nat.le_of_ble_eq_true rfl) (fun E hG hl => w_X12_breakOne_0 E  hG hl h)
abbrev rm_X12_shut : Room := { frames := 1, cells := 0, slots := 0, locals := 25 }
theorem cv_X12_shut : fp_CV yX12_shut cX12_shut 4 (some .int) 2 := ⟨tw_1052, tw_13, by decide, by decide +kernel⟩
set_option maxHeartbeats 2000000 in
theorem w_X12_shut_72 {p : Program} {l : Launch} {e : Env} {s : State} {m : MethodId} {args : Array Value} {below : List Frame} {meth : Method} {c : Code} {D : va_G} {G : Nat → ClassId} {B : Nat} {p1 : Int32} {p2 : Int32} {r : Int32} {M' : fp_Mem} (E : fp_EV p s m args meth c cX12_shut 4 RX12 (some .int) D G) (v3 : Int32) (s1 : Int32) (s2 : Int32) (M : fp_Mem) {H : Heap} {locs : List Loc} {ls : Array Slot} (hG : fp_H D G B s M H locs) (hl : lv_has ls 4 [(3, .int v3)]) (h : m_X12_shut_72 p1 p2 v3 s1 s2 M = some (r, M')) : W p l e rm_X12_shut s m args below meth c H locs 0 0 (MQ below (fp_Qi D G B r M') args s 0 0 (fp_A B)) (F0 m 72 ls [.int s2, .int s1, .ref (B + 123)]) := by
  have hx := E.1
  have hb := E.2.1
  have hown := E.2.2.2.1
  unfold m_X12_shut_72 at h
  obtain ⟨g_1, h⟩ := fp_gd_s h
  obtain ⟨M_2, eM_2, h⟩ := fp_lt_s h
  refine fp_iast E hG fp_cc123.1 (fp_a28 fp_cc123) (fp_in_s g_1) dX12_shut_72 (fun H locs hG => ?_)
  replace hG := fp_memH eM_2 hG
  refine lv_iload_n hx hb dX12_shut_73 rfl (lv_at hl 0 rfl) ?_
  exact fp_ireti E hG (fp_pr1 h) (fp_pr2 h) dX12_shut_74
set_option maxHeartbeats 2000000 in
theorem w_X12_shut_0 {p : Program} {l : Launch} {e : Env} {s : State} {m : MethodId} {args : Array Value} {below : List Frame} {meth : Method} {c : Code} {D : va_G} {G : Nat → ClassId} {B : Nat} {p1 : Int32} {p2 : Int32} {r : Int32} {M' : fp_Mem} (E : fp_EV p s m args meth c cX12_shut 4 RX12 (some .int) D G) {M : fp_Mem} {H : Heap} {locs : List Loc} {ls : Array Slot} (hG : fp_H D G B s M H locs) (hl : lv_has ls 4 [(0, .ref (B + 120)), (1, .int p1), (2, .int p2)]) (h : m_X12_shut M p1 p2 = some (r, M')) : W p l e rm_X12_shut s m args below meth c H locs 0 0 (MQ below (fp_Qi D G B r M') args s 0 0 (fp_A B)) (F0 m 0 ls []) := by
  have hx := E.1
  have hb := E.2.1
  have hown := E.2.2.2.1
  unfold m_X12_shut at h
  refine lv_iload_n hx hb dX12_shut_0 rfl (lv_at hl 1 rfl) ?_
  refine lv_i2l hx hb dX12_shut_1 rfl ?_
  refine lv_lconst (v := (lN 0)) hx hb dX12_shut_2 (by decide) ?_
  refine lv_aload_n hx hb dX12_shut_3 rfl (lv_at hl 0 rfl) ?_
  refine fp_g12_2 E hG tw_807 dX12_shut_4 ?_
  refine lv_iconst (v := (nI 1)) hx hb dX12_shut_7 (by decide) ?_
  refine lv_isub hx hb dX12_shut_8 ?_
  refine lv_i2l hx hb dX12_shut_9 rfl ?_
  obtain ⟨r_3, c_4, h⟩ := fp_b1_s h
  refine fp_callSi (As := [.long (Int32.toInt64 p1), .long (lN 0), .long (Int32.toInt64 ((M 120 2) - (nI 1)))]) (rest := []) E hG (c_X12_in l D G B c_4) cv_X12_in tw_916 tw_917 ⟨rfl, rfl⟩ ⟨Nat.le_of_ble_eq_true rfl, Nat.le_of_ble_eq_true rfl⟩ rfl rfl (Nat.le_of_ble_eq_true rfl) hl.1 dX12_shut_10 ⟨Nat.zero_le _, Nat.zero_le _⟩ (fun H locs hG => ?_)
  refine lv_if_ne (tgt := 19) hx hb dX12_shut_13 (by decide) (fun q => ?_) (fun q => ?_)
  · replace h := fp_ifF q h
    refine lv_aload_n hx hb dX12_shut_19 rfl (lv_at hl 0 rfl) ?_
    obtain ⟨M_5, c_6, h⟩ := fp_b1_s h
    refine fp_callVv (As := []) (rest := []) E hG (c_X12_remember l D G B c_6) cv_X12_remember tw_1019 tw_1021 ts_34 ⟨rfl, rfl⟩ ⟨Nat.le_of_ble_eq_true rfl, Nat.le_of_ble_eq_true rfl⟩ (fp_recv E hG (by decide) (fp_o12 _) rfl) rfl rfl (Nat.le_of_ble_eq_true rfl) hl.1 dX12_shut_20 ⟨Nat.zero_le _, Nat.zero_le _⟩ (fun H locs hG => ?_)
    refine lv_aload_n hx hb dX12_shut_23 rfl (lv_at hl 0 rfl) ?_
    refine fp_g12_5 E hG tw_810 dX12_shut_24 ?_
    refine lv_bipush (v := (nI 19)) hx hb dX12_shut_27 (by decide) ?_
    obtain ⟨g_7, h⟩ := fp_gd_s h
    refine fp_iald E hG fp_cc123.1 (fp_a28 fp_cc123) (fp_in_s g_7) dX12_shut_29 ?_
    refine lv_iload_n hx hb dX12_shut_30 rfl (lv_at hl 1 rfl) ?_
    refine lv_ishr hx hb dX12_shut_31 ?_
    refine lv_iconst (v := (nI 1)) hx hb dX12_shut_32 (by decide) ?_
    refine lv_iand hx hb dX12_shut_33 ?_
    obtain ⟨x_8, ex_8, h⟩ := fp_lt_s h
    refine fp_top ex_8 ?_
    refine lv_istore_n (lv' := [(3, .int x_8), (0, .ref (B + 120)), (1, .int p1), (2, .int p2)]) hx hb dX12_shut_34 rfl hl (by decide) rfl (fun ls hl => ?_)
    refine lv_aload_n hx hb dX12_shut_35 rfl (lv_at hl 1 rfl) ?_
    refine fp_g12_5 E hG tw_810 dX12_shut_36 ?_
    refine lv_bipush (v := (nI 19)) hx hb dX12_shut_39 (by decide) ?_
    refine lv_iload_n hx hb dX12_shut_41 rfl (lv_at hl 3 rfl) ?_
    refine lv_if_eq (tgt := 59) hx hb dX12_shut_42 (by decide) (fun q => ?_) (fun q => ?_)
    · replace h := fp_ifT q h
      refine lv_aload_n hx hb dX12_shut_59 rfl (lv_at hl 1 rfl) ?_
      refine fp_g12_5 E hG tw_810 dX12_shut_60 ?_
      refine lv_bipush (v := (nI 19)) hx hb dX12_shut_63 (by decide) ?_
      obtain ⟨g_9, h⟩ := fp_gd_s h
      refine fp_iald E hG fp_cc123.1 (fp_a28 fp_cc123) (fp_in_s g_9) dX12_shut_65 ?_
      refine lv_iconst (v := (nI 1)) hx hb dX12_shut_66 (by decide) ?_
      refine lv_iload_n hx hb dX12_shut_67 rfl (lv_at hl 2 rfl) ?_
      refine lv_ishl hx hb dX12_shut_68 ?_
      refine lv_iconst (v := (-1 : Int32)) hx hb dX12_shut_69 (by decide) ?_
      refine lv_ixor hx hb dX12_shut_70 ?_
      refine lv_iand hx hb dX12_shut_71 ?_
      exact w_X12_shut_72 E   _ _ _ _ hG (lv_sub hl [0] rfl) h
    · replace h := fp_ifF q h
      refine lv_aload_n hx hb dX12_shut_45 rfl (lv_at hl 1 rfl) ?_
      refine fp_g12_5 E hG tw_810 dX12_shut_46 ?_
      refine lv_bipush (v := (nI 19)) hx hb dX12_shut_49 (by decide) ?_
      obtain ⟨g_10, h⟩ := fp_gd_s h
      refine fp_iald E hG fp_cc123.1 (fp_a28 fp_cc123) (fp_in_s g_10) dX12_shut_51 ?_
      refine lv_iconst (v := (nI 1)) hx hb dX12_shut_52 (by decide) ?_
      refine lv_iload_n hx hb dX12_shut_53 rfl (lv_at hl 2 rfl) ?_
      refine lv_ishl hx hb dX12_shut_54 ?_
      refine lv_ior hx hb dX12_shut_55 ?_
      refine lv_goto (tgt := 72) hx hb dX12_shut_56 (by decide) ?_
      exact w_X12_shut_72 E   _ _ _ _ hG (lv_sub hl [0] rfl) h
  · replace h := fp_ifT q h
    refine lv_ldc (v := (-1000000001 : Int32)) hx hb hown (fp_tabs E tw_1010) dX12_shut_16 ?_
    exact fp_ireti E hG (fp_pr1 h) (fp_pr2 h) dX12_shut_18
theorem c_X12_shut (l : Launch) (D : va_G) (G : Nat → ClassId) (B : Nat) {M : fp_Mem}  {p1 : Int32} {p2 : Int32} {r : Int32} {M' : fp_Mem}  (h : m_X12_shut M p1 p2 = some (r, M')) : Met l yX12_shut (Cond.code yX12_shut cX12_shut 4 (some .int) :: fp_T) rm_X12_shut (va_Pc [.ref (B + 120), .int p1, .int p2] (fp_GS D G B M)) (fp_Qi D G B r M') 0 0 (fp_A B) :=
  fp_met (own := RX12) (by decide) rfl (Nat.le_of_ble_eq_true rfl) (fun E hG hl => w_X12_shut_0 E  hG hl h)
abbrev rm_X12_draw : Room := { frames := 0, cells := 0, slots := 0, locals := 0 }
theorem cv_X12_draw : fp_CV yX12_draw cX12_draw 2 (some .int) 1 := ⟨tw_1065, tw_13, by decide, by decide +kernel⟩
set_option maxHeartbeats 2000000 in
theorem w_X12_draw_0 {p : Program} {l : Launch} {e : Env} {s : State} {m : MethodId} {args : Array Value} {below : List Frame} {meth : Method} {c : Code} {D : va_G} {G : Nat → ClassId} {B : Nat} {p1 : Int32} {r : Int32} {M' : fp_Mem} (E : fp_EV p s m args meth c cX12_draw 2 RX12 (some .int) D G) {M : fp_Mem} {H : Heap} {locs : List Loc} {ls : Array Slot} (hG : fp_H D G B s M H locs) (hl : lv_has ls 2 [(0, .ref (B + 120)), (1, .int p1)]) (h : m_X12_draw M p1 = some (r, M')) : W p l e rm_X12_draw s m args below meth c H locs 0 0 (MQ below (fp_Qi D G B r M') args s 0 0 (fp_A B)) (F0 m 0 ls []) := by
  have hx := E.1
  have hb := E.2.1
  have hown := E.2.2.2.1
  unfold m_X12_draw at h
  refine lv_aload_n hx hb dX12_draw_0 rfl (lv_at hl 0 rfl) ?_
  refine lv_aload_n hx hb dX12_draw_1 rfl (lv_at hl 0 rfl) ?_
  refine fp_g12_6 E hG tw_811 dX12_draw_2 ?_
  refine lv_i2l hx hb dX12_draw_5 rfl ?_
  refine lv_ldc2 (v := (lN 1103515245)) hx hb hown (fp_tabs E tw_1066) dX12_draw_6 ?_
  refine lv_lmul hx hb dX12_draw_9 ?_
  refine lv_ldc2 (v := (lN 12345)) hx hb hown (fp_tabs E tw_1067) dX12_draw_10 ?_
  refine lv_ladd hx hb dX12_draw_13 ?_
  refine lv_ldc2 (v := (lN 2147483648)) hx hb hown (fp_tabs E tw_1068) dX12_draw_14 ?_
  refine lv_lrem hx hb dX12_draw_17 (by decide) ?_
  refine lv_l2i hx hb dX12_draw_18 rfl ?_
  obtain ⟨M_1, eM_1, h⟩ := fp_lt_s h
  refine fp_p12_6 E hG tw_811 dX12_draw_19 (fun H locs hG => ?_)
  replace hG := fp_memH eM_1 hG
  refine lv_aload_n hx hb dX12_draw_22 rfl (lv_at hl 0 rfl) ?_
  refine fp_g12_6 E hG tw_811 dX12_draw_23 ?_
  refine lv_ldc (v := (nI 65536)) hx hb hown (fp_tabs E tw_1069) dX12_draw_26 ?_
  refine lv_idiv hx hb dX12_draw_28 (by decide) ?_
  refine lv_iload_n hx hb dX12_draw_29 rfl (lv_at hl 1 rfl) ?_
  obtain ⟨g_2, h⟩ := fp_gd_s h
  refine lv_irem hx hb dX12_draw_30 (of_decide_eq_true g_2) ?_
  exact fp_ireti E hG (fp_pr1 h) (fp_pr2 h) dX12_draw_31
theorem c_X12_draw (l : Launch) (D : va_G) (G : Nat → ClassId) (B : Nat) {M : fp_Mem}  {p1 : Int32} {r : Int32} {M' : fp_Mem}  (h : m_X12_draw M p1 = some (r, M')) : Met l yX12_draw (Cond.code yX12_draw cX12_draw 2 (some .int) :: fp_T) rm_X12_draw (va_Pc [.ref (B + 120), .int p1] (fp_GS D G B M)) (fp_Qi D G B r M') 0 0 (fp_A B) :=
  fp_met (own := RX12) (by decide) rfl (Nat.le_of_ble_eq_true rfl) (fun E hG hl => w_X12_draw_0 E  hG hl h)
abbrev rm_X12_chance : Room := { frames := 5, cells := 0, slots := 0, locals := 112 }
theorem cv_X12_chance : fp_CV yX12_chance cX12_chance 3 none 0 := ⟨tw_1061, tw_13, by decide, by decide +kernel⟩
set_option maxHeartbeats 2000000 in
theorem w_X12_chance_57 {p : Program} {l : Launch} {e : Env} {s : State} {m : MethodId} {args : Array Value} {below : List Frame} {meth : Method} {c : Code} {D : va_G} {G : Nat → ClassId} {B : Nat} {M' : fp_Mem} (E : fp_EV p s m args meth c cX12_chance 3 RX12 none D G) (M : fp_Mem) {H : Heap} {locs : List Loc} {ls : Array Slot} (hG : fp_H D G B s M H locs) (hl : lv_has ls 3 []) (h : m_X12_chance_57 M = some M') : W p l e rm_X12_chance s m args below meth c H locs 0 0 (MQ below (fp_Qv D G B M') args s 0 0 (fp_A B)) (F0 m 57 ls []) := by
  have hx := E.1
  have hb := E.2.1
  have hown := E.2.2.2.1
  unfold m_X12_chance_57 at h
  exact fp_retv E hG (Option.some.inj h) dX12_chance_57
set_option maxHeartbeats 2000000 in
theorem w_X12_chance_46 {p : Program} {l : Launch} {e : Env} {s : State} {m : MethodId} {args : Array Value} {below : List Frame} {meth : Method} {c : Code} {D : va_G} {G : Nat → ClassId} {B : Nat} {M' : fp_Mem} (E : fp_EV p s m args meth c cX12_chance 3 RX12 none D G) (s1 : Int32) (s2 : Int32) (s3 : Int32) (M : fp_Mem) {H : Heap} {locs : List Loc} {ls : Array Slot} (hG : fp_H D G B s M H locs) (hl : lv_has ls 3 []) (h : m_X12_chance_46 s1 s2 s3 M = some M') : W p l e rm_X12_chance s m args below meth c H locs 0 0 (MQ below (fp_Qv D G B M') args s 0 0 (fp_A B)) (F0 m 46 ls [.int s3, .int s2, .int s1, .ref (B + 123)]) := by
  have hx := E.1
  have hb := E.2.1
  have hown := E.2.2.2.1
  unfold m_X12_chance_46 at h
  refine lv_isub hx hb dX12_chance_46 ?_
  obtain ⟨g_1, h⟩ := fp_gd_s h
  obtain ⟨M_2, eM_2, h⟩ := fp_lt_s h
  refine fp_iast E hG fp_cc123.1 (fp_a28 fp_cc123) (fp_in_s g_1) dX12_chance_47 (fun H locs hG => ?_)
  replace hG := fp_memH eM_2 hG
  refine lv_goto (tgt := 57) hx hb dX12_chance_48 (by decide) ?_
  exact w_X12_chance_57 E   _ hG (lv_sub hl [] rfl) h
set_option maxHeartbeats 2000000 in
theorem w_X12_chance_0 {p : Program} {l : Launch} {e : Env} {s : State} {m : MethodId} {args : Array Value} {below : List Frame} {meth : Method} {c : Code} {D : va_G} {G : Nat → ClassId} {B : Nat} {M' : fp_Mem} (E : fp_EV p s m args meth c cX12_chance 3 RX12 none D G) {M : fp_Mem} {H : Heap} {locs : List Loc} {ls : Array Slot} (hG : fp_H D G B s M H locs) (hl : lv_has ls 3 [(0, .ref (B + 120))]) (h : m_X12_chance M = some M') : W p l e rm_X12_chance s m args below meth c H locs 0 0 (MQ below (fp_Qv D G B M') args s 0 0 (fp_A B)) (F0 m 0 ls []) := by
  have hx := E.1
  have hb := E.2.1
  have hown := E.2.2.2.1
  unfold m_X12_chance at h
  refine lv_aload_n hx hb dX12_chance_0 rfl (lv_at hl 0 rfl) ?_
  refine lv_aload_n hx hb dX12_chance_1 rfl (lv_at hl 0 rfl) ?_
  refine fp_g12_1 E hG tw_806 dX12_chance_2 ?_
  obtain ⟨r_3, M_4, c_5, h⟩ := fp_b2_s h
  refine fp_callVi (As := [.int (M 120 1)]) (rest := []) E hG (c_X12_draw l D G B c_5) cv_X12_draw tw_1062 tw_1064 ts_39 ⟨rfl, rfl⟩ ⟨Nat.le_of_ble_eq_true rfl, Nat.le_of_ble_eq_true rfl⟩ (fp_recv E hG (by decide) (fp_o12 _) rfl) rfl rfl (Nat.le_of_ble_eq_true rfl) hl.1 dX12_chance_5 ⟨Nat.zero_le _, Nat.zero_le _⟩ (fun H locs hG => ?_)
  refine lv_istore_n (lv' := [(1, .int r_3), (0, .ref (B + 120))]) hx hb dX12_chance_8 rfl hl (by decide) rfl (fun ls hl => ?_)
  refine lv_aload_n hx hb dX12_chance_9 rfl (lv_at hl 1 rfl) ?_
  refine lv_iconst (v := (nI 3)) hx hb dX12_chance_10 (by decide) ?_
  obtain ⟨r_6, M_7, c_8, h⟩ := fp_b2_s h
  refine fp_callVi (As := [.int (nI 3)]) (rest := []) E hG (c_X12_draw l D G B c_8) cv_X12_draw tw_1062 tw_1064 ts_39 ⟨rfl, rfl⟩ ⟨Nat.le_of_ble_eq_true rfl, Nat.le_of_ble_eq_true rfl⟩ (fp_recv E hG (by decide) (fp_o12 _) rfl) rfl rfl (Nat.le_of_ble_eq_true rfl) hl.1 dX12_chance_11 ⟨Nat.zero_le _, Nat.zero_le _⟩ (fun H locs hG => ?_)
  refine lv_istore_n (lv' := [(2, .int r_6), (1, .int r_3), (0, .ref (B + 120))]) hx hb dX12_chance_14 rfl hl (by decide) rfl (fun ls hl => ?_)
  refine lv_iload_n hx hb dX12_chance_15 rfl (lv_at hl 0 rfl) ?_
  refine lv_if_ne (tgt := 51) hx hb dX12_chance_16 (by decide) (fun q => ?_) (fun q => ?_)
  · replace h := fp_ifF q h
    refine lv_aload_n hx hb dX12_chance_51 rfl (lv_at hl 2 rfl) ?_
    refine lv_iload_n hx hb dX12_chance_52 rfl (lv_at hl 1 rfl) ?_
    obtain ⟨r_9, M_10, c_11, h⟩ := fp_b2_s h
    refine fp_callVi (As := [.int r_3]) (rest := []) E hG (c_X12_guest l D G B c_11) cv_X12_guest tw_1023 tw_1025 ts_35 ⟨rfl, rfl⟩ ⟨Nat.le_of_ble_eq_true rfl, Nat.le_of_ble_eq_true rfl⟩ (fp_recv E hG (by decide) (fp_o12 _) rfl) rfl rfl (Nat.le_of_ble_eq_true rfl) hl.1 dX12_chance_53 ⟨Nat.zero_le _, Nat.zero_le _⟩ (fun H locs hG => ?_)
    refine lv_pop hx hb dX12_chance_56 rfl ?_
    exact w_X12_chance_57 E   _ hG (lv_sub hl [] rfl) h
  · replace h := fp_ifT q h
    refine lv_aload_n hx hb dX12_chance_19 rfl (lv_at hl 2 rfl) ?_
    refine fp_g12_5 E hG tw_810 dX12_chance_20 ?_
    refine lv_bipush (v := (nI 9)) hx hb dX12_chance_23 (by decide) ?_
    refine lv_iload_n hx hb dX12_chance_25 rfl (lv_at hl 1 rfl) ?_
    refine lv_iadd hx hb dX12_chance_26 ?_
    refine lv_dup2_11 hx hb dX12_chance_27 rfl rfl ?_
    obtain ⟨g_12, h⟩ := fp_gd_s h
    refine fp_iald E hG fp_cc123.1 (fp_a28 fp_cc123) (fp_in_s g_12) dX12_chance_28 ?_
    refine lv_aload_n hx hb dX12_chance_29 rfl (lv_at hl 2 rfl) ?_
    refine fp_g12_5 E hG tw_810 dX12_chance_30 ?_
    refine lv_bipush (v := (nI 9)) hx hb dX12_chance_33 (by decide) ?_
    refine lv_iload_n hx hb dX12_chance_35 rfl (lv_at hl 1 rfl) ?_
    refine lv_iadd hx hb dX12_chance_36 ?_
    obtain ⟨g_13, h⟩ := fp_gd_s h
    refine fp_iald E hG fp_cc123.1 (fp_a28 fp_cc123) (fp_in_s g_13) dX12_chance_37 ?_
    refine lv_if_le (tgt := 45) hx hb dX12_chance_38 (by decide) (fun q => ?_) (fun q => ?_)
    · replace h := fp_ifT q h
      refine lv_iconst (v := (nI 0)) hx hb dX12_chance_45 (by decide) ?_
      exact w_X12_chance_46 E   _ _ _ _ hG (lv_sub hl [] rfl) h
    · replace h := fp_ifF q h
      refine lv_iconst (v := (nI 1)) hx hb dX12_chance_41 (by decide) ?_
      refine lv_goto (tgt := 46) hx hb dX12_chance_42 (by decide) ?_
      exact w_X12_chance_46 E   _ _ _ _ hG (lv_sub hl [] rfl) h
theorem c_X12_chance (l : Launch) (D : va_G) (G : Nat → ClassId) (B : Nat) {M : fp_Mem}   {M' : fp_Mem}  (h : m_X12_chance M = some M') : Met l yX12_chance (Cond.code yX12_chance cX12_chance 3 none :: fp_T) rm_X12_chance (va_Pc [.ref (B + 120)] (fp_GS D G B M)) (fp_Qv D G B M') 0 0 (fp_A B) :=
  fp_met (own := RX12) (by decide) rfl (Nat.le_of_ble_eq_true rfl) (fun E hG hl => w_X12_chance_0 E  hG hl h)
abbrev rm_X12_drift : Room := { frames := 6, cells := 0, slots := 0, locals := 134 }
theorem cv_X12_drift : fp_CV yX12_drift cX12_drift 3 (some .int) 1 := ⟨tw_1056, tw_13, by decide, by decide +kernel⟩
set_option maxHeartbeats 2000000 in
theorem w_X12_drift_69 {p : Program} {l : Launch} {e : Env} {s : State} {m : MethodId} {args : Array Value} {below : List Frame} {meth : Method} {c : Code} {D : va_G} {G : Nat → ClassId} {B : Nat} {p1 : Int32} {r : Int32} {M' : fp_Mem} (E : fp_EV p s m args meth c cX12_drift 3 RX12 (some .int) D G) (M : fp_Mem) {H : Heap} {locs : List Loc} {ls : Array Slot} (hG : fp_H D G B s M H locs) (hl : lv_has ls 3 [(0, .ref (B + 120))]) (h : m_X12_drift_69 p1 M = some (r, M')) : W p l e rm_X12_drift s m args below meth c H locs 0 0 (MQ below (fp_Qi D G B r M') args s 0 0 (fp_A B)) (F0 m 69 ls []) := by
  have hx := E.1
  have hb := E.2.1
  have hown := E.2.2.2.1
  unfold m_X12_drift_69 at h
  refine lv_aload_n hx hb dX12_drift_69 rfl (lv_at hl 0 rfl) ?_
  obtain ⟨r_1, c_2, h⟩ := fp_b1_s h
  refine fp_callVi (As := []) (rest := []) E hG (c_X12_allSit l D G B c_2) cv_X12_allSit tw_975 tw_977 ts_27 ⟨rfl, rfl⟩ ⟨Nat.le_of_ble_eq_true rfl, Nat.le_of_ble_eq_true rfl⟩ (fp_recv E hG (by decide) (fp_o12 _) rfl) rfl rfl (Nat.le_of_ble_eq_true rfl) hl.1 dX12_drift_70 ⟨Nat.zero_le _, Nat.zero_le _⟩ (fun H locs hG => ?_)
  exact fp_ireti E hG (fp_pr1 h) (fp_pr2 h) dX12_drift_73
set_option maxHeartbeats 2000000 in
theorem w_X12_drift_47 {p : Program} {l : Launch} {e : Env} {s : State} {m : MethodId} {args : Array Value} {below : List Frame} {meth : Method} {c : Code} {D : va_G} {G : Nat → ClassId} {B : Nat} {p1 : Int32} {r : Int32} {M' : fp_Mem} (E : fp_EV p s m args meth c cX12_drift 3 RX12 (some .int) D G) : ∀ (n : Nat) (v2 : Int32) (M : fp_Mem) {H : Heap} {locs : List Loc} {ls : Array Slot}, fp_H D G B s M H locs → lv_has ls 3 [(0, .ref (B + 120)), (1, .int p1), (2, .int v2)] → m_X12_drift_47 p1 n v2 M = some (r, M') → W p l e rm_X12_drift s m args below meth c H locs 0 0 (MQ below (fp_Qi D G B r M') args s 0 0 (fp_A B)) (F0 m 47 ls []) := by
  have hx := E.1
  have hb := E.2.1
  have hown := E.2.2.2.1
  intro n
  induction n with
  | zero =>
    intro v2 M H locs ls hG hl h
    exact nomatch h
  | succ n ih =>
    have ihK := @ih
    intro v2 M H locs ls hG hl h
    rw [m_X12_drift_47] at h
    refine lv_iload_n hx hb dX12_drift_47 rfl (lv_at hl 2 rfl) ?_
    refine lv_iload_n hx hb dX12_drift_48 rfl (lv_at hl 1 rfl) ?_
    refine lv_icmp_ge (tgt := 69) hx hb dX12_drift_49 (by decide) (fun q => ?_) (fun q => ?_)
    · replace h := fp_ifT q h
      exact w_X12_drift_69 E   _ hG (lv_sub hl [0] rfl) h
    · replace h := fp_ifF q h
      refine lv_aload_n hx hb dX12_drift_52 rfl (lv_at hl 0 rfl) ?_
      refine fp_g12_1 E hG tw_806 dX12_drift_53 ?_
      refine lv_if_le (tgt := 69) hx hb dX12_drift_56 (by decide) (fun q => ?_) (fun q => ?_)
      · replace h := fp_ifT q h
        exact w_X12_drift_69 E   _ hG (lv_sub hl [0] rfl) h
      · replace h := fp_ifF q h
        refine lv_aload_n hx hb dX12_drift_59 rfl (lv_at hl 0 rfl) ?_
        obtain ⟨M_3, c_4, h⟩ := fp_b1_s h
        refine fp_callVv (As := []) (rest := []) E hG (c_X12_chance l D G B c_4) cv_X12_chance tw_1058 tw_1060 ts_38 ⟨rfl, rfl⟩ ⟨Nat.le_of_ble_eq_true rfl, Nat.le_of_ble_eq_true rfl⟩ (fp_recv E hG (by decide) (fp_o12 _) rfl) rfl rfl (Nat.le_of_ble_eq_true rfl) hl.1 dX12_drift_60 ⟨Nat.zero_le _, Nat.zero_le _⟩ (fun H locs hG => ?_)
        obtain ⟨x_5, ex_5, h⟩ := fp_lt_s h
        refine lv_iinc (v := x_5) (lv' := [(2, .int x_5), (0, .ref (B + 120)), (1, .int p1)]) hx hb dX12_drift_63 hl (k := 2) rfl (by rw [ex_5]; rfl) (by decide) rfl (fun ls hl => ?_)
        refine lv_goto (tgt := 47) hx hb dX12_drift_66 (by decide) ?_
        exact ih _ _ hG (lv_sub hl [1, 2, 0] rfl) h
set_option maxHeartbeats 2000000 in
theorem w_X12_drift_0 {p : Program} {l : Launch} {e : Env} {s : State} {m : MethodId} {args : Array Value} {below : List Frame} {meth : Method} {c : Code} {D : va_G} {G : Nat → ClassId} {B : Nat} {p1 : Int32} {r : Int32} {M' : fp_Mem} (E : fp_EV p s m args meth c cX12_drift 3 RX12 (some .int) D G) {M : fp_Mem} {H : Heap} {locs : List Loc} {ls : Array Slot} (hG : fp_H D G B s M H locs) (hl : lv_has ls 3 [(0, .ref (B + 120)), (1, .int p1)]) (h : m_X12_drift M p1 = some (r, M')) : W p l e rm_X12_drift s m args below meth c H locs 0 0 (MQ below (fp_Qi D G B r M') args s 0 0 (fp_A B)) (F0 m 0 ls []) := by
  have hx := E.1
  have hb := E.2.1
  have hown := E.2.2.2.1
  unfold m_X12_drift at h
  refine lv_iload_n hx hb dX12_drift_0 rfl (lv_at hl 1 rfl) ?_
  refine lv_i2l hx hb dX12_drift_1 rfl ?_
  refine lv_lconst (v := (lN 1)) hx hb dX12_drift_2 (by decide) ?_
  refine lv_ldc2 (v := (lN 60)) hx hb hown (fp_tabs E tw_1057) dX12_drift_3 ?_
  obtain ⟨r_6, c_7, h⟩ := fp_b1_s h
  refine fp_callSi (As := [.long (Int32.toInt64 p1), .long (lN 1), .long (lN 60)]) (rest := []) E hG (c_X12_in l D G B c_7) cv_X12_in tw_916 tw_917 ⟨rfl, rfl⟩ ⟨Nat.le_of_ble_eq_true rfl, Nat.le_of_ble_eq_true rfl⟩ rfl rfl (Nat.le_of_ble_eq_true rfl) hl.1 dX12_drift_6 ⟨Nat.zero_le _, Nat.zero_le _⟩ (fun H locs hG => ?_)
  refine lv_if_ne (tgt := 15) hx hb dX12_drift_9 (by decide) (fun q => ?_) (fun q => ?_)
  · replace h := fp_ifF q h
    refine lv_aload_n hx hb dX12_drift_15 rfl (lv_at hl 0 rfl) ?_
    refine fp_g12_7 E hG tw_812 dX12_drift_16 ?_
    refine lv_if_ne (tgt := 25) hx hb dX12_drift_19 (by decide) (fun q => ?_) (fun q => ?_)
    · replace h := fp_ifF q h
      refine lv_aload_n hx hb dX12_drift_25 rfl (lv_at hl 0 rfl) ?_
      refine fp_g12_5 E hG tw_810 dX12_drift_26 ?_
      refine lv_bipush (v := (nI 24)) hx hb dX12_drift_29 (by decide) ?_
      obtain ⟨g_8, h⟩ := fp_gd_s h
      refine fp_iald E hG fp_cc123.1 (fp_a28 fp_cc123) (fp_in_s g_8) dX12_drift_31 ?_
      refine lv_sipush (v := (nI 9000)) hx hb dX12_drift_32 (by decide) ?_
      refine lv_icmp_le (tgt := 41) hx hb dX12_drift_35 (by decide) (fun q => ?_) (fun q => ?_)
      · replace h := fp_ifT q h
        refine lv_aload_n hx hb dX12_drift_41 rfl (lv_at hl 0 rfl) ?_
        obtain ⟨M_9, c_10, h⟩ := fp_b1_s h
        refine fp_callVv (As := []) (rest := []) E hG (c_X12_remember l D G B c_10) cv_X12_remember tw_1019 tw_1021 ts_34 ⟨rfl, rfl⟩ ⟨Nat.le_of_ble_eq_true rfl, Nat.le_of_ble_eq_true rfl⟩ (fp_recv E hG (by decide) (fp_o12 _) rfl) rfl rfl (Nat.le_of_ble_eq_true rfl) hl.1 dX12_drift_42 ⟨Nat.zero_le _, Nat.zero_le _⟩ (fun H locs hG => ?_)
        refine lv_iconst (v := (nI 0)) hx hb dX12_drift_45 (by decide) ?_
        refine lv_istore_n (lv' := [(2, .int (nI 0)), (0, .ref (B + 120)), (1, .int p1)]) hx hb dX12_drift_46 rfl hl (by decide) rfl (fun ls hl => ?_)
        exact w_X12_drift_47 E   fp_fu _ _ hG (lv_sub hl [1, 2, 0] rfl) h
      · replace h := fp_ifF q h
        refine lv_ldc (v := (-1000000004 : Int32)) hx hb hown (fp_tabs E tw_920) dX12_drift_38 ?_
        exact fp_ireti E hG (fp_pr1 h) (fp_pr2 h) dX12_drift_40
    · replace h := fp_ifT q h
      refine lv_ldc (v := (-1000000003 : Int32)) hx hb hown (fp_tabs E tw_1040) dX12_drift_22 ?_
      exact fp_ireti E hG (fp_pr1 h) (fp_pr2 h) dX12_drift_24
  · replace h := fp_ifT q h
    refine lv_ldc (v := (-1000000002 : Int32)) hx hb hown (fp_tabs E tw_919) dX12_drift_12 ?_
    exact fp_ireti E hG (fp_pr1 h) (fp_pr2 h) dX12_drift_14
theorem c_X12_drift (l : Launch) (D : va_G) (G : Nat → ClassId) (B : Nat) {M : fp_Mem}  {p1 : Int32} {r : Int32} {M' : fp_Mem}  (h : m_X12_drift M p1 = some (r, M')) : Met l yX12_drift (Cond.code yX12_drift cX12_drift 3 (some .int) :: fp_T) rm_X12_drift (va_Pc [.ref (B + 120), .int p1] (fp_GS D G B M)) (fp_Qi D G B r M') 0 0 (fp_A B) :=
  fp_met (own := RX12) (by decide) rfl (Nat.le_of_ble_eq_true rfl) (fun E hG hl => w_X12_drift_0 E  hG hl h)
abbrev rm_X12_undo : Room := { frames := 0, cells := 0, slots := 0, locals := 0 }
theorem cv_X12_undo : fp_CV yX12_undo cX12_undo 2 (some .int) 0 := ⟨tw_1073, tw_13, by decide, by decide +kernel⟩
set_option maxHeartbeats 2000000 in
theorem w_X12_undo_22 {p : Program} {l : Launch} {e : Env} {s : State} {m : MethodId} {args : Array Value} {below : List Frame} {meth : Method} {c : Code} {D : va_G} {G : Nat → ClassId} {B : Nat} {r : Int32} {M' : fp_Mem} (E : fp_EV p s m args meth c cX12_undo 2 RX12 (some .int) D G) : ∀ (n : Nat) (v1 : Int32) (M : fp_Mem) {H : Heap} {locs : List Loc} {ls : Array Slot}, fp_H D G B s M H locs → lv_has ls 2 [(0, .ref (B + 120)), (1, .int v1)] → m_X12_undo_22 n v1 M = some (r, M') → W p l e rm_X12_undo s m args below meth c H locs 0 0 (MQ below (fp_Qi D G B r M') args s 0 0 (fp_A B)) (F0 m 22 ls []) := by
  have hx := E.1
  have hb := E.2.1
  have hown := E.2.2.2.1
  intro n
  induction n with
  | zero =>
    intro v1 M H locs ls hG hl h
    exact nomatch h
  | succ n ih =>
    have ihK := @ih
    intro v1 M H locs ls hG hl h
    rw [m_X12_undo_22] at h
    refine lv_iload_n hx hb dX12_undo_22 rfl (lv_at hl 1 rfl) ?_
    refine lv_bipush (v := (nI 25)) hx hb dX12_undo_23 (by decide) ?_
    refine lv_icmp_ge (tgt := 54) hx hb dX12_undo_25 (by decide) (fun q => ?_) (fun q => ?_)
    · replace h := fp_ifT q h
      refine lv_aload_n hx hb dX12_undo_54 rfl (lv_at hl 0 rfl) ?_
      refine fp_g12_23 E hG tw_828 dX12_undo_55 ?_
      exact fp_ireti E hG (fp_pr1 h) (fp_pr2 h) dX12_undo_58
    · replace h := fp_ifF q h
      refine lv_aload_n hx hb dX12_undo_28 rfl (lv_at hl 0 rfl) ?_
      refine fp_g12_5 E hG tw_810 dX12_undo_29 ?_
      refine lv_iload_n hx hb dX12_undo_32 rfl (lv_at hl 1 rfl) ?_
      refine lv_aload_n hx hb dX12_undo_33 rfl (lv_at hl 0 rfl) ?_
      refine fp_g12_24 E hG tw_829 dX12_undo_34 ?_
      refine lv_bipush (v := (nI 25)) hx hb dX12_undo_37 (by decide) ?_
      refine lv_aload_n hx hb dX12_undo_39 rfl (lv_at hl 0 rfl) ?_
      refine fp_g12_23 E hG tw_828 dX12_undo_40 ?_
      refine lv_imul hx hb dX12_undo_43 ?_
      refine lv_iload_n hx hb dX12_undo_44 rfl (lv_at hl 1 rfl) ?_
      refine lv_iadd hx hb dX12_undo_45 ?_
      obtain ⟨g_1, h⟩ := fp_gd_s h
      refine fp_iald E hG fp_cc131.1 (fp_a30 fp_cc131) (fp_in_s g_1) dX12_undo_46 ?_
      obtain ⟨g_2, h⟩ := fp_gd_s h
      obtain ⟨M_3, eM_3, h⟩ := fp_lt_s h
      refine fp_iast E hG fp_cc123.1 (fp_a28 fp_cc123) (fp_in_s g_2) dX12_undo_47 (fun H locs hG => ?_)
      replace hG := fp_memH eM_3 hG
      obtain ⟨x_4, ex_4, h⟩ := fp_lt_s h
      refine lv_iinc (v := x_4) (lv' := [(1, .int x_4), (0, .ref (B + 120))]) hx hb dX12_undo_48 hl (k := 1) rfl (by rw [ex_4]; rfl) (by decide) rfl (fun ls hl => ?_)
      refine lv_goto (tgt := 22) hx hb dX12_undo_51 (by decide) ?_
      exact ih _ _ hG (lv_sub hl [1, 0] rfl) h
set_option maxHeartbeats 2000000 in
theorem w_X12_undo_0 {p : Program} {l : Launch} {e : Env} {s : State} {m : MethodId} {args : Array Value} {below : List Frame} {meth : Method} {c : Code} {D : va_G} {G : Nat → ClassId} {B : Nat} {r : Int32} {M' : fp_Mem} (E : fp_EV p s m args meth c cX12_undo 2 RX12 (some .int) D G) {M : fp_Mem} {H : Heap} {locs : List Loc} {ls : Array Slot} (hG : fp_H D G B s M H locs) (hl : lv_has ls 2 [(0, .ref (B + 120))]) (h : m_X12_undo M = some (r, M')) : W p l e rm_X12_undo s m args below meth c H locs 0 0 (MQ below (fp_Qi D G B r M') args s 0 0 (fp_A B)) (F0 m 0 ls []) := by
  have hx := E.1
  have hb := E.2.1
  have hown := E.2.2.2.1
  unfold m_X12_undo at h
  refine lv_aload_n hx hb dX12_undo_0 rfl (lv_at hl 0 rfl) ?_
  refine fp_g12_23 E hG tw_828 dX12_undo_1 ?_
  refine lv_if_ne (tgt := 10) hx hb dX12_undo_4 (by decide) (fun q => ?_) (fun q => ?_)
  · replace h := fp_ifF q h
    refine lv_aload_n hx hb dX12_undo_10 rfl (lv_at hl 0 rfl) ?_
    refine lv_dup hx hb dX12_undo_11 rfl ?_
    refine fp_g12_23 E hG tw_828 dX12_undo_12 ?_
    refine lv_iconst (v := (nI 1)) hx hb dX12_undo_15 (by decide) ?_
    refine lv_isub hx hb dX12_undo_16 ?_
    obtain ⟨M_5, eM_5, h⟩ := fp_lt_s h
    refine fp_p12_23 E hG tw_828 dX12_undo_17 (fun H locs hG => ?_)
    replace hG := fp_memH eM_5 hG
    refine lv_iconst (v := (nI 0)) hx hb dX12_undo_20 (by decide) ?_
    refine lv_istore_n (lv' := [(1, .int (nI 0)), (0, .ref (B + 120))]) hx hb dX12_undo_21 rfl hl (by decide) rfl (fun ls hl => ?_)
    exact w_X12_undo_22 E   fp_fu _ _ hG (lv_sub hl [1, 0] rfl) h
  · replace h := fp_ifT q h
    refine lv_ldc (v := (-1000000003 : Int32)) hx hb hown (fp_tabs E tw_1040) dX12_undo_7 ?_
    exact fp_ireti E hG (fp_pr1 h) (fp_pr2 h) dX12_undo_9
theorem c_X12_undo (l : Launch) (D : va_G) (G : Nat → ClassId) (B : Nat) {M : fp_Mem}   {r : Int32} {M' : fp_Mem}  (h : m_X12_undo M = some (r, M')) : Met l yX12_undo (Cond.code yX12_undo cX12_undo 2 (some .int) :: fp_T) rm_X12_undo (va_Pc [.ref (B + 120)] (fp_GS D G B M)) (fp_Qi D G B r M') 0 0 (fp_A B) :=
  fp_met (own := RX12) (by decide) rfl (Nat.le_of_ble_eq_true rfl) (fun E hG hl => w_X12_undo_0 E  hG hl h)
abbrev rm_X12_chain : Room := { frames := 3, cells := 0, slots := 0, locals := 69 }
theorem cv_X12_chain : fp_CV yX12_chain cX12_chain 5 (some .int) 2 := ⟨tw_1077, tw_13, by decide, by decide +kernel⟩
set_option maxHeartbeats 2000000 in
theorem w_X12_chain_64 {p : Program} {l : Launch} {e : Env} {s : State} {m : MethodId} {args : Array Value} {below : List Frame} {meth : Method} {c : Code} {D : va_G} {G : Nat → ClassId} {B : Nat} {p1 : Int32} {p2 : Int32} {r : Int32} {M' : fp_Mem} (E : fp_EV p s m args meth c cX12_chain 5 RX12 (some .int) D G) : ∀ (n : Nat) (v3 : Int32) (v4 : Int32) (M : fp_Mem) {H : Heap} {locs : List Loc} {ls : Array Slot}, fp_H D G B s M H locs → lv_has ls 5 [(0, .ref (B + 120)), (2, .int p2), (3, .int v3), (4, .int v4)] → m_X12_chain_64 p1 p2 n v3 v4 M = some (r, M') → W p l e rm_X12_chain s m args below meth c H locs 0 0 (MQ below (fp_Qi D G B r M') args s 0 0 (fp_A B)) (F0 m 64 ls []) := by
  have hx := E.1
  have hb := E.2.1
  have hown := E.2.2.2.1
  intro n
  induction n with
  | zero =>
    intro v3 v4 M H locs ls hG hl h
    exact nomatch h
  | succ n ih =>
    have ihK := @ih
    intro v3 v4 M H locs ls hG hl h
    rw [m_X12_chain_64] at h
    refine lv_iload hx hb dX12_chain_64 (lv_at hl 3 rfl) ?_
    refine lv_iload_n hx hb dX12_chain_66 rfl (lv_at hl 1 rfl) ?_
    refine lv_icmp_ge (tgt := 82) hx hb dX12_chain_67 (by decide) (fun q => ?_) (fun q => ?_)
    · replace h := fp_ifT q h
      refine lv_iload_n hx hb dX12_chain_82 rfl (lv_at hl 2 rfl) ?_
      exact fp_ireti E hG (fp_pr1 h) (fp_pr2 h) dX12_chain_83
    · replace h := fp_ifF q h
      refine lv_aload_n hx hb dX12_chain_70 rfl (lv_at hl 0 rfl) ?_
      refine lv_iload_n hx hb dX12_chain_71 rfl (lv_at hl 2 rfl) ?_
      obtain ⟨r_1, c_2, h⟩ := fp_b1_s h
      refine fp_callVi (As := [.int v3]) (rest := []) E hG (c_X12_nextOf l D G B c_2) cv_X12_nextOf tw_1031 tw_1033 ts_37 ⟨rfl, rfl⟩ ⟨Nat.le_of_ble_eq_true rfl, Nat.le_of_ble_eq_true rfl⟩ (fp_recv E hG (by decide) (fp_o12 _) rfl) rfl rfl (Nat.le_of_ble_eq_true rfl) hl.1 dX12_chain_72 ⟨Nat.zero_le _, Nat.zero_le _⟩ (fun H locs hG => ?_)
      refine lv_istore_n (lv' := [(3, .int r_1), (0, .ref (B + 120)), (2, .int p2), (4, .int v4)]) hx hb dX12_chain_75 rfl hl (by decide) rfl (fun ls hl => ?_)
      obtain ⟨x_3, ex_3, h⟩ := fp_lt_s h
      refine lv_iinc (v := x_3) (lv' := [(4, .int x_3), (3, .int r_1), (0, .ref (B + 120)), (2, .int p2)]) hx hb dX12_chain_76 hl (k := 3) rfl (by rw [ex_3]; rfl) (by decide) rfl (fun ls hl => ?_)
      refine lv_goto (tgt := 64) hx hb dX12_chain_79 (by decide) ?_
      exact ih _ _ _ hG (lv_sub hl [2, 3, 1, 0] rfl) h
set_option maxHeartbeats 2000000 in
theorem w_X12_chain_0 {p : Program} {l : Launch} {e : Env} {s : State} {m : MethodId} {args : Array Value} {below : List Frame} {meth : Method} {c : Code} {D : va_G} {G : Nat → ClassId} {B : Nat} {p1 : Int32} {p2 : Int32} {r : Int32} {M' : fp_Mem} (E : fp_EV p s m args meth c cX12_chain 5 RX12 (some .int) D G) {M : fp_Mem} {H : Heap} {locs : List Loc} {ls : Array Slot} (hG : fp_H D G B s M H locs) (hl : lv_has ls 5 [(0, .ref (B + 120)), (1, .int p1), (2, .int p2)]) (h : m_X12_chain M p1 p2 = some (r, M')) : W p l e rm_X12_chain s m args below meth c H locs 0 0 (MQ below (fp_Qi D G B r M') args s 0 0 (fp_A B)) (F0 m 0 ls []) := by
  have hx := E.1
  have hb := E.2.1
  have hown := E.2.2.2.1
  unfold m_X12_chain at h
  refine lv_aload_n hx hb dX12_chain_0 rfl (lv_at hl 0 rfl) ?_
  refine lv_iload_n hx hb dX12_chain_1 rfl (lv_at hl 1 rfl) ?_
  obtain ⟨r_4, c_5, h⟩ := fp_b1_s h
  refine fp_callVi (As := [.int p1]) (rest := []) E hG (c_X12_isTable l D G B c_5) cv_X12_isTable tw_1006 tw_1008 ts_33 ⟨rfl, rfl⟩ ⟨Nat.le_of_ble_eq_true rfl, Nat.le_of_ble_eq_true rfl⟩ (fp_recv E hG (by decide) (fp_o12 _) rfl) rfl rfl (Nat.le_of_ble_eq_true rfl) hl.1 dX12_chain_2 ⟨Nat.zero_le _, Nat.zero_le _⟩ (fun H locs hG => ?_)
  refine lv_if_ne (tgt := 11) hx hb dX12_chain_5 (by decide) (fun q => ?_) (fun q => ?_)
  · replace h := fp_ifF q h
    refine lv_aload_n hx hb dX12_chain_11 rfl (lv_at hl 0 rfl) ?_
    obtain ⟨M_6, c_7, h⟩ := fp_b1_s h
    refine fp_callVv (As := []) (rest := []) E hG (c_X12_findAway l D G B c_7) cv_X12_findAway tw_991 tw_993 ts_31 ⟨rfl, rfl⟩ ⟨Nat.le_of_ble_eq_true rfl, Nat.le_of_ble_eq_true rfl⟩ (fp_recv E hG (by decide) (fp_o12 _) rfl) rfl rfl (Nat.le_of_ble_eq_true rfl) hl.1 dX12_chain_12 ⟨Nat.zero_le _, Nat.zero_le _⟩ (fun H locs hG => ?_)
    refine lv_aload_n hx hb dX12_chain_15 rfl (lv_at hl 0 rfl) ?_
    refine fp_g12_22 E hG tw_827 dX12_chain_16 ?_
    refine lv_iload_n hx hb dX12_chain_19 rfl (lv_at hl 1 rfl) ?_
    obtain ⟨g_8, h⟩ := fp_gd_s h
    refine fp_iald E hG fp_cc130.1 (fp_a20 fp_cc130) (fp_in_s g_8) dX12_chain_20 ?_
    refine lv_sipush (v := (nI 1000)) hx hb dX12_chain_21 (by decide) ?_
    refine lv_icmp_ne (tgt := 29) hx hb dX12_chain_24 (by decide) (fun q => ?_) (fun q => ?_)
    · replace h := fp_ifF q h
      refine lv_iload_n hx hb dX12_chain_29 rfl (lv_at hl 2 rfl) ?_
      refine lv_iconst (v := (-1 : Int32)) hx hb dX12_chain_30 (by decide) ?_
      refine lv_icmp_ne (tgt := 41) hx hb dX12_chain_31 (by decide) (fun q => ?_) (fun q => ?_)
      · replace h := fp_ifF q h
        refine lv_iload_n hx hb dX12_chain_41 rfl (lv_at hl 2 rfl) ?_
        refine lv_i2l hx hb dX12_chain_42 rfl ?_
        refine lv_lconst (v := (lN 0)) hx hb dX12_chain_43 (by decide) ?_
        refine lv_aload_n hx hb dX12_chain_44 rfl (lv_at hl 0 rfl) ?_
        refine fp_g12_22 E hG tw_827 dX12_chain_45 ?_
        refine lv_iload_n hx hb dX12_chain_48 rfl (lv_at hl 1 rfl) ?_
        obtain ⟨g_9, h⟩ := fp_gd_s h
        refine fp_iald E hG fp_cc130.1 (fp_a20 fp_cc130) (fp_in_s g_9) dX12_chain_49 ?_
        refine lv_i2l hx hb dX12_chain_50 rfl ?_
        obtain ⟨r_10, c_11, h⟩ := fp_b1_s h
        refine fp_callSi (As := [.long (Int32.toInt64 p2), .long (lN 0), .long (Int32.toInt64 (M_6 130 (Int32.toNatClampNeg p1)))]) (rest := []) E hG (c_X12_in l D G B c_11) cv_X12_in tw_916 tw_917 ⟨rfl, rfl⟩ ⟨Nat.le_of_ble_eq_true rfl, Nat.le_of_ble_eq_true rfl⟩ rfl rfl (Nat.le_of_ble_eq_true rfl) hl.1 dX12_chain_51 ⟨Nat.zero_le _, Nat.zero_le _⟩ (fun H locs hG => ?_)
        refine lv_if_ne (tgt := 59) hx hb dX12_chain_54 (by decide) (fun q => ?_) (fun q => ?_)
        · replace h := fp_ifF q h
          refine lv_iload_n hx hb dX12_chain_59 rfl (lv_at hl 1 rfl) ?_
          refine lv_istore_n (lv' := [(3, .int p1), (0, .ref (B + 120)), (1, .int p1), (2, .int p2)]) hx hb dX12_chain_60 rfl hl (by decide) rfl (fun ls hl => ?_)
          refine lv_iconst (v := (nI 0)) hx hb dX12_chain_61 (by decide) ?_
          refine lv_istore (lv' := [(4, .int (nI 0)), (3, .int p1), (0, .ref (B + 120)), (1, .int p1), (2, .int p2)]) hx hb dX12_chain_62 hl (by decide) rfl (fun ls hl => ?_)
          exact w_X12_chain_64 E   fp_fu _ _ _ hG (lv_sub hl [2, 4, 1, 0] rfl) h
        · replace h := fp_ifT q h
          refine lv_iconst (v := (-1 : Int32)) hx hb dX12_chain_57 (by decide) ?_
          exact fp_ireti E hG (fp_pr1 h) (fp_pr2 h) dX12_chain_58
      · replace h := fp_ifT q h
        refine lv_aload_n hx hb dX12_chain_34 rfl (lv_at hl 0 rfl) ?_
        refine fp_g12_22 E hG tw_827 dX12_chain_35 ?_
        refine lv_iload_n hx hb dX12_chain_38 rfl (lv_at hl 1 rfl) ?_
        obtain ⟨g_12, h⟩ := fp_gd_s h
        refine fp_iald E hG fp_cc130.1 (fp_a20 fp_cc130) (fp_in_s g_12) dX12_chain_39 ?_
        exact fp_ireti E hG (fp_pr1 h) (fp_pr2 h) dX12_chain_40
    · replace h := fp_ifT q h
      refine lv_iconst (v := (-1 : Int32)) hx hb dX12_chain_27 (by decide) ?_
      exact fp_ireti E hG (fp_pr1 h) (fp_pr2 h) dX12_chain_28
  · replace h := fp_ifT q h
    refine lv_ldc (v := (-1000000001 : Int32)) hx hb hown (fp_tabs E tw_1010) dX12_chain_8 ?_
    exact fp_ireti E hG (fp_pr1 h) (fp_pr2 h) dX12_chain_10
theorem c_X12_chain (l : Launch) (D : va_G) (G : Nat → ClassId) (B : Nat) {M : fp_Mem}  {p1 : Int32} {p2 : Int32} {r : Int32} {M' : fp_Mem}  (h : m_X12_chain M p1 p2 = some (r, M')) : Met l yX12_chain (Cond.code yX12_chain cX12_chain 5 (some .int) :: fp_T) rm_X12_chain (va_Pc [.ref (B + 120), .int p1, .int p2] (fp_GS D G B M)) (fp_Qi D G B r M') 0 0 (fp_A B) :=
  fp_met (own := RX12) (by decide) rfl (Nat.le_of_ble_eq_true rfl) (fun E hG hl => w_X12_chain_0 E  hG hl h)
abbrev rm_X12_together : Room := { frames := 2, cells := 0, slots := 0, locals := 45 }
theorem cv_X12_together : fp_CV yX12_together cX12_together 5 (some .int) 1 := ⟨tw_1085, tw_13, by decide, by decide +kernel⟩
set_option maxHeartbeats 2000000 in
theorem w_X12_together_44 {p : Program} {l : Launch} {e : Env} {s : State} {m : MethodId} {args : Array Value} {below : List Frame} {meth : Method} {c : Code} {D : va_G} {G : Nat → ClassId} {B : Nat} {M : fp_Mem} {p1 : Int32} {K6 : Int32 → Int32 → Option (Int32)} {K15 : Int32 → Int32 → Int32 → Option (Int32)} {r : Int32} (E : fp_EV p s m args meth c cX12_together 5 RX12 (some .int) D G) (HK6 : ∀ (wv2 : Int32) (wv3 : Int32) {H : Heap} {locs : List Loc} {ls : Array Slot}, fp_H D G B s M H locs → lv_has ls 5 [(0, .ref (B + 120)), (2, .int wv2), (3, .int wv3)] → K6 wv2 wv3 = some r → W p l e rm_X12_together s m args below meth c H locs 0 0 (MQ below (fp_Qi D G B r M) args s 0 0 (fp_A B)) (F0 m 6 ls [])) (HK15 : ∀ (wv2 : Int32) (wv3 : Int32) (wv4 : Int32) {H : Heap} {locs : List Loc} {ls : Array Slot}, fp_H D G B s M H locs → lv_has ls 5 [(0, .ref (B + 120)), (2, .int wv2), (3, .int wv3), (4, .int wv4)] → K15 wv2 wv3 wv4 = some r → W p l e rm_X12_together s m args below meth c H locs 0 0 (MQ below (fp_Qi D G B r M) args s 0 0 (fp_A B)) (F0 m 15 ls [])) (v3 : Int32) (v4 : Int32) (s0 : Int32) (s1 : Int32) {H : Heap} {locs : List Loc} {ls : Array Slot} (hG : fp_H D G B s M H locs) (hl : lv_has ls 5 [(0, .ref (B + 120)), (3, .int v3), (4, .int v4)]) (h : m_X12_together_44 M p1 K6 K15 v3 v4 s0 s1 = some r) : W p l e rm_X12_together s m args below meth c H locs 0 0 (MQ below (fp_Qi D G B r M) args s 0 0 (fp_A B)) (F0 m 44 ls [.int s1, .int s0]) := by
  have hx := E.1
  have hb := E.2.1
  have hown := E.2.2.2.1
  unfold m_X12_together_44 at h
  refine lv_ior hx hb dX12_together_44 ?_
  obtain ⟨x_1, ex_1, h⟩ := fp_lt_s h
  refine fp_top ex_1 ?_
  refine lv_istore_n (lv' := [(2, .int x_1), (0, .ref (B + 120)), (3, .int v3), (4, .int v4)]) hx hb dX12_together_45 rfl hl (by decide) rfl (fun ls hl => ?_)
  obtain ⟨x_2, ex_2, h⟩ := fp_lt_s h
  refine lv_iinc (v := x_2) (lv' := [(4, .int x_2), (2, .int x_1), (0, .ref (B + 120)), (3, .int v3)]) hx hb dX12_together_46 hl (k := 3) rfl (by rw [ex_2]; rfl) (by decide) rfl (fun ls hl => ?_)
  refine lv_goto (tgt := 15) hx hb dX12_together_49 (by decide) ?_
  exact HK15 _ _ _ hG (lv_sub hl [2, 1, 3, 0] rfl) h
set_option maxHeartbeats 2000000 in
theorem w_X12_together_15 {p : Program} {l : Launch} {e : Env} {s : State} {m : MethodId} {args : Array Value} {below : List Frame} {meth : Method} {c : Code} {D : va_G} {G : Nat → ClassId} {B : Nat} {M : fp_Mem} {p1 : Int32} {K6 : Int32 → Int32 → Option (Int32)} {r : Int32} (E : fp_EV p s m args meth c cX12_together 5 RX12 (some .int) D G) (HK6 : ∀ (wv2 : Int32) (wv3 : Int32) {H : Heap} {locs : List Loc} {ls : Array Slot}, fp_H D G B s M H locs → lv_has ls 5 [(0, .ref (B + 120)), (2, .int wv2), (3, .int wv3)] → K6 wv2 wv3 = some r → W p l e rm_X12_together s m args below meth c H locs 0 0 (MQ below (fp_Qi D G B r M) args s 0 0 (fp_A B)) (F0 m 6 ls [])) : ∀ (n : Nat) (v2 : Int32) (v3 : Int32) (v4 : Int32) {H : Heap} {locs : List Loc} {ls : Array Slot}, fp_H D G B s M H locs → lv_has ls 5 [(0, .ref (B + 120)), (2, .int v2), (3, .int v3), (4, .int v4)] → m_X12_together_15 M p1 K6 n v2 v3 v4 = some r → W p l e rm_X12_together s m args below meth c H locs 0 0 (MQ below (fp_Qi D G B r M) args s 0 0 (fp_A B)) (F0 m 15 ls []) := by
  have hx := E.1
  have hb := E.2.1
  have hown := E.2.2.2.1
  intro n
  induction n with
  | zero =>
    intro v2 v3 v4 H locs ls hG hl h
    exact nomatch h
  | succ n ih =>
    have ihK := @ih
    intro v2 v3 v4 H locs ls hG hl h
    rw [m_X12_together_15] at h
    refine lv_iload hx hb dX12_together_15 (lv_at hl 3 rfl) ?_
    refine lv_aload_n hx hb dX12_together_17 rfl (lv_at hl 0 rfl) ?_
    refine fp_g12_1 E hG tw_806 dX12_together_18 ?_
    refine lv_icmp_ge (tgt := 52) hx hb dX12_together_21 (by decide) (fun q => ?_) (fun q => ?_)
    · replace h := fp_ifT q h
      obtain ⟨x_3, ex_3, h⟩ := fp_lt_s h
      refine lv_iinc (v := x_3) (lv' := [(3, .int x_3), (0, .ref (B + 120)), (2, .int v2), (4, .int v4)]) hx hb dX12_together_52 hl (k := 2) rfl (by rw [ex_3]; rfl) (by decide) rfl (fun ls hl => ?_)
      refine lv_goto (tgt := 6) hx hb dX12_together_55 (by decide) ?_
      exact HK6 _ _ hG (lv_sub hl [1, 2, 0] rfl) h
    · replace h := fp_ifF q h
      refine lv_iload_n hx hb dX12_together_24 rfl (lv_at hl 1 rfl) ?_
      refine lv_iload_n hx hb dX12_together_25 rfl (lv_at hl 1 rfl) ?_
      refine lv_iload hx hb dX12_together_26 (lv_at hl 3 rfl) ?_
      obtain ⟨r_4, c_5, h⟩ := fp_b1_s h
      refine fp_callSi (As := [.int v2, .int v4]) (rest := [.int v2]) E hG (c_X12_has l D G B c_5) cv_X12_has tw_999 tw_1000 ⟨rfl, rfl⟩ ⟨Nat.le_of_ble_eq_true rfl, Nat.le_of_ble_eq_true rfl⟩ rfl rfl (Nat.le_of_ble_eq_true rfl) hl.1 dX12_together_28 ⟨Nat.zero_le _, Nat.zero_le _⟩ (fun H locs hG => ?_)
      refine lv_if_eq (tgt := 43) hx hb dX12_together_31 (by decide) (fun q => ?_) (fun q => ?_)
      · replace h := fp_ifT q h
        refine lv_iconst (v := (nI 0)) hx hb dX12_together_43 (by decide) ?_
        exact w_X12_together_44 E  HK6 ihK _ _ _ _ hG (lv_sub hl [0, 2, 3] rfl) h
      · replace h := fp_ifF q h
        refine lv_aload_n hx hb dX12_together_34 rfl (lv_at hl 0 rfl) ?_
        refine lv_iload hx hb dX12_together_35 (lv_at hl 3 rfl) ?_
        obtain ⟨r_6, c_7, h⟩ := fp_b1_s h
        refine fp_callVi (As := [.int v4]) (rest := [.int v2]) E hG (c_X12_joined l D G B c_7) cv_X12_joined tw_995 tw_997 ts_32 ⟨rfl, rfl⟩ ⟨Nat.le_of_ble_eq_true rfl, Nat.le_of_ble_eq_true rfl⟩ (fp_recv E hG (by decide) (fp_o12 _) rfl) rfl rfl (Nat.le_of_ble_eq_true rfl) hl.1 dX12_together_37 ⟨Nat.zero_le _, Nat.zero_le _⟩ (fun H locs hG => ?_)
        refine lv_goto (tgt := 44) hx hb dX12_together_40 (by decide) ?_
        exact w_X12_together_44 E  HK6 ihK _ _ _ _ hG (lv_sub hl [0, 2, 3] rfl) h
set_option maxHeartbeats 2000000 in
theorem w_X12_together_6 {p : Program} {l : Launch} {e : Env} {s : State} {m : MethodId} {args : Array Value} {below : List Frame} {meth : Method} {c : Code} {D : va_G} {G : Nat → ClassId} {B : Nat} {M : fp_Mem} {p1 : Int32} {r : Int32} (E : fp_EV p s m args meth c cX12_together 5 RX12 (some .int) D G) : ∀ (n : Nat) (v2 : Int32) (v3 : Int32) {H : Heap} {locs : List Loc} {ls : Array Slot}, fp_H D G B s M H locs → lv_has ls 5 [(0, .ref (B + 120)), (2, .int v2), (3, .int v3)] → m_X12_together_6 M p1 n v2 v3 = some r → W p l e rm_X12_together s m args below meth c H locs 0 0 (MQ below (fp_Qi D G B r M) args s 0 0 (fp_A B)) (F0 m 6 ls []) := by
  have hx := E.1
  have hb := E.2.1
  have hown := E.2.2.2.1
  intro n
  induction n with
  | zero =>
    intro v2 v3 H locs ls hG hl h
    exact nomatch h
  | succ n ih =>
    have ihK := @ih
    intro v2 v3 H locs ls hG hl h
    rw [m_X12_together_6] at h
    refine lv_iload_n hx hb dX12_together_6 rfl (lv_at hl 2 rfl) ?_
    refine lv_bipush (v := (nI 9)) hx hb dX12_together_7 (by decide) ?_
    refine lv_icmp_ge (tgt := 58) hx hb dX12_together_9 (by decide) (fun q => ?_) (fun q => ?_)
    · replace h := fp_ifT q h
      refine lv_iload_n hx hb dX12_together_58 rfl (lv_at hl 1 rfl) ?_
      exact fp_ireti E hG (Option.some.inj h) rfl dX12_together_59
    · replace h := fp_ifF q h
      refine lv_iconst (v := (nI 0)) hx hb dX12_together_12 (by decide) ?_
      refine lv_istore (lv' := [(4, .int (nI 0)), (0, .ref (B + 120)), (2, .int v2), (3, .int v3)]) hx hb dX12_together_13 hl (by decide) rfl (fun ls hl => ?_)
      exact w_X12_together_15 E  ihK fp_fu _ _ _ hG (lv_sub hl [1, 2, 3, 0] rfl) h
set_option maxHeartbeats 2000000 in
theorem w_X12_together_0 {p : Program} {l : Launch} {e : Env} {s : State} {m : MethodId} {args : Array Value} {below : List Frame} {meth : Method} {c : Code} {D : va_G} {G : Nat → ClassId} {B : Nat} {M : fp_Mem} {p1 : Int32} {r : Int32} (E : fp_EV p s m args meth c cX12_together 5 RX12 (some .int) D G) {H : Heap} {locs : List Loc} {ls : Array Slot} (hG : fp_H D G B s M H locs) (hl : lv_has ls 5 [(0, .ref (B + 120)), (1, .int p1)]) (h : m_X12_together M p1 = some r) : W p l e rm_X12_together s m args below meth c H locs 0 0 (MQ below (fp_Qi D G B r M) args s 0 0 (fp_A B)) (F0 m 0 ls []) := by
  have hx := E.1
  have hb := E.2.1
  have hown := E.2.2.2.1
  unfold m_X12_together at h
  refine lv_iconst (v := (nI 1)) hx hb dX12_together_0 (by decide) ?_
  refine lv_iload_n hx hb dX12_together_1 rfl (lv_at hl 1 rfl) ?_
  refine lv_ishl hx hb dX12_together_2 ?_
  obtain ⟨x_8, ex_8, h⟩ := fp_lt_s h
  refine fp_top ex_8 ?_
  refine lv_istore_n (lv' := [(2, .int x_8), (0, .ref (B + 120)), (1, .int p1)]) hx hb dX12_together_3 rfl hl (by decide) rfl (fun ls hl => ?_)
  refine lv_iconst (v := (nI 0)) hx hb dX12_together_4 (by decide) ?_
  refine lv_istore_n (lv' := [(3, .int (nI 0)), (2, .int x_8), (0, .ref (B + 120)), (1, .int p1)]) hx hb dX12_together_5 rfl hl (by decide) rfl (fun ls hl => ?_)
  exact w_X12_together_6 E   fp_fu _ _ hG (lv_sub hl [2, 1, 0] rfl) h
theorem c_X12_together (l : Launch) (D : va_G) (G : Nat → ClassId) (B : Nat) {M : fp_Mem}  {p1 : Int32} {r : Int32}  (h : m_X12_together M p1 = some r) : Met l yX12_together (Cond.code yX12_together cX12_together 5 (some .int) :: fp_T) rm_X12_together (va_Pc [.ref (B + 120), .int p1] (fp_GS D G B M)) (fp_Qi D G B r M) 0 0 (fp_A B) :=
  fp_met (own := RX12) (by decide) rfl (Nat.le_of_ble_eq_true rfl) (fun E hG hl => w_X12_together_0 E  hG hl h)
abbrev rm_X12_more : Room := { frames := 3, cells := 0, slots := 0, locals := 69 }
theorem cv_X12_more : fp_CV yX12_more cX12_more 5 (some .int) 1 := ⟨tw_1081, tw_13, by decide, by decide +kernel⟩
set_option maxHeartbeats 2000000 in
theorem w_X12_more_63 {p : Program} {l : Launch} {e : Env} {s : State} {m : MethodId} {args : Array Value} {below : List Frame} {meth : Method} {c : Code} {D : va_G} {G : Nat → ClassId} {B : Nat} {M : fp_Mem} {p1 : Int32} {K22 : Int32 → Int32 → Int32 → Option (Int32)} {r : Int32} (E : fp_EV p s m args meth c cX12_more 5 RX12 (some .int) D G) (HK22 : ∀ (wv2 : Int32) (wv3 : Int32) (wv4 : Int32) {H : Heap} {locs : List Loc} {ls : Array Slot}, fp_H D G B s M H locs → lv_has ls 5 [(0, .ref (B + 120)), (2, .int wv2), (3, .int wv3), (4, .int wv4)] → K22 wv2 wv3 wv4 = some r → W p l e rm_X12_more s m args below meth c H locs 0 0 (MQ below (fp_Qi D G B r M) args s 0 0 (fp_A B)) (F0 m 22 ls [])) (v2 : Int32) (v4 : Int32) (s0 : Int32) (s1 : Int32) {H : Heap} {locs : List Loc} {ls : Array Slot} (hG : fp_H D G B s M H locs) (hl : lv_has ls 5 [(0, .ref (B + 120)), (2, .int v2), (4, .int v4)]) (h : m_X12_more_63 M p1 K22 v2 v4 s0 s1 = some r) : W p l e rm_X12_more s m args below meth c H locs 0 0 (MQ below (fp_Qi D G B r M) args s 0 0 (fp_A B)) (F0 m 63 ls [.int s1, .int s0]) := by
  have hx := E.1
  have hb := E.2.1
  have hown := E.2.2.2.1
  unfold m_X12_more_63 at h
  refine lv_iadd hx hb dX12_more_63 ?_
  obtain ⟨x_1, ex_1, h⟩ := fp_lt_s h
  refine fp_top ex_1 ?_
  refine lv_istore_n (lv' := [(3, .int x_1), (0, .ref (B + 120)), (2, .int v2), (4, .int v4)]) hx hb dX12_more_64 rfl hl (by decide) rfl (fun ls hl => ?_)
  obtain ⟨x_2, ex_2, h⟩ := fp_lt_s h
  refine lv_iinc (v := x_2) (lv' := [(4, .int x_2), (3, .int x_1), (0, .ref (B + 120)), (2, .int v2)]) hx hb dX12_more_65 hl (k := 3) rfl (by rw [ex_2]; rfl) (by decide) rfl (fun ls hl => ?_)
  refine lv_goto (tgt := 22) hx hb dX12_more_68 (by decide) ?_
  exact HK22 _ _ _ hG (lv_sub hl [2, 3, 1, 0] rfl) h
set_option maxHeartbeats 2000000 in
theorem w_X12_more_62 {p : Program} {l : Launch} {e : Env} {s : State} {m : MethodId} {args : Array Value} {below : List Frame} {meth : Method} {c : Code} {D : va_G} {G : Nat → ClassId} {B : Nat} {M : fp_Mem} {p1 : Int32} {K22 : Int32 → Int32 → Int32 → Option (Int32)} {r : Int32} (E : fp_EV p s m args meth c cX12_more 5 RX12 (some .int) D G) (HK22 : ∀ (wv2 : Int32) (wv3 : Int32) (wv4 : Int32) {H : Heap} {locs : List Loc} {ls : Array Slot}, fp_H D G B s M H locs → lv_has ls 5 [(0, .ref (B + 120)), (2, .int wv2), (3, .int wv3), (4, .int wv4)] → K22 wv2 wv3 wv4 = some r → W p l e rm_X12_more s m args below meth c H locs 0 0 (MQ below (fp_Qi D G B r M) args s 0 0 (fp_A B)) (F0 m 22 ls [])) (v2 : Int32) (v4 : Int32) (s0 : Int32) {H : Heap} {locs : List Loc} {ls : Array Slot} (hG : fp_H D G B s M H locs) (hl : lv_has ls 5 [(0, .ref (B + 120)), (2, .int v2), (4, .int v4)]) (h : m_X12_more_62 M p1 K22 v2 v4 s0 = some r) : W p l e rm_X12_more s m args below meth c H locs 0 0 (MQ below (fp_Qi D G B r M) args s 0 0 (fp_A B)) (F0 m 62 ls [.int s0]) := by
  have hx := E.1
  have hb := E.2.1
  have hown := E.2.2.2.1
  unfold m_X12_more_62 at h
  refine lv_iconst (v := (nI 0)) hx hb dX12_more_62 (by decide) ?_
  exact w_X12_more_63 E  HK22 _ _ _ _ hG (lv_sub hl [0, 1, 2] rfl) h
set_option maxHeartbeats 2000000 in
theorem w_X12_more_22 {p : Program} {l : Launch} {e : Env} {s : State} {m : MethodId} {args : Array Value} {below : List Frame} {meth : Method} {c : Code} {D : va_G} {G : Nat → ClassId} {B : Nat} {M : fp_Mem} {p1 : Int32} {r : Int32} (E : fp_EV p s m args meth c cX12_more 5 RX12 (some .int) D G) : ∀ (n : Nat) (v2 : Int32) (v3 : Int32) (v4 : Int32) {H : Heap} {locs : List Loc} {ls : Array Slot}, fp_H D G B s M H locs → lv_has ls 5 [(0, .ref (B + 120)), (2, .int v2), (3, .int v3), (4, .int v4)] → m_X12_more_22 M p1 n v2 v3 v4 = some r → W p l e rm_X12_more s m args below meth c H locs 0 0 (MQ below (fp_Qi D G B r M) args s 0 0 (fp_A B)) (F0 m 22 ls []) := by
  have hx := E.1
  have hb := E.2.1
  have hown := E.2.2.2.1
  intro n
  induction n with
  | zero =>
    intro v2 v3 v4 H locs ls hG hl h
    exact nomatch h
  | succ n ih =>
    have ihK := @ih
    intro v2 v3 v4 H locs ls hG hl h
    rw [m_X12_more_22] at h
    refine lv_iload hx hb dX12_more_22 (lv_at hl 3 rfl) ?_
    refine lv_aload_n hx hb dX12_more_24 rfl (lv_at hl 0 rfl) ?_
    refine fp_g12_1 E hG tw_806 dX12_more_25 ?_
    refine lv_icmp_ge (tgt := 71) hx hb dX12_more_28 (by decide) (fun q => ?_) (fun q => ?_)
    · replace h := fp_ifT q h
      refine lv_iload_n hx hb dX12_more_71 rfl (lv_at hl 2 rfl) ?_
      exact fp_ireti E hG (Option.some.inj h) rfl dX12_more_72
    · replace h := fp_ifF q h
      refine lv_iload_n hx hb dX12_more_31 rfl (lv_at hl 2 rfl) ?_
      refine lv_iload_n hx hb dX12_more_32 rfl (lv_at hl 1 rfl) ?_
      refine lv_iload hx hb dX12_more_33 (lv_at hl 3 rfl) ?_
      obtain ⟨r_3, c_4, h⟩ := fp_b1_s h
      refine fp_callSi (As := [.int v2, .int v4]) (rest := [.int v3]) E hG (c_X12_has l D G B c_4) cv_X12_has tw_999 tw_1000 ⟨rfl, rfl⟩ ⟨Nat.le_of_ble_eq_true rfl, Nat.le_of_ble_eq_true rfl⟩ rfl rfl (Nat.le_of_ble_eq_true rfl) hl.1 dX12_more_35 ⟨Nat.zero_le _, Nat.zero_le _⟩ (fun H locs hG => ?_)
      refine lv_if_eq (tgt := 62) hx hb dX12_more_38 (by decide) (fun q => ?_) (fun q => ?_)
      · replace h := fp_ifT q h
        exact w_X12_more_62 E  ihK _ _ _ hG (lv_sub hl [0, 1, 3] rfl) h
      · replace h := fp_ifF q h
        refine lv_aload_n hx hb dX12_more_41 rfl (lv_at hl 0 rfl) ?_
        refine lv_iload hx hb dX12_more_42 (lv_at hl 3 rfl) ?_
        obtain ⟨r_5, c_6, h⟩ := fp_b1_s h
        refine fp_callVi (As := [.int v4]) (rest := [.int v3]) E hG (c_X12_free l D G B c_6) cv_X12_free tw_983 tw_985 ts_29 ⟨rfl, rfl⟩ ⟨Nat.le_of_ble_eq_true rfl, Nat.le_of_ble_eq_true rfl⟩ (fp_recv E hG (by decide) (fp_o12 _) rfl) rfl rfl (Nat.le_of_ble_eq_true rfl) hl.1 dX12_more_44 ⟨Nat.zero_le _, Nat.zero_le _⟩ (fun H locs hG => ?_)
        refine lv_iconst (v := (nI 1)) hx hb dX12_more_47 (by decide) ?_
        refine lv_icmp_le (tgt := 62) hx hb dX12_more_48 (by decide) (fun q => ?_) (fun q => ?_)
        · replace h := fp_ifT q h
          exact w_X12_more_62 E  ihK _ _ _ hG (lv_sub hl [0, 1, 3] rfl) h
        · replace h := fp_ifF q h
          refine lv_aload_n hx hb dX12_more_51 rfl (lv_at hl 0 rfl) ?_
          refine lv_iload hx hb dX12_more_52 (lv_at hl 3 rfl) ?_
          obtain ⟨r_7, c_8, h⟩ := fp_b1_s h
          refine fp_callVi (As := [.int v4]) (rest := [.int v3]) E hG (c_X12_free l D G B c_8) cv_X12_free tw_983 tw_985 ts_29 ⟨rfl, rfl⟩ ⟨Nat.le_of_ble_eq_true rfl, Nat.le_of_ble_eq_true rfl⟩ (fp_recv E hG (by decide) (fp_o12 _) rfl) rfl rfl (Nat.le_of_ble_eq_true rfl) hl.1 dX12_more_54 ⟨Nat.zero_le _, Nat.zero_le _⟩ (fun H locs hG => ?_)
          refine lv_iconst (v := (nI 1)) hx hb dX12_more_57 (by decide) ?_
          refine lv_isub hx hb dX12_more_58 ?_
          refine lv_goto (tgt := 63) hx hb dX12_more_59 (by decide) ?_
          exact w_X12_more_63 E  ihK _ _ _ _ hG (lv_sub hl [0, 1, 3] rfl) h
set_option maxHeartbeats 2000000 in
theorem w_X12_more_0 {p : Program} {l : Launch} {e : Env} {s : State} {m : MethodId} {args : Array Value} {below : List Frame} {meth : Method} {c : Code} {D : va_G} {G : Nat → ClassId} {B : Nat} {M : fp_Mem} {p1 : Int32} {r : Int32} (E : fp_EV p s m args meth c cX12_more 5 RX12 (some .int) D G) {H : Heap} {locs : List Loc} {ls : Array Slot} (hG : fp_H D G B s M H locs) (hl : lv_has ls 5 [(0, .ref (B + 120)), (1, .int p1)]) (h : m_X12_more M p1 = some r) : W p l e rm_X12_more s m args below meth c H locs 0 0 (MQ below (fp_Qi D G B r M) args s 0 0 (fp_A B)) (F0 m 0 ls []) := by
  have hx := E.1
  have hb := E.2.1
  have hown := E.2.2.2.1
  unfold m_X12_more at h
  refine lv_aload_n hx hb dX12_more_0 rfl (lv_at hl 0 rfl) ?_
  refine lv_iload_n hx hb dX12_more_1 rfl (lv_at hl 1 rfl) ?_
  obtain ⟨r_9, c_10, h⟩ := fp_b1_s h
  refine fp_callVi (As := [.int p1]) (rest := []) E hG (c_X12_isTable l D G B c_10) cv_X12_isTable tw_1006 tw_1008 ts_33 ⟨rfl, rfl⟩ ⟨Nat.le_of_ble_eq_true rfl, Nat.le_of_ble_eq_true rfl⟩ (fp_recv E hG (by decide) (fp_o12 _) rfl) rfl rfl (Nat.le_of_ble_eq_true rfl) hl.1 dX12_more_2 ⟨Nat.zero_le _, Nat.zero_le _⟩ (fun H locs hG => ?_)
  refine lv_if_ne (tgt := 11) hx hb dX12_more_5 (by decide) (fun q => ?_) (fun q => ?_)
  · replace h := fp_ifF q h
    refine lv_aload_n hx hb dX12_more_11 rfl (lv_at hl 0 rfl) ?_
    refine lv_iload_n hx hb dX12_more_12 rfl (lv_at hl 1 rfl) ?_
    obtain ⟨r_11, c_12, h⟩ := fp_b1_s h
    refine fp_callVi (As := [.int p1]) (rest := []) E hG (c_X12_together l D G B c_12) cv_X12_together tw_1082 tw_1084 ts_40 ⟨rfl, rfl⟩ ⟨Nat.le_of_ble_eq_true rfl, Nat.le_of_ble_eq_true rfl⟩ (fp_recv E hG (by decide) (fp_o12 _) rfl) rfl rfl (Nat.le_of_ble_eq_true rfl) hl.1 dX12_more_13 ⟨Nat.zero_le _, Nat.zero_le _⟩ (fun H locs hG => ?_)
    refine lv_istore_n (lv' := [(2, .int r_11), (0, .ref (B + 120)), (1, .int p1)]) hx hb dX12_more_16 rfl hl (by decide) rfl (fun ls hl => ?_)
    refine lv_iconst (v := (nI 0)) hx hb dX12_more_17 (by decide) ?_
    refine lv_istore_n (lv' := [(3, .int (nI 0)), (2, .int r_11), (0, .ref (B + 120)), (1, .int p1)]) hx hb dX12_more_18 rfl hl (by decide) rfl (fun ls hl => ?_)
    refine lv_iconst (v := (nI 0)) hx hb dX12_more_19 (by decide) ?_
    refine lv_istore (lv' := [(4, .int (nI 0)), (3, .int (nI 0)), (2, .int r_11), (0, .ref (B + 120)), (1, .int p1)]) hx hb dX12_more_20 hl (by decide) rfl (fun ls hl => ?_)
    exact w_X12_more_22 E   fp_fu _ _ _ hG (lv_sub hl [3, 2, 1, 0] rfl) h
  · replace h := fp_ifT q h
    refine lv_ldc (v := (-1000000001 : Int32)) hx hb hown (fp_tabs E tw_1010) dX12_more_8 ?_
    exact fp_ireti E hG (Option.some.inj h) rfl dX12_more_10
theorem c_X12_more (l : Launch) (D : va_G) (G : Nat → ClassId) (B : Nat) {M : fp_Mem}  {p1 : Int32} {r : Int32}  (h : m_X12_more M p1 = some r) : Met l yX12_more (Cond.code yX12_more cX12_more 5 (some .int) :: fp_T) rm_X12_more (va_Pc [.ref (B + 120), .int p1] (fp_GS D G B M)) (fp_Qi D G B r M) 0 0 (fp_A B) :=
  fp_met (own := RX12) (by decide) rfl (Nat.le_of_ble_eq_true rfl) (fun E hG hl => w_X12_more_0 E  hG hl h)
abbrev rm_X12_far : Room := { frames := 3, cells := 0, slots := 0, locals := 69 }
theorem cv_X12_far : fp_CV yX12_far cX12_far 5 (some .int) 1 := ⟨tw_1089, tw_13, by decide, by decide +kernel⟩
set_option maxHeartbeats 2000000 in
theorem w_X12_far_101 {p : Program} {l : Launch} {e : Env} {s : State} {m : MethodId} {args : Array Value} {below : List Frame} {meth : Method} {c : Code} {D : va_G} {G : Nat → ClassId} {B : Nat} {p1 : Int32} {r : Int32} {M' : fp_Mem} (E : fp_EV p s m args meth c cX12_far 5 RX12 (some .int) D G) (s0 : Int32) (M : fp_Mem) {H : Heap} {locs : List Loc} {ls : Array Slot} (hG : fp_H D G B s M H locs) (hl : lv_has ls 5 []) (h : m_X12_far_101 p1 s0 M = some (r, M')) : W p l e rm_X12_far s m args below meth c H locs 0 0 (MQ below (fp_Qi D G B r M') args s 0 0 (fp_A B)) (F0 m 101 ls [.int s0]) := by
  have hx := E.1
  have hb := E.2.1
  have hown := E.2.2.2.1
  unfold m_X12_far_101 at h
  exact fp_ireti E hG (fp_pr1 h) (fp_pr2 h) dX12_far_101
set_option maxHeartbeats 2000000 in
theorem w_X12_far_73 {p : Program} {l : Launch} {e : Env} {s : State} {m : MethodId} {args : Array Value} {below : List Frame} {meth : Method} {c : Code} {D : va_G} {G : Nat → ClassId} {B : Nat} {p1 : Int32} {K24 : Int32 → Int32 → Int32 → fp_Mem → Option (Int32 × fp_Mem)} {r : Int32} {M' : fp_Mem} (E : fp_EV p s m args meth c cX12_far 5 RX12 (some .int) D G) (HK24 : ∀ (wv2 : Int32) (wv3 : Int32) (wv4 : Int32) (wM : fp_Mem) {H : Heap} {locs : List Loc} {ls : Array Slot}, fp_H D G B s wM H locs → lv_has ls 5 [(0, .ref (B + 120)), (1, .int p1), (2, .int wv2), (3, .int wv3), (4, .int wv4)] → K24 wv2 wv3 wv4 wM = some (r, M') → W p l e rm_X12_far s m args below meth c H locs 0 0 (MQ below (fp_Qi D G B r M') args s 0 0 (fp_A B)) (F0 m 24 ls [])) (v2 : Int32) (v4 : Int32) (s0 : Int32) (M : fp_Mem) {H : Heap} {locs : List Loc} {ls : Array Slot} (hG : fp_H D G B s M H locs) (hl : lv_has ls 5 [(0, .ref (B + 120)), (1, .int p1), (2, .int v2), (4, .int v4)]) (h : m_X12_far_73 p1 K24 v2 v4 s0 M = some (r, M')) : W p l e rm_X12_far s m args below meth c H locs 0 0 (MQ below (fp_Qi D G B r M') args s 0 0 (fp_A B)) (F0 m 73 ls [.int s0]) := by
  have hx := E.1
  have hb := E.2.1
  have hown := E.2.2.2.1
  unfold m_X12_far_73 at h
  refine lv_istore_n (lv' := [(3, .int s0), (0, .ref (B + 120)), (1, .int p1), (2, .int v2), (4, .int v4)]) hx hb dX12_far_73 rfl hl (by decide) rfl (fun ls hl => ?_)
  obtain ⟨x_1, ex_1, h⟩ := fp_lt_s h
  refine lv_iinc (v := x_1) (lv' := [(4, .int x_1), (3, .int s0), (0, .ref (B + 120)), (1, .int p1), (2, .int v2)]) hx hb dX12_far_74 hl (k := 4) rfl (by rw [ex_1]; rfl) (by decide) rfl (fun ls hl => ?_)
  refine lv_goto (tgt := 24) hx hb dX12_far_77 (by decide) ?_
  exact HK24 _ _ _ _ hG (lv_sub hl [2, 3, 4, 1, 0] rfl) h
set_option maxHeartbeats 2000000 in
theorem w_X12_far_50 {p : Program} {l : Launch} {e : Env} {s : State} {m : MethodId} {args : Array Value} {below : List Frame} {meth : Method} {c : Code} {D : va_G} {G : Nat → ClassId} {B : Nat} {p1 : Int32} {K24 : Int32 → Int32 → Int32 → fp_Mem → Option (Int32 × fp_Mem)} {r : Int32} {M' : fp_Mem} (E : fp_EV p s m args meth c cX12_far 5 RX12 (some .int) D G) (HK24 : ∀ (wv2 : Int32) (wv3 : Int32) (wv4 : Int32) (wM : fp_Mem) {H : Heap} {locs : List Loc} {ls : Array Slot}, fp_H D G B s wM H locs → lv_has ls 5 [(0, .ref (B + 120)), (1, .int p1), (2, .int wv2), (3, .int wv3), (4, .int wv4)] → K24 wv2 wv3 wv4 wM = some (r, M') → W p l e rm_X12_far s m args below meth c H locs 0 0 (MQ below (fp_Qi D G B r M') args s 0 0 (fp_A B)) (F0 m 24 ls [])) (v3 : Int32) (v4 : Int32) (s0 : Int32) (M : fp_Mem) {H : Heap} {locs : List Loc} {ls : Array Slot} (hG : fp_H D G B s M H locs) (hl : lv_has ls 5 [(0, .ref (B + 120)), (1, .int p1), (3, .int v3), (4, .int v4)]) (h : m_X12_far_50 p1 K24 v3 v4 s0 M = some (r, M')) : W p l e rm_X12_far s m args below meth c H locs 0 0 (MQ below (fp_Qi D G B r M') args s 0 0 (fp_A B)) (F0 m 50 ls [.int s0]) := by
  have hx := E.1
  have hb := E.2.1
  have hown := E.2.2.2.1
  unfold m_X12_far_50 at h
  refine lv_istore_n (lv' := [(2, .int s0), (0, .ref (B + 120)), (1, .int p1), (3, .int v3), (4, .int v4)]) hx hb dX12_far_50 rfl hl (by decide) rfl (fun ls hl => ?_)
  refine lv_aload_n hx hb dX12_far_51 rfl (lv_at hl 1 rfl) ?_
  refine fp_g12_22 E hG tw_827 dX12_far_52 ?_
  refine lv_iload hx hb dX12_far_55 (lv_at hl 4 rfl) ?_
  obtain ⟨g_2, h⟩ := fp_gd_s h
  refine fp_iald E hG fp_cc130.1 (fp_a20 fp_cc130) (fp_in_s g_2) dX12_far_57 ?_
  refine lv_iload_n hx hb dX12_far_58 rfl (lv_at hl 3 rfl) ?_
  refine lv_icmp_le (tgt := 72) hx hb dX12_far_59 (by decide) (fun q => ?_) (fun q => ?_)
  · replace h := fp_ifT q h
    refine lv_iload_n hx hb dX12_far_72 rfl (lv_at hl 3 rfl) ?_
    exact w_X12_far_73 E  HK24 _ _ _ _ hG (lv_sub hl [1, 2, 0, 4] rfl) h
  · replace h := fp_ifF q h
    refine lv_aload_n hx hb dX12_far_62 rfl (lv_at hl 1 rfl) ?_
    refine fp_g12_22 E hG tw_827 dX12_far_63 ?_
    refine lv_iload hx hb dX12_far_66 (lv_at hl 4 rfl) ?_
    obtain ⟨g_3, h⟩ := fp_gd_s h
    refine fp_iald E hG fp_cc130.1 (fp_a20 fp_cc130) (fp_in_s g_3) dX12_far_68 ?_
    refine lv_goto (tgt := 73) hx hb dX12_far_69 (by decide) ?_
    exact w_X12_far_73 E  HK24 _ _ _ _ hG (lv_sub hl [1, 2, 0, 4] rfl) h
set_option maxHeartbeats 2000000 in
theorem w_X12_far_24 {p : Program} {l : Launch} {e : Env} {s : State} {m : MethodId} {args : Array Value} {below : List Frame} {meth : Method} {c : Code} {D : va_G} {G : Nat → ClassId} {B : Nat} {p1 : Int32} {r : Int32} {M' : fp_Mem} (E : fp_EV p s m args meth c cX12_far 5 RX12 (some .int) D G) : ∀ (n : Nat) (v2 : Int32) (v3 : Int32) (v4 : Int32) (M : fp_Mem) {H : Heap} {locs : List Loc} {ls : Array Slot}, fp_H D G B s M H locs → lv_has ls 5 [(0, .ref (B + 120)), (1, .int p1), (2, .int v2), (3, .int v3), (4, .int v4)] → m_X12_far_24 p1 n v2 v3 v4 M = some (r, M') → W p l e rm_X12_far s m args below meth c H locs 0 0 (MQ below (fp_Qi D G B r M') args s 0 0 (fp_A B)) (F0 m 24 ls []) := by
  have hx := E.1
  have hb := E.2.1
  have hown := E.2.2.2.1
  intro n
  induction n with
  | zero =>
    intro v2 v3 v4 M H locs ls hG hl h
    exact nomatch h
  | succ n ih =>
    have ihK := @ih
    intro v2 v3 v4 M H locs ls hG hl h
    rw [m_X12_far_24] at h
    refine lv_iload hx hb dX12_far_24 (lv_at hl 4 rfl) ?_
    refine lv_aload_n hx hb dX12_far_26 rfl (lv_at hl 0 rfl) ?_
    refine fp_g12_1 E hG tw_806 dX12_far_27 ?_
    refine lv_icmp_ge (tgt := 80) hx hb dX12_far_30 (by decide) (fun q => ?_) (fun q => ?_)
    · replace h := fp_ifT q h
      refine lv_iload_n hx hb dX12_far_80 rfl (lv_at hl 1 rfl) ?_
      refine lv_iconst (v := (nI 1)) hx hb dX12_far_81 (by decide) ?_
      refine lv_icmp_ne (tgt := 89) hx hb dX12_far_82 (by decide) (fun q => ?_) (fun q => ?_)
      · replace h := fp_ifF q h
        refine lv_iload_n hx hb dX12_far_89 rfl (lv_at hl 3 rfl) ?_
        refine lv_sipush (v := (nI 1000)) hx hb dX12_far_90 (by decide) ?_
        refine lv_icmp_ne (tgt := 100) hx hb dX12_far_93 (by decide) (fun q => ?_) (fun q => ?_)
        · replace h := fp_ifF q h
          refine lv_iload_n hx hb dX12_far_100 rfl (lv_at hl 3 rfl) ?_
          exact w_X12_far_101 E   _ _ hG (lv_sub hl [] rfl) h
        · replace h := fp_ifT q h
          refine lv_iconst (v := (-1 : Int32)) hx hb dX12_far_96 (by decide) ?_
          refine lv_goto (tgt := 101) hx hb dX12_far_97 (by decide) ?_
          exact w_X12_far_101 E   _ _ hG (lv_sub hl [] rfl) h
      · replace h := fp_ifT q h
        refine lv_iload_n hx hb dX12_far_85 rfl (lv_at hl 2 rfl) ?_
        refine lv_goto (tgt := 101) hx hb dX12_far_86 (by decide) ?_
        exact w_X12_far_101 E   _ _ hG (lv_sub hl [] rfl) h
    · replace h := fp_ifF q h
      refine lv_aload_n hx hb dX12_far_33 rfl (lv_at hl 0 rfl) ?_
      refine fp_g12_22 E hG tw_827 dX12_far_34 ?_
      refine lv_iload hx hb dX12_far_37 (lv_at hl 4 rfl) ?_
      obtain ⟨g_4, h⟩ := fp_gd_s h
      refine fp_iald E hG fp_cc130.1 (fp_a20 fp_cc130) (fp_in_s g_4) dX12_far_39 ?_
      refine lv_iload_n hx hb dX12_far_40 rfl (lv_at hl 3 rfl) ?_
      refine lv_icmp_le (tgt := 49) hx hb dX12_far_41 (by decide) (fun q => ?_) (fun q => ?_)
      · replace h := fp_ifT q h
        refine lv_iload_n hx hb dX12_far_49 rfl (lv_at hl 2 rfl) ?_
        exact w_X12_far_50 E  ihK _ _ _ _ hG (lv_sub hl [0, 1, 3, 4] rfl) h
      · replace h := fp_ifF q h
        refine lv_iload hx hb dX12_far_44 (lv_at hl 4 rfl) ?_
        refine lv_goto (tgt := 50) hx hb dX12_far_46 (by decide) ?_
        exact w_X12_far_50 E  ihK _ _ _ _ hG (lv_sub hl [0, 1, 3, 4] rfl) h
set_option maxHeartbeats 2000000 in
theorem w_X12_far_0 {p : Program} {l : Launch} {e : Env} {s : State} {m : MethodId} {args : Array Value} {below : List Frame} {meth : Method} {c : Code} {D : va_G} {G : Nat → ClassId} {B : Nat} {p1 : Int32} {r : Int32} {M' : fp_Mem} (E : fp_EV p s m args meth c cX12_far 5 RX12 (some .int) D G) {M : fp_Mem} {H : Heap} {locs : List Loc} {ls : Array Slot} (hG : fp_H D G B s M H locs) (hl : lv_has ls 5 [(0, .ref (B + 120)), (1, .int p1)]) (h : m_X12_far M p1 = some (r, M')) : W p l e rm_X12_far s m args below meth c H locs 0 0 (MQ below (fp_Qi D G B r M') args s 0 0 (fp_A B)) (F0 m 0 ls []) := by
  have hx := E.1
  have hb := E.2.1
  have hown := E.2.2.2.1
  unfold m_X12_far at h
  refine lv_iload_n hx hb dX12_far_0 rfl (lv_at hl 1 rfl) ?_
  refine lv_i2l hx hb dX12_far_1 rfl ?_
  refine lv_lconst (v := (lN 0)) hx hb dX12_far_2 (by decide) ?_
  refine lv_lconst (v := (lN 1)) hx hb dX12_far_3 (by decide) ?_
  obtain ⟨r_5, c_6, h⟩ := fp_b1_s h
  refine fp_callSi (As := [.long (Int32.toInt64 p1), .long (lN 0), .long (lN 1)]) (rest := []) E hG (c_X12_in l D G B c_6) cv_X12_in tw_916 tw_917 ⟨rfl, rfl⟩ ⟨Nat.le_of_ble_eq_true rfl, Nat.le_of_ble_eq_true rfl⟩ rfl rfl (Nat.le_of_ble_eq_true rfl) hl.1 dX12_far_4 ⟨Nat.zero_le _, Nat.zero_le _⟩ (fun H locs hG => ?_)
  refine lv_if_ne (tgt := 13) hx hb dX12_far_7 (by decide) (fun q => ?_) (fun q => ?_)
  · replace h := fp_ifF q h
    refine lv_aload_n hx hb dX12_far_13 rfl (lv_at hl 0 rfl) ?_
    obtain ⟨M_7, c_8, h⟩ := fp_b1_s h
    refine fp_callVv (As := []) (rest := []) E hG (c_X12_findAway l D G B c_8) cv_X12_findAway tw_991 tw_993 ts_31 ⟨rfl, rfl⟩ ⟨Nat.le_of_ble_eq_true rfl, Nat.le_of_ble_eq_true rfl⟩ (fp_recv E hG (by decide) (fp_o12 _) rfl) rfl rfl (Nat.le_of_ble_eq_true rfl) hl.1 dX12_far_14 ⟨Nat.zero_le _, Nat.zero_le _⟩ (fun H locs hG => ?_)
    refine lv_iconst (v := (-1 : Int32)) hx hb dX12_far_17 (by decide) ?_
    refine lv_istore_n (lv' := [(2, .int (-1 : Int32)), (0, .ref (B + 120)), (1, .int p1)]) hx hb dX12_far_18 rfl hl (by decide) rfl (fun ls hl => ?_)
    refine lv_iconst (v := (-1 : Int32)) hx hb dX12_far_19 (by decide) ?_
    refine lv_istore_n (lv' := [(3, .int (-1 : Int32)), (2, .int (-1 : Int32)), (0, .ref (B + 120)), (1, .int p1)]) hx hb dX12_far_20 rfl hl (by decide) rfl (fun ls hl => ?_)
    refine lv_iconst (v := (nI 0)) hx hb dX12_far_21 (by decide) ?_
    refine lv_istore (lv' := [(4, .int (nI 0)), (3, .int (-1 : Int32)), (2, .int (-1 : Int32)), (0, .ref (B + 120)), (1, .int p1)]) hx hb dX12_far_22 hl (by decide) rfl (fun ls hl => ?_)
    exact w_X12_far_24 E   fp_fu _ _ _ _ hG (lv_sub hl [3, 4, 2, 1, 0] rfl) h
  · replace h := fp_ifT q h
    refine lv_ldc (v := (-1000000002 : Int32)) hx hb hown (fp_tabs E tw_919) dX12_far_10 ?_
    exact fp_ireti E hG (fp_pr1 h) (fp_pr2 h) dX12_far_12
theorem c_X12_far (l : Launch) (D : va_G) (G : Nat → ClassId) (B : Nat) {M : fp_Mem}  {p1 : Int32} {r : Int32} {M' : fp_Mem}  (h : m_X12_far M p1 = some (r, M')) : Met l yX12_far (Cond.code yX12_far cX12_far 5 (some .int) :: fp_T) rm_X12_far (va_Pc [.ref (B + 120), .int p1] (fp_GS D G B M)) (fp_Qi D G B r M') 0 0 (fp_A B) :=
  fp_met (own := RX12) (by decide) rfl (Nat.le_of_ble_eq_true rfl) (fun E hG hl => w_X12_far_0 E  hG hl h)
abbrev rm_X12_save : Room := { frames := 0, cells := 0, slots := 0, locals := 0 }
theorem cv_X12_save : fp_CV yX12_save cX12_save 2 none 0 := ⟨tw_1097, tw_13, by decide, by decide +kernel⟩
set_option maxHeartbeats 2000000 in
theorem w_X12_save_2 {p : Program} {l : Launch} {e : Env} {s : State} {m : MethodId} {args : Array Value} {below : List Frame} {meth : Method} {c : Code} {D : va_G} {G : Nat → ClassId} {B : Nat} {M' : fp_Mem} (E : fp_EV p s m args meth c cX12_save 2 RX12 none D G) : ∀ (n : Nat) (v1 : Int32) (M : fp_Mem) {H : Heap} {locs : List Loc} {ls : Array Slot}, fp_H D G B s M H locs → lv_has ls 2 [(0, .ref (B + 120)), (1, .int v1)] → m_X12_save_2 n v1 M = some M' → W p l e rm_X12_save s m args below meth c H locs 0 0 (MQ below (fp_Qv D G B M') args s 0 0 (fp_A B)) (F0 m 2 ls []) := by
  have hx := E.1
  have hb := E.2.1
  have hown := E.2.2.2.1
  intro n
  induction n with
  | zero =>
    intro v1 M H locs ls hG hl h
    exact nomatch h
  | succ n ih =>
    have ihK := @ih
    intro v1 M H locs ls hG hl h
    rw [m_X12_save_2] at h
    refine lv_iload_n hx hb dX12_save_2 rfl (lv_at hl 1 rfl) ?_
    refine lv_bipush (v := (nI 25)) hx hb dX12_save_3 (by decide) ?_
    refine lv_icmp_ge (tgt := 26) hx hb dX12_save_5 (by decide) (fun q => ?_) (fun q => ?_)
    · replace h := fp_ifT q h
      exact fp_retv E hG (Option.some.inj h) dX12_save_26
    · replace h := fp_ifF q h
      refine lv_aload_n hx hb dX12_save_8 rfl (lv_at hl 0 rfl) ?_
      refine fp_g12_25 E hG tw_830 dX12_save_9 ?_
      refine lv_iload_n hx hb dX12_save_12 rfl (lv_at hl 1 rfl) ?_
      refine lv_aload_n hx hb dX12_save_13 rfl (lv_at hl 0 rfl) ?_
      refine fp_g12_5 E hG tw_810 dX12_save_14 ?_
      refine lv_iload_n hx hb dX12_save_17 rfl (lv_at hl 1 rfl) ?_
      obtain ⟨g_1, h⟩ := fp_gd_s h
      refine fp_iald E hG fp_cc123.1 (fp_a28 fp_cc123) (fp_in_s g_1) dX12_save_18 ?_
      obtain ⟨g_2, h⟩ := fp_gd_s h
      obtain ⟨M_3, eM_3, h⟩ := fp_lt_s h
      refine fp_iast E hG fp_cc132.1 (fp_a28 fp_cc132) (fp_in_s g_2) dX12_save_19 (fun H locs hG => ?_)
      replace hG := fp_memH eM_3 hG
      obtain ⟨x_4, ex_4, h⟩ := fp_lt_s h
      refine lv_iinc (v := x_4) (lv' := [(1, .int x_4), (0, .ref (B + 120))]) hx hb dX12_save_20 hl (k := 1) rfl (by rw [ex_4]; rfl) (by decide) rfl (fun ls hl => ?_)
      refine lv_goto (tgt := 2) hx hb dX12_save_23 (by decide) ?_
      exact ih _ _ hG (lv_sub hl [1, 0] rfl) h
set_option maxHeartbeats 2000000 in
theorem w_X12_save_0 {p : Program} {l : Launch} {e : Env} {s : State} {m : MethodId} {args : Array Value} {below : List Frame} {meth : Method} {c : Code} {D : va_G} {G : Nat → ClassId} {B : Nat} {M' : fp_Mem} (E : fp_EV p s m args meth c cX12_save 2 RX12 none D G) {M : fp_Mem} {H : Heap} {locs : List Loc} {ls : Array Slot} (hG : fp_H D G B s M H locs) (hl : lv_has ls 2 [(0, .ref (B + 120))]) (h : m_X12_save M = some M') : W p l e rm_X12_save s m args below meth c H locs 0 0 (MQ below (fp_Qv D G B M') args s 0 0 (fp_A B)) (F0 m 0 ls []) := by
  have hx := E.1
  have hb := E.2.1
  have hown := E.2.2.2.1
  unfold m_X12_save at h
  refine lv_iconst (v := (nI 0)) hx hb dX12_save_0 (by decide) ?_
  refine lv_istore_n (lv' := [(1, .int (nI 0)), (0, .ref (B + 120))]) hx hb dX12_save_1 rfl hl (by decide) rfl (fun ls hl => ?_)
  exact w_X12_save_2 E   fp_fu _ _ hG (lv_sub hl [1, 0] rfl) h
theorem c_X12_save (l : Launch) (D : va_G) (G : Nat → ClassId) (B : Nat) {M : fp_Mem}   {M' : fp_Mem}  (h : m_X12_save M = some M') : Met l yX12_save (Cond.code yX12_save cX12_save 2 none :: fp_T) rm_X12_save (va_Pc [.ref (B + 120)] (fp_GS D G B M)) (fp_Qv D G B M') 0 0 (fp_A B) :=
  fp_met (own := RX12) (by decide) rfl (Nat.le_of_ble_eq_true rfl) (fun E hG hl => w_X12_save_0 E  hG hl h)
abbrev rm_X12_putBack : Room := { frames := 0, cells := 0, slots := 0, locals := 0 }
theorem cv_X12_putBack : fp_CV yX12_putBack cX12_putBack 2 none 0 := ⟨tw_1105, tw_13, by decide, by decide +kernel⟩
set_option maxHeartbeats 2000000 in
theorem w_X12_putBack_2 {p : Program} {l : Launch} {e : Env} {s : State} {m : MethodId} {args : Array Value} {below : List Frame} {meth : Method} {c : Code} {D : va_G} {G : Nat → ClassId} {B : Nat} {M' : fp_Mem} (E : fp_EV p s m args meth c cX12_putBack 2 RX12 none D G) : ∀ (n : Nat) (v1 : Int32) (M : fp_Mem) {H : Heap} {locs : List Loc} {ls : Array Slot}, fp_H D G B s M H locs → lv_has ls 2 [(0, .ref (B + 120)), (1, .int v1)] → m_X12_putBack_2 n v1 M = some M' → W p l e rm_X12_putBack s m args below meth c H locs 0 0 (MQ below (fp_Qv D G B M') args s 0 0 (fp_A B)) (F0 m 2 ls []) := by
  have hx := E.1
  have hb := E.2.1
  have hown := E.2.2.2.1
  intro n
  induction n with
  | zero =>
    intro v1 M H locs ls hG hl h
    exact nomatch h
  | succ n ih =>
    have ihK := @ih
    intro v1 M H locs ls hG hl h
    rw [m_X12_putBack_2] at h
    refine lv_iload_n hx hb dX12_putBack_2 rfl (lv_at hl 1 rfl) ?_
    refine lv_bipush (v := (nI 25)) hx hb dX12_putBack_3 (by decide) ?_
    refine lv_icmp_ge (tgt := 26) hx hb dX12_putBack_5 (by decide) (fun q => ?_) (fun q => ?_)
    · replace h := fp_ifT q h
      exact fp_retv E hG (Option.some.inj h) dX12_putBack_26
    · replace h := fp_ifF q h
      refine lv_aload_n hx hb dX12_putBack_8 rfl (lv_at hl 0 rfl) ?_
      refine fp_g12_5 E hG tw_810 dX12_putBack_9 ?_
      refine lv_iload_n hx hb dX12_putBack_12 rfl (lv_at hl 1 rfl) ?_
      refine lv_aload_n hx hb dX12_putBack_13 rfl (lv_at hl 0 rfl) ?_
      refine fp_g12_25 E hG tw_830 dX12_putBack_14 ?_
      refine lv_iload_n hx hb dX12_putBack_17 rfl (lv_at hl 1 rfl) ?_
      obtain ⟨g_1, h⟩ := fp_gd_s h
      refine fp_iald E hG fp_cc132.1 (fp_a28 fp_cc132) (fp_in_s g_1) dX12_putBack_18 ?_
      obtain ⟨g_2, h⟩ := fp_gd_s h
      obtain ⟨M_3, eM_3, h⟩ := fp_lt_s h
      refine fp_iast E hG fp_cc123.1 (fp_a28 fp_cc123) (fp_in_s g_2) dX12_putBack_19 (fun H locs hG => ?_)
      replace hG := fp_memH eM_3 hG
      obtain ⟨x_4, ex_4, h⟩ := fp_lt_s h
      refine lv_iinc (v := x_4) (lv' := [(1, .int x_4), (0, .ref (B + 120))]) hx hb dX12_putBack_20 hl (k := 1) rfl (by rw [ex_4]; rfl) (by decide) rfl (fun ls hl => ?_)
      refine lv_goto (tgt := 2) hx hb dX12_putBack_23 (by decide) ?_
      exact ih _ _ hG (lv_sub hl [1, 0] rfl) h
set_option maxHeartbeats 2000000 in
theorem w_X12_putBack_0 {p : Program} {l : Launch} {e : Env} {s : State} {m : MethodId} {args : Array Value} {below : List Frame} {meth : Method} {c : Code} {D : va_G} {G : Nat → ClassId} {B : Nat} {M' : fp_Mem} (E : fp_EV p s m args meth c cX12_putBack 2 RX12 none D G) {M : fp_Mem} {H : Heap} {locs : List Loc} {ls : Array Slot} (hG : fp_H D G B s M H locs) (hl : lv_has ls 2 [(0, .ref (B + 120))]) (h : m_X12_putBack M = some M') : W p l e rm_X12_putBack s m args below meth c H locs 0 0 (MQ below (fp_Qv D G B M') args s 0 0 (fp_A B)) (F0 m 0 ls []) := by
  have hx := E.1
  have hb := E.2.1
  have hown := E.2.2.2.1
  unfold m_X12_putBack at h
  refine lv_iconst (v := (nI 0)) hx hb dX12_putBack_0 (by decide) ?_
  refine lv_istore_n (lv' := [(1, .int (nI 0)), (0, .ref (B + 120))]) hx hb dX12_putBack_1 rfl hl (by decide) rfl (fun ls hl => ?_)
  exact w_X12_putBack_2 E   fp_fu _ _ hG (lv_sub hl [1, 0] rfl) h
theorem c_X12_putBack (l : Launch) (D : va_G) (G : Nat → ClassId) (B : Nat) {M : fp_Mem}   {M' : fp_Mem}  (h : m_X12_putBack M = some M') : Met l yX12_putBack (Cond.code yX12_putBack cX12_putBack 2 none :: fp_T) rm_X12_putBack (va_Pc [.ref (B + 120)] (fp_GS D G B M)) (fp_Qv D G B M') 0 0 (fp_A B) :=
  fp_met (own := RX12) (by decide) rfl (Nat.le_of_ble_eq_true rfl) (fun E hG hl => w_X12_putBack_0 E  hG hl h)
abbrev rm_X12_bothMoves : Room := { frames := 5, cells := 0, slots := 0, locals := 112 }
theorem cv_X12_bothMoves : fp_CV yX12_bothMoves cX12_bothMoves 5 (some .int) 2 := ⟨tw_1101, tw_13, by decide, by decide +kernel⟩
set_option maxHeartbeats 2000000 in
theorem w_X12_bothMoves_41 {p : Program} {l : Launch} {e : Env} {s : State} {m : MethodId} {args : Array Value} {below : List Frame} {meth : Method} {c : Code} {D : va_G} {G : Nat → ClassId} {B : Nat} {p1 : Int32} {p2 : Int32} {r : Int32} {M' : fp_Mem} (E : fp_EV p s m args meth c cX12_bothMoves 5 RX12 (some .int) D G) (s0 : Int32) (s1 : Int32) (M : fp_Mem) {H : Heap} {locs : List Loc} {ls : Array Slot} (hG : fp_H D G B s M H locs) (hl : lv_has ls 5 []) (h : m_X12_bothMoves_41 p1 p2 s0 s1 M = some (r, M')) : W p l e rm_X12_bothMoves s m args below meth c H locs 0 0 (MQ below (fp_Qi D G B r M') args s 0 0 (fp_A B)) (F0 m 41 ls [.int s1, .int s0]) := by
  have hx := E.1
  have hb := E.2.1
  have hown := E.2.2.2.1
  unfold m_X12_bothMoves_41 at h
  refine lv_iadd hx hb dX12_bothMoves_41 ?_
  exact fp_ireti E hG (fp_pr1 h) (fp_pr2 h) dX12_bothMoves_42
set_option maxHeartbeats 2000000 in
theorem w_X12_bothMoves_28 {p : Program} {l : Launch} {e : Env} {s : State} {m : MethodId} {args : Array Value} {below : List Frame} {meth : Method} {c : Code} {D : va_G} {G : Nat → ClassId} {B : Nat} {p1 : Int32} {p2 : Int32} {r : Int32} {M' : fp_Mem} (E : fp_EV p s m args meth c cX12_bothMoves 5 RX12 (some .int) D G) (v4 : Int32) (s0 : Int32) (M : fp_Mem) {H : Heap} {locs : List Loc} {ls : Array Slot} (hG : fp_H D G B s M H locs) (hl : lv_has ls 5 [(4, .int v4)]) (h : m_X12_bothMoves_28 p1 p2 v4 s0 M = some (r, M')) : W p l e rm_X12_bothMoves s m args below meth c H locs 0 0 (MQ below (fp_Qi D G B r M') args s 0 0 (fp_A B)) (F0 m 28 ls [.int s0]) := by
  have hx := E.1
  have hb := E.2.1
  have hown := E.2.2.2.1
  unfold m_X12_bothMoves_28 at h
  refine lv_iload hx hb dX12_bothMoves_28 (lv_at hl 0 rfl) ?_
  refine lv_if_ge (tgt := 39) hx hb dX12_bothMoves_30 (by decide) (fun q => ?_) (fun q => ?_)
  · replace h := fp_ifT q h
    refine lv_iload hx hb dX12_bothMoves_39 (lv_at hl 0 rfl) ?_
    exact w_X12_bothMoves_41 E   _ _ _ hG (lv_sub hl [] rfl) h
  · replace h := fp_ifF q h
    refine lv_sipush (v := (nI 1000)) hx hb dX12_bothMoves_33 (by decide) ?_
    refine lv_goto (tgt := 41) hx hb dX12_bothMoves_36 (by decide) ?_
    exact w_X12_bothMoves_41 E   _ _ _ hG (lv_sub hl [] rfl) h
set_option maxHeartbeats 2000000 in
theorem w_X12_bothMoves_0 {p : Program} {l : Launch} {e : Env} {s : State} {m : MethodId} {args : Array Value} {below : List Frame} {meth : Method} {c : Code} {D : va_G} {G : Nat → ClassId} {B : Nat} {p1 : Int32} {p2 : Int32} {r : Int32} {M' : fp_Mem} (E : fp_EV p s m args meth c cX12_bothMoves 5 RX12 (some .int) D G) {M : fp_Mem} {H : Heap} {locs : List Loc} {ls : Array Slot} (hG : fp_H D G B s M H locs) (hl : lv_has ls 5 [(0, .ref (B + 120)), (1, .int p1), (2, .int p2)]) (h : m_X12_bothMoves M p1 p2 = some (r, M')) : W p l e rm_X12_bothMoves s m args below meth c H locs 0 0 (MQ below (fp_Qi D G B r M') args s 0 0 (fp_A B)) (F0 m 0 ls []) := by
  have hx := E.1
  have hb := E.2.1
  have hown := E.2.2.2.1
  unfold m_X12_bothMoves at h
  refine lv_aload_n hx hb dX12_bothMoves_0 rfl (lv_at hl 0 rfl) ?_
  refine lv_iload_n hx hb dX12_bothMoves_1 rfl (lv_at hl 1 rfl) ?_
  obtain ⟨r_1, M_2, c_3, h⟩ := fp_b2_s h
  refine fp_callVi (As := [.int p1]) (rest := []) E hG (c_X12_guest l D G B c_3) cv_X12_guest tw_1023 tw_1025 ts_35 ⟨rfl, rfl⟩ ⟨Nat.le_of_ble_eq_true rfl, Nat.le_of_ble_eq_true rfl⟩ (fp_recv E hG (by decide) (fp_o12 _) rfl) rfl rfl (Nat.le_of_ble_eq_true rfl) hl.1 dX12_bothMoves_2 ⟨Nat.zero_le _, Nat.zero_le _⟩ (fun H locs hG => ?_)
  refine lv_istore_n (lv' := [(3, .int r_1), (0, .ref (B + 120)), (1, .int p1), (2, .int p2)]) hx hb dX12_bothMoves_5 rfl hl (by decide) rfl (fun ls hl => ?_)
  refine lv_aload_n hx hb dX12_bothMoves_6 rfl (lv_at hl 1 rfl) ?_
  refine lv_iload_n hx hb dX12_bothMoves_7 rfl (lv_at hl 3 rfl) ?_
  obtain ⟨r_4, M_5, c_6, h⟩ := fp_b2_s h
  refine fp_callVi (As := [.int p2]) (rest := []) E hG (c_X12_guest l D G B c_6) cv_X12_guest tw_1023 tw_1025 ts_35 ⟨rfl, rfl⟩ ⟨Nat.le_of_ble_eq_true rfl, Nat.le_of_ble_eq_true rfl⟩ (fp_recv E hG (by decide) (fp_o12 _) rfl) rfl rfl (Nat.le_of_ble_eq_true rfl) hl.1 dX12_bothMoves_8 ⟨Nat.zero_le _, Nat.zero_le _⟩ (fun H locs hG => ?_)
  refine lv_istore (lv' := [(4, .int r_4), (3, .int r_1), (0, .ref (B + 120)), (1, .int p1), (2, .int p2)]) hx hb dX12_bothMoves_11 hl (by decide) rfl (fun ls hl => ?_)
  refine lv_aload_n hx hb dX12_bothMoves_13 rfl (lv_at hl 2 rfl) ?_
  obtain ⟨M_7, c_8, h⟩ := fp_b1_s h
  refine fp_callVv (As := []) (rest := []) E hG (c_X12_putBack l D G B c_8) cv_X12_putBack tw_1102 tw_1104 ts_43 ⟨rfl, rfl⟩ ⟨Nat.le_of_ble_eq_true rfl, Nat.le_of_ble_eq_true rfl⟩ (fp_recv E hG (by decide) (fp_o12 _) rfl) rfl rfl (Nat.le_of_ble_eq_true rfl) hl.1 dX12_bothMoves_14 ⟨Nat.zero_le _, Nat.zero_le _⟩ (fun H locs hG => ?_)
  refine lv_iload_n hx hb dX12_bothMoves_17 rfl (lv_at hl 1 rfl) ?_
  refine lv_if_ge (tgt := 27) hx hb dX12_bothMoves_18 (by decide) (fun q => ?_) (fun q => ?_)
  · replace h := fp_ifT q h
    refine lv_iload_n hx hb dX12_bothMoves_27 rfl (lv_at hl 1 rfl) ?_
    exact w_X12_bothMoves_28 E   _ _ _ hG (lv_sub hl [0] rfl) h
  · replace h := fp_ifF q h
    refine lv_sipush (v := (nI 1000)) hx hb dX12_bothMoves_21 (by decide) ?_
    refine lv_goto (tgt := 28) hx hb dX12_bothMoves_24 (by decide) ?_
    exact w_X12_bothMoves_28 E   _ _ _ hG (lv_sub hl [0] rfl) h
theorem c_X12_bothMoves (l : Launch) (D : va_G) (G : Nat → ClassId) (B : Nat) {M : fp_Mem}  {p1 : Int32} {p2 : Int32} {r : Int32} {M' : fp_Mem}  (h : m_X12_bothMoves M p1 p2 = some (r, M')) : Met l yX12_bothMoves (Cond.code yX12_bothMoves cX12_bothMoves 5 (some .int) :: fp_T) rm_X12_bothMoves (va_Pc [.ref (B + 120), .int p1, .int p2] (fp_GS D G B M)) (fp_Qi D G B r M') 0 0 (fp_A B) :=
  fp_met (own := RX12) (by decide) rfl (Nat.le_of_ble_eq_true rfl) (fun E hG hl => w_X12_bothMoves_0 E  hG hl h)
abbrev rm_X12_two : Room := { frames := 6, cells := 0, slots := 0, locals := 136 }
theorem cv_X12_two : fp_CV yX12_two cX12_two 6 (some .int) 3 := ⟨tw_1093, tw_13, by decide, by decide +kernel⟩
set_option maxHeartbeats 2000000 in
theorem w_X12_two_16 {p : Program} {l : Launch} {e : Env} {s : State} {m : MethodId} {args : Array Value} {below : List Frame} {meth : Method} {c : Code} {D : va_G} {G : Nat → ClassId} {B : Nat} {p1 : Int32} {p2 : Int32} {p3 : Int32} {r : Int32} {M' : fp_Mem} (E : fp_EV p s m args meth c cX12_two 6 RX12 (some .int) D G) (M : fp_Mem) {H : Heap} {locs : List Loc} {ls : Array Slot} (hG : fp_H D G B s M H locs) (hl : lv_has ls 6 []) (h : m_X12_two_16 p1 p2 p3 M = some (r, M')) : W p l e rm_X12_two s m args below meth c H locs 0 0 (MQ below (fp_Qi D G B r M') args s 0 0 (fp_A B)) (F0 m 16 ls []) := by
  have hx := E.1
  have hb := E.2.1
  have hown := E.2.2.2.1
  unfold m_X12_two_16 at h
  refine lv_ldc (v := (-1000000001 : Int32)) hx hb hown (fp_tabs E tw_1010) dX12_two_16 ?_
  exact fp_ireti E hG (fp_pr1 h) (fp_pr2 h) dX12_two_18
set_option maxHeartbeats 2000000 in
theorem w_X12_two_83 {p : Program} {l : Launch} {e : Env} {s : State} {m : MethodId} {args : Array Value} {below : List Frame} {meth : Method} {c : Code} {D : va_G} {G : Nat → ClassId} {B : Nat} {p1 : Int32} {p2 : Int32} {p3 : Int32} {r : Int32} {M' : fp_Mem} (E : fp_EV p s m args meth c cX12_two 6 RX12 (some .int) D G) (s0 : Int32) (M : fp_Mem) {H : Heap} {locs : List Loc} {ls : Array Slot} (hG : fp_H D G B s M H locs) (hl : lv_has ls 6 []) (h : m_X12_two_83 p1 p2 p3 s0 M = some (r, M')) : W p l e rm_X12_two s m args below meth c H locs 0 0 (MQ below (fp_Qi D G B r M') args s 0 0 (fp_A B)) (F0 m 83 ls [.int s0]) := by
  have hx := E.1
  have hb := E.2.1
  have hown := E.2.2.2.1
  unfold m_X12_two_83 at h
  exact fp_ireti E hG (fp_pr1 h) (fp_pr2 h) dX12_two_83
set_option maxHeartbeats 2000000 in
theorem w_X12_two_68 {p : Program} {l : Launch} {e : Env} {s : State} {m : MethodId} {args : Array Value} {below : List Frame} {meth : Method} {c : Code} {D : va_G} {G : Nat → ClassId} {B : Nat} {p1 : Int32} {p2 : Int32} {p3 : Int32} {r : Int32} {M' : fp_Mem} (E : fp_EV p s m args meth c cX12_two 6 RX12 (some .int) D G) (s0 : Int32) (M : fp_Mem) {H : Heap} {locs : List Loc} {ls : Array Slot} (hG : fp_H D G B s M H locs) (hl : lv_has ls 6 []) (h : m_X12_two_68 p1 p2 p3 s0 M = some (r, M')) : W p l e rm_X12_two s m args below meth c H locs 0 0 (MQ below (fp_Qi D G B r M') args s 0 0 (fp_A B)) (F0 m 68 ls [.int s0]) := by
  have hx := E.1
  have hb := E.2.1
  have hown := E.2.2.2.1
  unfold m_X12_two_68 at h
  exact fp_ireti E hG (fp_pr1 h) (fp_pr2 h) dX12_two_68
set_option maxHeartbeats 2000000 in
theorem w_X12_two_0 {p : Program} {l : Launch} {e : Env} {s : State} {m : MethodId} {args : Array Value} {below : List Frame} {meth : Method} {c : Code} {D : va_G} {G : Nat → ClassId} {B : Nat} {p1 : Int32} {p2 : Int32} {p3 : Int32} {r : Int32} {M' : fp_Mem} (E : fp_EV p s m args meth c cX12_two 6 RX12 (some .int) D G) {M : fp_Mem} {H : Heap} {locs : List Loc} {ls : Array Slot} (hG : fp_H D G B s M H locs) (hl : lv_has ls 6 [(0, .ref (B + 120)), (1, .int p1), (2, .int p2), (3, .int p3)]) (h : m_X12_two M p1 p2 p3 = some (r, M')) : W p l e rm_X12_two s m args below meth c H locs 0 0 (MQ below (fp_Qi D G B r M') args s 0 0 (fp_A B)) (F0 m 0 ls []) := by
  have hx := E.1
  have hb := E.2.1
  have hown := E.2.2.2.1
  unfold m_X12_two at h
  refine lv_aload_n hx hb dX12_two_0 rfl (lv_at hl 0 rfl) ?_
  refine lv_iload_n hx hb dX12_two_1 rfl (lv_at hl 1 rfl) ?_
  obtain ⟨r_1, c_2, h⟩ := fp_b1_s h
  refine fp_callVi (As := [.int p1]) (rest := []) E hG (c_X12_isTable l D G B c_2) cv_X12_isTable tw_1006 tw_1008 ts_33 ⟨rfl, rfl⟩ ⟨Nat.le_of_ble_eq_true rfl, Nat.le_of_ble_eq_true rfl⟩ (fp_recv E hG (by decide) (fp_o12 _) rfl) rfl rfl (Nat.le_of_ble_eq_true rfl) hl.1 dX12_two_2 ⟨Nat.zero_le _, Nat.zero_le _⟩ (fun H locs hG => ?_)
  refine lv_if_eq (tgt := 16) hx hb dX12_two_5 (by decide) (fun q => ?_) (fun q => ?_)
  · replace h := fp_ifT q h
    exact w_X12_two_16 E   _ hG (lv_sub hl [] rfl) h
  · replace h := fp_ifF q h
    refine lv_aload_n hx hb dX12_two_8 rfl (lv_at hl 0 rfl) ?_
    refine lv_iload_n hx hb dX12_two_9 rfl (lv_at hl 2 rfl) ?_
    obtain ⟨r_3, c_4, h⟩ := fp_b1_s h
    refine fp_callVi (As := [.int p2]) (rest := []) E hG (c_X12_isTable l D G B c_4) cv_X12_isTable tw_1006 tw_1008 ts_33 ⟨rfl, rfl⟩ ⟨Nat.le_of_ble_eq_true rfl, Nat.le_of_ble_eq_true rfl⟩ (fp_recv E hG (by decide) (fp_o12 _) rfl) rfl rfl (Nat.le_of_ble_eq_true rfl) hl.1 dX12_two_10 ⟨Nat.zero_le _, Nat.zero_le _⟩ (fun H locs hG => ?_)
    refine lv_if_ne (tgt := 19) hx hb dX12_two_13 (by decide) (fun q => ?_) (fun q => ?_)
    · replace h := fp_ifF q h
      refine lv_iload_n hx hb dX12_two_19 rfl (lv_at hl 3 rfl) ?_
      refine lv_i2l hx hb dX12_two_20 rfl ?_
      refine lv_lconst (v := (lN 0)) hx hb dX12_two_21 (by decide) ?_
      refine lv_lconst (v := (lN 1)) hx hb dX12_two_22 (by decide) ?_
      obtain ⟨r_5, c_6, h⟩ := fp_b1_s h
      refine fp_callSi (As := [.long (Int32.toInt64 p3), .long (lN 0), .long (lN 1)]) (rest := []) E hG (c_X12_in l D G B c_6) cv_X12_in tw_916 tw_917 ⟨rfl, rfl⟩ ⟨Nat.le_of_ble_eq_true rfl, Nat.le_of_ble_eq_true rfl⟩ rfl rfl (Nat.le_of_ble_eq_true rfl) hl.1 dX12_two_23 ⟨Nat.zero_le _, Nat.zero_le _⟩ (fun H locs hG => ?_)
      refine lv_if_ne (tgt := 32) hx hb dX12_two_26 (by decide) (fun q => ?_) (fun q => ?_)
      · replace h := fp_ifF q h
        refine lv_aload_n hx hb dX12_two_32 rfl (lv_at hl 0 rfl) ?_
        obtain ⟨M_7, c_8, h⟩ := fp_b1_s h
        refine fp_callVv (As := []) (rest := []) E hG (c_X12_save l D G B c_8) cv_X12_save tw_1094 tw_1096 ts_41 ⟨rfl, rfl⟩ ⟨Nat.le_of_ble_eq_true rfl, Nat.le_of_ble_eq_true rfl⟩ (fp_recv E hG (by decide) (fp_o12 _) rfl) rfl rfl (Nat.le_of_ble_eq_true rfl) hl.1 dX12_two_33 ⟨Nat.zero_le _, Nat.zero_le _⟩ (fun H locs hG => ?_)
        refine lv_aload_n hx hb dX12_two_36 rfl (lv_at hl 0 rfl) ?_
        refine lv_iload_n hx hb dX12_two_37 rfl (lv_at hl 1 rfl) ?_
        refine lv_iload_n hx hb dX12_two_38 rfl (lv_at hl 2 rfl) ?_
        obtain ⟨r_9, M_10, c_11, h⟩ := fp_b2_s h
        refine fp_callVi (As := [.int p1, .int p2]) (rest := []) E hG (c_X12_bothMoves l D G B c_11) cv_X12_bothMoves tw_1098 tw_1100 ts_42 ⟨rfl, rfl⟩ ⟨Nat.le_of_ble_eq_true rfl, Nat.le_of_ble_eq_true rfl⟩ (fp_recv E hG (by decide) (fp_o12 _) rfl) rfl rfl (Nat.le_of_ble_eq_true rfl) hl.1 dX12_two_39 ⟨Nat.zero_le _, Nat.zero_le _⟩ (fun H locs hG => ?_)
        refine lv_istore (lv' := [(4, .int r_9), (0, .ref (B + 120)), (1, .int p1), (2, .int p2), (3, .int p3)]) hx hb dX12_two_42 hl (by decide) rfl (fun ls hl => ?_)
        refine lv_aload_n hx hb dX12_two_44 rfl (lv_at hl 1 rfl) ?_
        refine lv_iload_n hx hb dX12_two_45 rfl (lv_at hl 3 rfl) ?_
        refine lv_iload_n hx hb dX12_two_46 rfl (lv_at hl 2 rfl) ?_
        obtain ⟨r_12, M_13, c_14, h⟩ := fp_b2_s h
        refine fp_callVi (As := [.int p2, .int p1]) (rest := []) E hG (c_X12_bothMoves l D G B c_14) cv_X12_bothMoves tw_1098 tw_1100 ts_42 ⟨rfl, rfl⟩ ⟨Nat.le_of_ble_eq_true rfl, Nat.le_of_ble_eq_true rfl⟩ (fp_recv E hG (by decide) (fp_o12 _) rfl) rfl rfl (Nat.le_of_ble_eq_true rfl) hl.1 dX12_two_47 ⟨Nat.zero_le _, Nat.zero_le _⟩ (fun H locs hG => ?_)
        refine lv_istore (lv' := [(5, .int r_12), (4, .int r_9), (0, .ref (B + 120)), (1, .int p1), (2, .int p2), (3, .int p3)]) hx hb dX12_two_50 hl (by decide) rfl (fun ls hl => ?_)
        refine lv_iload_n hx hb dX12_two_52 rfl (lv_at hl 5 rfl) ?_
        refine lv_if_ne (tgt := 69) hx hb dX12_two_53 (by decide) (fun q => ?_) (fun q => ?_)
        · replace h := fp_ifF q h
          refine lv_iload hx hb dX12_two_69 (lv_at hl 0 rfl) ?_
          refine lv_iload hx hb dX12_two_71 (lv_at hl 1 rfl) ?_
          refine lv_icmp_ge (tgt := 81) hx hb dX12_two_73 (by decide) (fun q => ?_) (fun q => ?_)
          · replace h := fp_ifT q h
            refine lv_iload hx hb dX12_two_81 (lv_at hl 1 rfl) ?_
            exact w_X12_two_83 E   _ _ hG (lv_sub hl [] rfl) h
          · replace h := fp_ifF q h
            refine lv_iload hx hb dX12_two_76 (lv_at hl 0 rfl) ?_
            refine lv_goto (tgt := 83) hx hb dX12_two_78 (by decide) ?_
            exact w_X12_two_83 E   _ _ hG (lv_sub hl [] rfl) h
        · replace h := fp_ifT q h
          refine lv_iload hx hb dX12_two_56 (lv_at hl 0 rfl) ?_
          refine lv_iload hx hb dX12_two_58 (lv_at hl 1 rfl) ?_
          refine lv_icmp_ge (tgt := 67) hx hb dX12_two_60 (by decide) (fun q => ?_) (fun q => ?_)
          · replace h := fp_ifT q h
            refine lv_iconst (v := (nI 0)) hx hb dX12_two_67 (by decide) ?_
            exact w_X12_two_68 E   _ _ hG (lv_sub hl [] rfl) h
          · replace h := fp_ifF q h
            refine lv_iconst (v := (nI 1)) hx hb dX12_two_63 (by decide) ?_
            refine lv_goto (tgt := 68) hx hb dX12_two_64 (by decide) ?_
            exact w_X12_two_68 E   _ _ hG (lv_sub hl [] rfl) h
      · replace h := fp_ifT q h
        refine lv_ldc (v := (-1000000002 : Int32)) hx hb hown (fp_tabs E tw_919) dX12_two_29 ?_
        exact fp_ireti E hG (fp_pr1 h) (fp_pr2 h) dX12_two_31
    · replace h := fp_ifT q h
      exact w_X12_two_16 E   _ hG (lv_sub hl [] rfl) h
theorem c_X12_two (l : Launch) (D : va_G) (G : Nat → ClassId) (B : Nat) {M : fp_Mem}  {p1 : Int32} {p2 : Int32} {p3 : Int32} {r : Int32} {M' : fp_Mem}  (h : m_X12_two M p1 p2 p3 = some (r, M')) : Met l yX12_two (Cond.code yX12_two cX12_two 6 (some .int) :: fp_T) rm_X12_two (va_Pc [.ref (B + 120), .int p1, .int p2, .int p3] (fp_GS D G B M)) (fp_Qi D G B r M') 0 0 (fp_A B) :=
  fp_met (own := RX12) (by decide) rfl (Nat.le_of_ble_eq_true rfl) (fun E hG hl => w_X12_two_0 E  hG hl h)
abbrev rm_X12_allNear : Room := { frames := 3, cells := 0, slots := 0, locals := 69 }
theorem cv_X12_allNear : fp_CV yX12_allNear cX12_allNear 5 (some .boolean) 2 := ⟨tw_1122, tw_13, by decide, by decide +kernel⟩
set_option maxHeartbeats 2000000 in
theorem w_X12_allNear_47 {p : Program} {l : Launch} {e : Env} {s : State} {m : MethodId} {args : Array Value} {below : List Frame} {meth : Method} {c : Code} {D : va_G} {G : Nat → ClassId} {B : Nat} {p1 : Int32} {p2 : Int32} {K9 : Int32 → Int32 → fp_Mem → Option (Int32 × fp_Mem)} {r : Int32} {M' : fp_Mem} (E : fp_EV p s m args meth c cX12_allNear 5 RX12 (some .boolean) D G) (HK9 : ∀ (wv3 : Int32) (wv4 : Int32) (wM : fp_Mem) {H : Heap} {locs : List Loc} {ls : Array Slot}, fp_H D G B s wM H locs → lv_has ls 5 [(0, .ref (B + 120)), (1, .int p1), (2, .int p2), (3, .int wv3), (4, .int wv4)] → K9 wv3 wv4 wM = some (r, M') → W p l e rm_X12_allNear s m args below meth c H locs 0 0 (MQ below (fp_Qi D G B r M') args s 0 0 (fp_A B)) (F0 m 9 ls [])) (v4 : Int32) (s0 : Int32) (M : fp_Mem) {H : Heap} {locs : List Loc} {ls : Array Slot} (hG : fp_H D G B s M H locs) (hl : lv_has ls 5 [(0, .ref (B + 120)), (1, .int p1), (2, .int p2), (4, .int v4)]) (h : m_X12_allNear_47 p1 p2 K9 v4 s0 M = some (r, M')) : W p l e rm_X12_allNear s m args below meth c H locs 0 0 (MQ below (fp_Qi D G B r M') args s 0 0 (fp_A B)) (F0 m 47 ls [.int s0]) := by
  have hx := E.1
  have hb := E.2.1
  have hown := E.2.2.2.1
  unfold m_X12_allNear_47 at h
  refine lv_istore_n (lv' := [(3, .int s0), (0, .ref (B + 120)), (1, .int p1), (2, .int p2), (4, .int v4)]) hx hb dX12_allNear_47 rfl hl (by decide) rfl (fun ls hl => ?_)
  obtain ⟨x_1, ex_1, h⟩ := fp_lt_s h
  refine lv_iinc (v := x_1) (lv' := [(4, .int x_1), (3, .int s0), (0, .ref (B + 120)), (1, .int p1), (2, .int p2)]) hx hb dX12_allNear_48 hl (k := 4) rfl (by rw [ex_1]; rfl) (by decide) rfl (fun ls hl => ?_)
  refine lv_goto (tgt := 9) hx hb dX12_allNear_51 (by decide) ?_
  exact HK9 _ _ _ hG (lv_sub hl [2, 3, 4, 1, 0] rfl) h
set_option maxHeartbeats 2000000 in
theorem w_X12_allNear_46 {p : Program} {l : Launch} {e : Env} {s : State} {m : MethodId} {args : Array Value} {below : List Frame} {meth : Method} {c : Code} {D : va_G} {G : Nat → ClassId} {B : Nat} {p1 : Int32} {p2 : Int32} {K9 : Int32 → Int32 → fp_Mem → Option (Int32 × fp_Mem)} {r : Int32} {M' : fp_Mem} (E : fp_EV p s m args meth c cX12_allNear 5 RX12 (some .boolean) D G) (HK9 : ∀ (wv3 : Int32) (wv4 : Int32) (wM : fp_Mem) {H : Heap} {locs : List Loc} {ls : Array Slot}, fp_H D G B s wM H locs → lv_has ls 5 [(0, .ref (B + 120)), (1, .int p1), (2, .int p2), (3, .int wv3), (4, .int wv4)] → K9 wv3 wv4 wM = some (r, M') → W p l e rm_X12_allNear s m args below meth c H locs 0 0 (MQ below (fp_Qi D G B r M') args s 0 0 (fp_A B)) (F0 m 9 ls [])) (v4 : Int32) (M : fp_Mem) {H : Heap} {locs : List Loc} {ls : Array Slot} (hG : fp_H D G B s M H locs) (hl : lv_has ls 5 [(0, .ref (B + 120)), (1, .int p1), (2, .int p2), (4, .int v4)]) (h : m_X12_allNear_46 p1 p2 K9 v4 M = some (r, M')) : W p l e rm_X12_allNear s m args below meth c H locs 0 0 (MQ below (fp_Qi D G B r M') args s 0 0 (fp_A B)) (F0 m 46 ls []) := by
  have hx := E.1
  have hb := E.2.1
  have hown := E.2.2.2.1
  unfold m_X12_allNear_46 at h
  refine lv_iconst (v := (nI 0)) hx hb dX12_allNear_46 (by decide) ?_
  exact w_X12_allNear_47 E  HK9 _ _ _ hG (lv_sub hl [0, 1, 2, 3] rfl) h
set_option maxHeartbeats 2000000 in
theorem w_X12_allNear_42 {p : Program} {l : Launch} {e : Env} {s : State} {m : MethodId} {args : Array Value} {below : List Frame} {meth : Method} {c : Code} {D : va_G} {G : Nat → ClassId} {B : Nat} {p1 : Int32} {p2 : Int32} {K9 : Int32 → Int32 → fp_Mem → Option (Int32 × fp_Mem)} {r : Int32} {M' : fp_Mem} (E : fp_EV p s m args meth c cX12_allNear 5 RX12 (some .boolean) D G) (HK9 : ∀ (wv3 : Int32) (wv4 : Int32) (wM : fp_Mem) {H : Heap} {locs : List Loc} {ls : Array Slot}, fp_H D G B s wM H locs → lv_has ls 5 [(0, .ref (B + 120)), (1, .int p1), (2, .int p2), (3, .int wv3), (4, .int wv4)] → K9 wv3 wv4 wM = some (r, M') → W p l e rm_X12_allNear s m args below meth c H locs 0 0 (MQ below (fp_Qi D G B r M') args s 0 0 (fp_A B)) (F0 m 9 ls [])) (v4 : Int32) (M : fp_Mem) {H : Heap} {locs : List Loc} {ls : Array Slot} (hG : fp_H D G B s M H locs) (hl : lv_has ls 5 [(0, .ref (B + 120)), (1, .int p1), (2, .int p2), (4, .int v4)]) (h : m_X12_allNear_42 p1 p2 K9 v4 M = some (r, M')) : W p l e rm_X12_allNear s m args below meth c H locs 0 0 (MQ below (fp_Qi D G B r M') args s 0 0 (fp_A B)) (F0 m 42 ls []) := by
  have hx := E.1
  have hb := E.2.1
  have hown := E.2.2.2.1
  unfold m_X12_allNear_42 at h
  refine lv_iconst (v := (nI 1)) hx hb dX12_allNear_42 (by decide) ?_
  refine lv_goto (tgt := 47) hx hb dX12_allNear_43 (by decide) ?_
  exact w_X12_allNear_47 E  HK9 _ _ _ hG (lv_sub hl [0, 1, 2, 3] rfl) h
set_option maxHeartbeats 2000000 in
theorem w_X12_allNear_9 {p : Program} {l : Launch} {e : Env} {s : State} {m : MethodId} {args : Array Value} {below : List Frame} {meth : Method} {c : Code} {D : va_G} {G : Nat → ClassId} {B : Nat} {p1 : Int32} {p2 : Int32} {r : Int32} {M' : fp_Mem} (E : fp_EV p s m args meth c cX12_allNear 5 RX12 (some .boolean) D G) : ∀ (n : Nat) (v3 : Int32) (v4 : Int32) (M : fp_Mem) {H : Heap} {locs : List Loc} {ls : Array Slot}, fp_H D G B s M H locs → lv_has ls 5 [(0, .ref (B + 120)), (1, .int p1), (2, .int p2), (3, .int v3), (4, .int v4)] → m_X12_allNear_9 p1 p2 n v3 v4 M = some (r, M') → W p l e rm_X12_allNear s m args below meth c H locs 0 0 (MQ below (fp_Qi D G B r M') args s 0 0 (fp_A B)) (F0 m 9 ls []) := by
  have hx := E.1
  have hb := E.2.1
  have hown := E.2.2.2.1
  intro n
  induction n with
  | zero =>
    intro v3 v4 M H locs ls hG hl h
    exact nomatch h
  | succ n ih =>
    have ihK := @ih
    intro v3 v4 M H locs ls hG hl h
    rw [m_X12_allNear_9] at h
    refine lv_iload hx hb dX12_allNear_9 (lv_at hl 4 rfl) ?_
    refine lv_aload_n hx hb dX12_allNear_11 rfl (lv_at hl 0 rfl) ?_
    refine fp_g12_1 E hG tw_806 dX12_allNear_12 ?_
    refine lv_icmp_ge (tgt := 54) hx hb dX12_allNear_15 (by decide) (fun q => ?_) (fun q => ?_)
    · replace h := fp_ifT q h
      refine lv_iload_n hx hb dX12_allNear_54 rfl (lv_at hl 3 rfl) ?_
      obtain ⟨g_2, h⟩ := fp_gd_s h
      exact fp_iretz E hG g_2 (fp_pr1 h) (fp_pr2 h) dX12_allNear_55
    · replace h := fp_ifF q h
      refine lv_iload_n hx hb dX12_allNear_18 rfl (lv_at hl 3 rfl) ?_
      refine lv_if_eq (tgt := 46) hx hb dX12_allNear_19 (by decide) (fun q => ?_) (fun q => ?_)
      · replace h := fp_ifT q h
        exact w_X12_allNear_46 E  ihK _ _ hG (lv_sub hl [0, 1, 2, 4] rfl) h
      · replace h := fp_ifF q h
        refine lv_iload_n hx hb dX12_allNear_22 rfl (lv_at hl 1 rfl) ?_
        refine lv_iload hx hb dX12_allNear_23 (lv_at hl 4 rfl) ?_
        obtain ⟨r_3, c_4, h⟩ := fp_b1_s h
        refine fp_callSi (As := [.int p1, .int v4]) (rest := []) E hG (c_X12_has l D G B c_4) cv_X12_has tw_999 tw_1000 ⟨rfl, rfl⟩ ⟨Nat.le_of_ble_eq_true rfl, Nat.le_of_ble_eq_true rfl⟩ rfl rfl (Nat.le_of_ble_eq_true rfl) hl.1 dX12_allNear_25 ⟨Nat.zero_le _, Nat.zero_le _⟩ (fun H locs hG => ?_)
        refine lv_if_eq (tgt := 42) hx hb dX12_allNear_28 (by decide) (fun q => ?_) (fun q => ?_)
        · replace h := fp_ifT q h
          exact w_X12_allNear_42 E  ihK _ _ hG (lv_sub hl [0, 1, 2, 4] rfl) h
        · replace h := fp_ifF q h
          refine lv_aload_n hx hb dX12_allNear_31 rfl (lv_at hl 0 rfl) ?_
          refine fp_g12_22 E hG tw_827 dX12_allNear_32 ?_
          refine lv_iload hx hb dX12_allNear_35 (lv_at hl 4 rfl) ?_
          obtain ⟨g_5, h⟩ := fp_gd_s h
          refine fp_iald E hG fp_cc130.1 (fp_a20 fp_cc130) (fp_in_s g_5) dX12_allNear_37 ?_
          refine lv_iload_n hx hb dX12_allNear_38 rfl (lv_at hl 2 rfl) ?_
          refine lv_icmp_gt (tgt := 46) hx hb dX12_allNear_39 (by decide) (fun q => ?_) (fun q => ?_)
          · replace h := fp_ifT q h
            exact w_X12_allNear_46 E  ihK _ _ hG (lv_sub hl [0, 1, 2, 4] rfl) h
          · replace h := fp_ifF q h
            exact w_X12_allNear_42 E  ihK _ _ hG (lv_sub hl [0, 1, 2, 4] rfl) h
set_option maxHeartbeats 2000000 in
theorem w_X12_allNear_0 {p : Program} {l : Launch} {e : Env} {s : State} {m : MethodId} {args : Array Value} {below : List Frame} {meth : Method} {c : Code} {D : va_G} {G : Nat → ClassId} {B : Nat} {p1 : Int32} {p2 : Int32} {r : Int32} {M' : fp_Mem} (E : fp_EV p s m args meth c cX12_allNear 5 RX12 (some .boolean) D G) {M : fp_Mem} {H : Heap} {locs : List Loc} {ls : Array Slot} (hG : fp_H D G B s M H locs) (hl : lv_has ls 5 [(0, .ref (B + 120)), (1, .int p1), (2, .int p2)]) (h : m_X12_allNear M p1 p2 = some (r, M')) : W p l e rm_X12_allNear s m args below meth c H locs 0 0 (MQ below (fp_Qi D G B r M') args s 0 0 (fp_A B)) (F0 m 0 ls []) := by
  have hx := E.1
  have hb := E.2.1
  have hown := E.2.2.2.1
  unfold m_X12_allNear at h
  refine lv_aload_n hx hb dX12_allNear_0 rfl (lv_at hl 0 rfl) ?_
  obtain ⟨M_6, c_7, h⟩ := fp_b1_s h
  refine fp_callVv (As := []) (rest := []) E hG (c_X12_findAway l D G B c_7) cv_X12_findAway tw_991 tw_993 ts_31 ⟨rfl, rfl⟩ ⟨Nat.le_of_ble_eq_true rfl, Nat.le_of_ble_eq_true rfl⟩ (fp_recv E hG (by decide) (fp_o12 _) rfl) rfl rfl (Nat.le_of_ble_eq_true rfl) hl.1 dX12_allNear_1 ⟨Nat.zero_le _, Nat.zero_le _⟩ (fun H locs hG => ?_)
  refine lv_iconst (v := (nI 1)) hx hb dX12_allNear_4 (by decide) ?_
  refine lv_istore_n (lv' := [(3, .int (nI 1)), (0, .ref (B + 120)), (1, .int p1), (2, .int p2)]) hx hb dX12_allNear_5 rfl hl (by decide) rfl (fun ls hl => ?_)
  refine lv_iconst (v := (nI 0)) hx hb dX12_allNear_6 (by decide) ?_
  refine lv_istore (lv' := [(4, .int (nI 0)), (3, .int (nI 1)), (0, .ref (B + 120)), (1, .int p1), (2, .int p2)]) hx hb dX12_allNear_7 hl (by decide) rfl (fun ls hl => ?_)
  exact w_X12_allNear_9 E   fp_fu _ _ _ hG (lv_sub hl [2, 3, 4, 1, 0] rfl) h
theorem c_X12_allNear (l : Launch) (D : va_G) (G : Nat → ClassId) (B : Nat) {M : fp_Mem}  {p1 : Int32} {p2 : Int32} {r : Int32} {M' : fp_Mem}  (h : m_X12_allNear M p1 p2 = some (r, M')) : Met l yX12_allNear (Cond.code yX12_allNear cX12_allNear 5 (some .boolean) :: fp_T) rm_X12_allNear (va_Pc [.ref (B + 120), .int p1, .int p2] (fp_GS D G B M)) (fp_Qi D G B r M') 0 0 (fp_A B) :=
  fp_met (own := RX12) (by decide) rfl (Nat.le_of_ble_eq_true rfl) (fun E hG hl => w_X12_allNear_0 E  hG hl h)
abbrev rm_X12_buildBy : Room := { frames := 0, cells := 0, slots := 0, locals := 0 }
theorem cv_X12_buildBy : fp_CV yX12_buildBy cX12_buildBy 8 (some .boolean) 2 := ⟨tw_1118, tw_13, by decide, by decide +kernel⟩
set_option maxHeartbeats 2000000 in
theorem w_X12_buildBy_103 {p : Program} {l : Launch} {e : Env} {s : State} {m : MethodId} {args : Array Value} {below : List Frame} {meth : Method} {c : Code} {D : va_G} {G : Nat → ClassId} {B : Nat} {p1 : Int32} {p2 : Int32} {K12 : Int32 → Int32 → Int32 → Int32 → fp_Mem → Option (Int32 × fp_Mem)} {r : Int32} {M' : fp_Mem} (E : fp_EV p s m args meth c cX12_buildBy 8 RX12 (some .boolean) D G) (HK12 : ∀ (wv3 : Int32) (wv4 : Int32) (wv5 : Int32) (wv6 : Int32) (wM : fp_Mem) {H : Heap} {locs : List Loc} {ls : Array Slot}, fp_H D G B s wM H locs → lv_has ls 8 [(0, .ref (B + 120)), (2, .int p2), (3, .int wv3), (4, .int wv4), (5, .int wv5), (6, .int wv6)] → K12 wv3 wv4 wv5 wv6 wM = some (r, M') → W p l e rm_X12_buildBy s m args below meth c H locs 0 0 (MQ below (fp_Qi D G B r M') args s 0 0 (fp_A B)) (F0 m 12 ls [])) (v3 : Int32) (v4 : Int32) (v6 : Int32) (s0 : Int32) (M : fp_Mem) {H : Heap} {locs : List Loc} {ls : Array Slot} (hG : fp_H D G B s M H locs) (hl : lv_has ls 8 [(0, .ref (B + 120)), (2, .int p2), (3, .int v3), (4, .int v4), (6, .int v6)]) (h : m_X12_buildBy_103 p1 p2 K12 v3 v4 v6 s0 M = some (r, M')) : W p l e rm_X12_buildBy s m args below meth c H locs 0 0 (MQ below (fp_Qi D G B r M') args s 0 0 (fp_A B)) (F0 m 103 ls [.int s0]) := by
  have hx := E.1
  have hb := E.2.1
  have hown := E.2.2.2.1
  unfold m_X12_buildBy_103 at h
  refine lv_istore (lv' := [(5, .int s0), (0, .ref (B + 120)), (2, .int p2), (3, .int v3), (4, .int v4), (6, .int v6)]) hx hb dX12_buildBy_103 hl (by decide) rfl (fun ls hl => ?_)
  obtain ⟨x_1, ex_1, h⟩ := fp_lt_s h
  refine lv_iinc (v := x_1) (lv' := [(6, .int x_1), (5, .int s0), (0, .ref (B + 120)), (2, .int p2), (3, .int v3), (4, .int v4)]) hx hb dX12_buildBy_105 hl (k := 5) rfl (by rw [ex_1]; rfl) (by decide) rfl (fun ls hl => ?_)
  refine lv_goto (tgt := 12) hx hb dX12_buildBy_108 (by decide) ?_
  exact HK12 _ _ _ _ _ hG (lv_sub hl [2, 3, 4, 5, 1, 0] rfl) h
set_option maxHeartbeats 2000000 in
theorem w_X12_buildBy_102 {p : Program} {l : Launch} {e : Env} {s : State} {m : MethodId} {args : Array Value} {below : List Frame} {meth : Method} {c : Code} {D : va_G} {G : Nat → ClassId} {B : Nat} {p1 : Int32} {p2 : Int32} {K12 : Int32 → Int32 → Int32 → Int32 → fp_Mem → Option (Int32 × fp_Mem)} {r : Int32} {M' : fp_Mem} (E : fp_EV p s m args meth c cX12_buildBy 8 RX12 (some .boolean) D G) (HK12 : ∀ (wv3 : Int32) (wv4 : Int32) (wv5 : Int32) (wv6 : Int32) (wM : fp_Mem) {H : Heap} {locs : List Loc} {ls : Array Slot}, fp_H D G B s wM H locs → lv_has ls 8 [(0, .ref (B + 120)), (2, .int p2), (3, .int wv3), (4, .int wv4), (5, .int wv5), (6, .int wv6)] → K12 wv3 wv4 wv5 wv6 wM = some (r, M') → W p l e rm_X12_buildBy s m args below meth c H locs 0 0 (MQ below (fp_Qi D G B r M') args s 0 0 (fp_A B)) (F0 m 12 ls [])) (v3 : Int32) (v4 : Int32) (v6 : Int32) (M : fp_Mem) {H : Heap} {locs : List Loc} {ls : Array Slot} (hG : fp_H D G B s M H locs) (hl : lv_has ls 8 [(0, .ref (B + 120)), (2, .int p2), (3, .int v3), (4, .int v4), (6, .int v6)]) (h : m_X12_buildBy_102 p1 p2 K12 v3 v4 v6 M = some (r, M')) : W p l e rm_X12_buildBy s m args below meth c H locs 0 0 (MQ below (fp_Qi D G B r M') args s 0 0 (fp_A B)) (F0 m 102 ls []) := by
  have hx := E.1
  have hb := E.2.1
  have hown := E.2.2.2.1
  unfold m_X12_buildBy_102 at h
  refine lv_iconst (v := (nI 0)) hx hb dX12_buildBy_102 (by decide) ?_
  exact w_X12_buildBy_103 E  HK12 _ _ _ _ _ hG (lv_sub hl [0, 1, 2, 3, 4] rfl) h
set_option maxHeartbeats 2000000 in
theorem w_X12_buildBy_79 {p : Program} {l : Launch} {e : Env} {s : State} {m : MethodId} {args : Array Value} {below : List Frame} {meth : Method} {c : Code} {D : va_G} {G : Nat → ClassId} {B : Nat} {p1 : Int32} {p2 : Int32} {K12 : Int32 → Int32 → Int32 → Int32 → fp_Mem → Option (Int32 × fp_Mem)} {r : Int32} {M' : fp_Mem} (E : fp_EV p s m args meth c cX12_buildBy 8 RX12 (some .boolean) D G) (HK12 : ∀ (wv3 : Int32) (wv4 : Int32) (wv5 : Int32) (wv6 : Int32) (wM : fp_Mem) {H : Heap} {locs : List Loc} {ls : Array Slot}, fp_H D G B s wM H locs → lv_has ls 8 [(0, .ref (B + 120)), (2, .int p2), (3, .int wv3), (4, .int wv4), (5, .int wv5), (6, .int wv6)] → K12 wv3 wv4 wv5 wv6 wM = some (r, M') → W p l e rm_X12_buildBy s m args below meth c H locs 0 0 (MQ below (fp_Qi D G B r M') args s 0 0 (fp_A B)) (F0 m 12 ls [])) (v3 : Int32) (v4 : Int32) (v5 : Int32) (v6 : Int32) (v7 : Int32) (s1 : Int32) (s2 : Int32) (s3 : Int32) (M : fp_Mem) {H : Heap} {locs : List Loc} {ls : Array Slot} (hG : fp_H D G B s M H locs) (hl : lv_has ls 8 [(0, .ref (B + 120)), (2, .int p2), (3, .int v3), (4, .int v4), (5, .int v5), (6, .int v6), (7, .int v7)]) (h : m_X12_buildBy_79 p1 p2 K12 v3 v4 v5 v6 v7 s1 s2 s3 M = some (r, M')) : W p l e rm_X12_buildBy s m args below meth c H locs 0 0 (MQ below (fp_Qi D G B r M') args s 0 0 (fp_A B)) (F0 m 79 ls [.int s3, .int s2, .int s1, .ref (B + 123)]) := by
  have hx := E.1
  have hb := E.2.1
  have hown := E.2.2.2.1
  unfold m_X12_buildBy_79 at h
  refine lv_iadd hx hb dX12_buildBy_79 ?_
  obtain ⟨g_2, h⟩ := fp_gd_s h
  obtain ⟨M_3, eM_3, h⟩ := fp_lt_s h
  refine fp_iast E hG fp_cc123.1 (fp_a28 fp_cc123) (fp_in_s g_2) dX12_buildBy_80 (fun H locs hG => ?_)
  replace hG := fp_memH eM_3 hG
  refine lv_iload hx hb dX12_buildBy_81 (lv_at hl 4 rfl) ?_
  refine lv_if_eq (tgt := 102) hx hb dX12_buildBy_83 (by decide) (fun q => ?_) (fun q => ?_)
  · replace h := fp_ifT q h
    exact w_X12_buildBy_102 E  HK12 _ _ _ _ hG (lv_sub hl [0, 1, 2, 3, 5] rfl) h
  · replace h := fp_ifF q h
    refine lv_aload_n hx hb dX12_buildBy_86 rfl (lv_at hl 0 rfl) ?_
    refine fp_g12_5 E hG tw_810 dX12_buildBy_87 ?_
    refine lv_iload hx hb dX12_buildBy_90 (lv_at hl 6 rfl) ?_
    obtain ⟨g_4, h⟩ := fp_gd_s h
    refine fp_iald E hG fp_cc123.1 (fp_a28 fp_cc123) (fp_in_s g_4) dX12_buildBy_92 ?_
    refine lv_bipush (v := (nI 20)) hx hb dX12_buildBy_93 (by decide) ?_
    refine lv_icmp_gt (tgt := 102) hx hb dX12_buildBy_95 (by decide) (fun q => ?_) (fun q => ?_)
    · replace h := fp_ifT q h
      exact w_X12_buildBy_102 E  HK12 _ _ _ _ hG (lv_sub hl [0, 1, 2, 3, 5] rfl) h
    · replace h := fp_ifF q h
      refine lv_iconst (v := (nI 1)) hx hb dX12_buildBy_98 (by decide) ?_
      refine lv_goto (tgt := 103) hx hb dX12_buildBy_99 (by decide) ?_
      exact w_X12_buildBy_103 E  HK12 _ _ _ _ _ hG (lv_sub hl [0, 1, 2, 3, 5] rfl) h
set_option maxHeartbeats 2000000 in
theorem w_X12_buildBy_55 {p : Program} {l : Launch} {e : Env} {s : State} {m : MethodId} {args : Array Value} {below : List Frame} {meth : Method} {c : Code} {D : va_G} {G : Nat → ClassId} {B : Nat} {p1 : Int32} {p2 : Int32} {K12 : Int32 → Int32 → Int32 → Int32 → fp_Mem → Option (Int32 × fp_Mem)} {r : Int32} {M' : fp_Mem} (E : fp_EV p s m args meth c cX12_buildBy 8 RX12 (some .boolean) D G) (HK12 : ∀ (wv3 : Int32) (wv4 : Int32) (wv5 : Int32) (wv6 : Int32) (wM : fp_Mem) {H : Heap} {locs : List Loc} {ls : Array Slot}, fp_H D G B s wM H locs → lv_has ls 8 [(0, .ref (B + 120)), (2, .int p2), (3, .int wv3), (4, .int wv4), (5, .int wv5), (6, .int wv6)] → K12 wv3 wv4 wv5 wv6 wM = some (r, M') → W p l e rm_X12_buildBy s m args below meth c H locs 0 0 (MQ below (fp_Qi D G B r M') args s 0 0 (fp_A B)) (F0 m 12 ls [])) (v3 : Int32) (v6 : Int32) (v7 : Int32) (s0 : Int32) (M : fp_Mem) {H : Heap} {locs : List Loc} {ls : Array Slot} (hG : fp_H D G B s M H locs) (hl : lv_has ls 8 [(0, .ref (B + 120)), (2, .int p2), (3, .int v3), (6, .int v6), (7, .int v7)]) (h : m_X12_buildBy_55 p1 p2 K12 v3 v6 v7 s0 M = some (r, M')) : W p l e rm_X12_buildBy s m args below meth c H locs 0 0 (MQ below (fp_Qi D G B r M') args s 0 0 (fp_A B)) (F0 m 55 ls [.int s0]) := by
  have hx := E.1
  have hb := E.2.1
  have hown := E.2.2.2.1
  unfold m_X12_buildBy_55 at h
  refine lv_istore (lv' := [(5, .int s0), (0, .ref (B + 120)), (2, .int p2), (3, .int v3), (6, .int v6), (7, .int v7)]) hx hb dX12_buildBy_55 hl (by decide) rfl (fun ls hl => ?_)
  refine lv_iload hx hb dX12_buildBy_57 (lv_at hl 5 rfl) ?_
  refine lv_istore (lv' := [(4, .int v7), (5, .int s0), (0, .ref (B + 120)), (2, .int p2), (3, .int v3), (6, .int v6), (7, .int v7)]) hx hb dX12_buildBy_59 hl (by decide) rfl (fun ls hl => ?_)
  refine lv_aload_n hx hb dX12_buildBy_61 rfl (lv_at hl 2 rfl) ?_
  refine fp_g12_5 E hG tw_810 dX12_buildBy_62 ?_
  refine lv_iload hx hb dX12_buildBy_65 (lv_at hl 6 rfl) ?_
  refine lv_dup2_11 hx hb dX12_buildBy_67 rfl rfl ?_
  obtain ⟨g_5, h⟩ := fp_gd_s h
  refine fp_iald E hG fp_cc123.1 (fp_a28 fp_cc123) (fp_in_s g_5) dX12_buildBy_68 ?_
  refine lv_iload hx hb dX12_buildBy_69 (lv_at hl 1 rfl) ?_
  refine lv_if_eq (tgt := 78) hx hb dX12_buildBy_71 (by decide) (fun q => ?_) (fun q => ?_)
  · replace h := fp_ifT q h
    refine lv_iconst (v := (nI 0)) hx hb dX12_buildBy_78 (by decide) ?_
    exact w_X12_buildBy_79 E  HK12 _ _ _ _ _ _ _ _ _ hG (lv_sub hl [2, 3, 4, 0, 1, 5, 6] rfl) h
  · replace h := fp_ifF q h
    refine lv_iconst (v := (nI 1)) hx hb dX12_buildBy_74 (by decide) ?_
    refine lv_goto (tgt := 79) hx hb dX12_buildBy_75 (by decide) ?_
    exact w_X12_buildBy_79 E  HK12 _ _ _ _ _ _ _ _ _ hG (lv_sub hl [2, 3, 4, 0, 1, 5, 6] rfl) h
set_option maxHeartbeats 2000000 in
theorem w_X12_buildBy_54 {p : Program} {l : Launch} {e : Env} {s : State} {m : MethodId} {args : Array Value} {below : List Frame} {meth : Method} {c : Code} {D : va_G} {G : Nat → ClassId} {B : Nat} {p1 : Int32} {p2 : Int32} {K12 : Int32 → Int32 → Int32 → Int32 → fp_Mem → Option (Int32 × fp_Mem)} {r : Int32} {M' : fp_Mem} (E : fp_EV p s m args meth c cX12_buildBy 8 RX12 (some .boolean) D G) (HK12 : ∀ (wv3 : Int32) (wv4 : Int32) (wv5 : Int32) (wv6 : Int32) (wM : fp_Mem) {H : Heap} {locs : List Loc} {ls : Array Slot}, fp_H D G B s wM H locs → lv_has ls 8 [(0, .ref (B + 120)), (2, .int p2), (3, .int wv3), (4, .int wv4), (5, .int wv5), (6, .int wv6)] → K12 wv3 wv4 wv5 wv6 wM = some (r, M') → W p l e rm_X12_buildBy s m args below meth c H locs 0 0 (MQ below (fp_Qi D G B r M') args s 0 0 (fp_A B)) (F0 m 12 ls [])) (v3 : Int32) (v6 : Int32) (v7 : Int32) (M : fp_Mem) {H : Heap} {locs : List Loc} {ls : Array Slot} (hG : fp_H D G B s M H locs) (hl : lv_has ls 8 [(0, .ref (B + 120)), (2, .int p2), (3, .int v3), (6, .int v6), (7, .int v7)]) (h : m_X12_buildBy_54 p1 p2 K12 v3 v6 v7 M = some (r, M')) : W p l e rm_X12_buildBy s m args below meth c H locs 0 0 (MQ below (fp_Qi D G B r M') args s 0 0 (fp_A B)) (F0 m 54 ls []) := by
  have hx := E.1
  have hb := E.2.1
  have hown := E.2.2.2.1
  unfold m_X12_buildBy_54 at h
  refine lv_iconst (v := (nI 0)) hx hb dX12_buildBy_54 (by decide) ?_
  exact w_X12_buildBy_55 E  HK12 _ _ _ _ _ hG (lv_sub hl [0, 1, 2, 3, 4] rfl) h
set_option maxHeartbeats 2000000 in
theorem w_X12_buildBy_12 {p : Program} {l : Launch} {e : Env} {s : State} {m : MethodId} {args : Array Value} {below : List Frame} {meth : Method} {c : Code} {D : va_G} {G : Nat → ClassId} {B : Nat} {p1 : Int32} {p2 : Int32} {r : Int32} {M' : fp_Mem} (E : fp_EV p s m args meth c cX12_buildBy 8 RX12 (some .boolean) D G) : ∀ (n : Nat) (v3 : Int32) (v4 : Int32) (v5 : Int32) (v6 : Int32) (M : fp_Mem) {H : Heap} {locs : List Loc} {ls : Array Slot}, fp_H D G B s M H locs → lv_has ls 8 [(0, .ref (B + 120)), (2, .int p2), (3, .int v3), (4, .int v4), (5, .int v5), (6, .int v6)] → m_X12_buildBy_12 p1 p2 n v3 v4 v5 v6 M = some (r, M') → W p l e rm_X12_buildBy s m args below meth c H locs 0 0 (MQ below (fp_Qi D G B r M') args s 0 0 (fp_A B)) (F0 m 12 ls []) := by
  have hx := E.1
  have hb := E.2.1
  have hown := E.2.2.2.1
  intro n
  induction n with
  | zero =>
    intro v3 v4 v5 v6 M H locs ls hG hl h
    exact nomatch h
  | succ n ih =>
    have ihK := @ih
    intro v3 v4 v5 v6 M H locs ls hG hl h
    rw [m_X12_buildBy_12] at h
    refine lv_iload hx hb dX12_buildBy_12 (lv_at hl 5 rfl) ?_
    refine lv_iload_n hx hb dX12_buildBy_14 rfl (lv_at hl 1 rfl) ?_
    refine lv_icmp_ge (tgt := 111) hx hb dX12_buildBy_15 (by decide) (fun q => ?_) (fun q => ?_)
    · replace h := fp_ifT q h
      refine lv_iload hx hb dX12_buildBy_111 (lv_at hl 4 rfl) ?_
      obtain ⟨g_6, h⟩ := fp_gd_s h
      exact fp_iretz E hG g_6 (fp_pr1 h) (fp_pr2 h) dX12_buildBy_113
    · replace h := fp_ifF q h
      refine lv_iload_n hx hb dX12_buildBy_18 rfl (lv_at hl 2 rfl) ?_
      refine lv_bipush (v := (nI 9)) hx hb dX12_buildBy_19 (by decide) ?_
      refine lv_irem hx hb dX12_buildBy_21 (by decide) ?_
      obtain ⟨x_7, ex_7, h⟩ := fp_lt_s h
      refine fp_top ex_7 ?_
      refine lv_istore (lv' := [(7, .int x_7), (0, .ref (B + 120)), (2, .int p2), (3, .int v3), (4, .int v4), (5, .int v5), (6, .int v6)]) hx hb dX12_buildBy_22 hl (by decide) rfl (fun ls hl => ?_)
      refine lv_iload_n hx hb dX12_buildBy_24 rfl (lv_at hl 3 rfl) ?_
      refine lv_bipush (v := (nI 9)) hx hb dX12_buildBy_25 (by decide) ?_
      refine lv_idiv hx hb dX12_buildBy_27 (by decide) ?_
      obtain ⟨x_8, ex_8, h⟩ := fp_lt_s h
      refine fp_top ex_8 ?_
      refine lv_istore_n (lv' := [(3, .int x_8), (7, .int x_7), (0, .ref (B + 120)), (2, .int p2), (4, .int v4), (5, .int v5), (6, .int v6)]) hx hb dX12_buildBy_28 rfl hl (by decide) rfl (fun ls hl => ?_)
      refine lv_iload hx hb dX12_buildBy_29 (lv_at hl 5 rfl) ?_
      refine lv_if_eq (tgt := 54) hx hb dX12_buildBy_31 (by decide) (fun q => ?_) (fun q => ?_)
      · replace h := fp_ifT q h
        exact w_X12_buildBy_54 E  ihK _ _ _ _ hG (lv_sub hl [2, 3, 0, 6, 1] rfl) h
      · replace h := fp_ifF q h
        refine lv_iload hx hb dX12_buildBy_34 (lv_at hl 1 rfl) ?_
        refine lv_iload hx hb dX12_buildBy_36 (lv_at hl 4 rfl) ?_
        refine lv_icmp_gt (tgt := 54) hx hb dX12_buildBy_38 (by decide) (fun q => ?_) (fun q => ?_)
        · replace h := fp_ifT q h
          exact w_X12_buildBy_54 E  ihK _ _ _ _ hG (lv_sub hl [2, 3, 0, 6, 1] rfl) h
        · replace h := fp_ifF q h
          refine lv_iload hx hb dX12_buildBy_41 (lv_at hl 1 rfl) ?_
          refine lv_aload_n hx hb dX12_buildBy_43 rfl (lv_at hl 2 rfl) ?_
          refine fp_g12_1 E hG tw_806 dX12_buildBy_44 ?_
          refine lv_icmp_ge (tgt := 54) hx hb dX12_buildBy_47 (by decide) (fun q => ?_) (fun q => ?_)
          · replace h := fp_ifT q h
            exact w_X12_buildBy_54 E  ihK _ _ _ _ hG (lv_sub hl [2, 3, 0, 6, 1] rfl) h
          · replace h := fp_ifF q h
            refine lv_iconst (v := (nI 1)) hx hb dX12_buildBy_50 (by decide) ?_
            refine lv_goto (tgt := 55) hx hb dX12_buildBy_51 (by decide) ?_
            exact w_X12_buildBy_55 E  ihK _ _ _ _ _ hG (lv_sub hl [2, 3, 0, 6, 1] rfl) h
set_option maxHeartbeats 2000000 in
theorem w_X12_buildBy_0 {p : Program} {l : Launch} {e : Env} {s : State} {m : MethodId} {args : Array Value} {below : List Frame} {meth : Method} {c : Code} {D : va_G} {G : Nat → ClassId} {B : Nat} {p1 : Int32} {p2 : Int32} {r : Int32} {M' : fp_Mem} (E : fp_EV p s m args meth c cX12_buildBy 8 RX12 (some .boolean) D G) {M : fp_Mem} {H : Heap} {locs : List Loc} {ls : Array Slot} (hG : fp_H D G B s M H locs) (hl : lv_has ls 8 [(0, .ref (B + 120)), (1, .int p1), (2, .int p2)]) (h : m_X12_buildBy M p1 p2 = some (r, M')) : W p l e rm_X12_buildBy s m args below meth c H locs 0 0 (MQ below (fp_Qi D G B r M') args s 0 0 (fp_A B)) (F0 m 0 ls []) := by
  have hx := E.1
  have hb := E.2.1
  have hown := E.2.2.2.1
  unfold m_X12_buildBy at h
  refine lv_iload_n hx hb dX12_buildBy_0 rfl (lv_at hl 1 rfl) ?_
  refine lv_istore_n (lv' := [(3, .int p1), (0, .ref (B + 120)), (1, .int p1), (2, .int p2)]) hx hb dX12_buildBy_1 rfl hl (by decide) rfl (fun ls hl => ?_)
  refine lv_bipush (v := (nI 9)) hx hb dX12_buildBy_2 (by decide) ?_
  refine lv_istore (lv' := [(4, .int (nI 9)), (3, .int p1), (0, .ref (B + 120)), (1, .int p1), (2, .int p2)]) hx hb dX12_buildBy_4 hl (by decide) rfl (fun ls hl => ?_)
  refine lv_iconst (v := (nI 1)) hx hb dX12_buildBy_6 (by decide) ?_
  refine lv_istore (lv' := [(5, .int (nI 1)), (4, .int (nI 9)), (3, .int p1), (0, .ref (B + 120)), (1, .int p1), (2, .int p2)]) hx hb dX12_buildBy_7 hl (by decide) rfl (fun ls hl => ?_)
  refine lv_iconst (v := (nI 0)) hx hb dX12_buildBy_9 (by decide) ?_
  refine lv_istore (lv' := [(6, .int (nI 0)), (5, .int (nI 1)), (4, .int (nI 9)), (3, .int p1), (0, .ref (B + 120)), (1, .int p1), (2, .int p2)]) hx hb dX12_buildBy_10 hl (by decide) rfl (fun ls hl => ?_)
  exact w_X12_buildBy_12 E   fp_fu _ _ _ _ _ hG (lv_sub hl [4, 6, 3, 2, 1, 0] rfl) h
theorem c_X12_buildBy (l : Launch) (D : va_G) (G : Nat → ClassId) (B : Nat) {M : fp_Mem}  {p1 : Int32} {p2 : Int32} {r : Int32} {M' : fp_Mem}  (h : m_X12_buildBy M p1 p2 = some (r, M')) : Met l yX12_buildBy (Cond.code yX12_buildBy cX12_buildBy 8 (some .boolean) :: fp_T) rm_X12_buildBy (va_Pc [.ref (B + 120), .int p1, .int p2] (fp_GS D G B M)) (fp_Qi D G B r M') 0 0 (fp_A B) :=
  fp_met (own := RX12) (by decide) rfl (Nat.le_of_ble_eq_true rfl) (fun E hG hl => w_X12_buildBy_0 E  hG hl h)
abbrev rm_X12_findChairs : Room := { frames := 4, cells := 0, slots := 0, locals := 93 }
theorem cv_X12_findChairs : fp_CV yX12_findChairs cX12_findChairs 8 (some .int) 2 := ⟨tw_1114, tw_13, by decide, by decide +kernel⟩
set_option maxHeartbeats 2000000 in
theorem w_X12_findChairs_54 {p : Program} {l : Launch} {e : Env} {s : State} {m : MethodId} {args : Array Value} {below : List Frame} {meth : Method} {c : Code} {D : va_G} {G : Nat → ClassId} {B : Nat} {p1 : Int32} {p2 : Int32} {K9 : Int32 → Int32 → fp_Mem → Option (Int32 × fp_Mem)} {K18 : Int32 → Int32 → Int32 → fp_Mem → Option (Int32 × fp_Mem)} {r : Int32} {M' : fp_Mem} (E : fp_EV p s m args meth c cX12_findChairs 8 RX12 (some .int) D G) (HK9 : ∀ (wv3 : Int32) (wv4 : Int32) (wM : fp_Mem) {H : Heap} {locs : List Loc} {ls : Array Slot}, fp_H D G B s wM H locs → lv_has ls 8 [(0, .ref (B + 120)), (1, .int p1), (2, .int p2), (3, .int wv3), (4, .int wv4)] → K9 wv3 wv4 wM = some (r, M') → W p l e rm_X12_findChairs s m args below meth c H locs 0 0 (MQ below (fp_Qi D G B r M') args s 0 0 (fp_A B)) (F0 m 9 ls [])) (HK18 : ∀ (wv3 : Int32) (wv4 : Int32) (wv5 : Int32) (wM : fp_Mem) {H : Heap} {locs : List Loc} {ls : Array Slot}, fp_H D G B s wM H locs → lv_has ls 8 [(0, .ref (B + 120)), (1, .int p1), (2, .int p2), (3, .int wv3), (4, .int wv4), (5, .int wv5)] → K18 wv3 wv4 wv5 wM = some (r, M') → W p l e rm_X12_findChairs s m args below meth c H locs 0 0 (MQ below (fp_Qi D G B r M') args s 0 0 (fp_A B)) (F0 m 18 ls [])) : ∀ (n : Nat) (v3 : Int32) (v4 : Int32) (v5 : Int32) (v6 : Int32) (v7 : Int32) (M : fp_Mem) {H : Heap} {locs : List Loc} {ls : Array Slot}, fp_H D G B s M H locs → lv_has ls 8 [(0, .ref (B + 120)), (1, .int p1), (2, .int p2), (3, .int v3), (4, .int v4), (5, .int v5), (6, .int v6), (7, .int v7)] → m_X12_findChairs_54 p1 p2 K9 K18 n v3 v4 v5 v6 v7 M = some (r, M') → W p l e rm_X12_findChairs s m args below meth c H locs 0 0 (MQ below (fp_Qi D G B r M') args s 0 0 (fp_A B)) (F0 m 54 ls []) := by
  have hx := E.1
  have hb := E.2.1
  have hown := E.2.2.2.1
  intro n
  induction n with
  | zero =>
    intro v3 v4 v5 v6 v7 M H locs ls hG hl h
    exact nomatch h
  | succ n ih =>
    have ihK := @ih
    intro v3 v4 v5 v6 v7 M H locs ls hG hl h
    rw [m_X12_findChairs_54] at h
    refine lv_iload hx hb dX12_findChairs_54 (lv_at hl 7 rfl) ?_
    refine lv_bipush (v := (nI 9)) hx hb dX12_findChairs_56 (by decide) ?_
    refine lv_icmp_ge (tgt := 89) hx hb dX12_findChairs_58 (by decide) (fun q => ?_) (fun q => ?_)
    · replace h := fp_ifT q h
      refine lv_aload_n hx hb dX12_findChairs_89 rfl (lv_at hl 0 rfl) ?_
      obtain ⟨M_1, c_2, h⟩ := fp_b1_s h
      refine fp_callVv (As := []) (rest := []) E hG (c_X12_putBack l D G B c_2) cv_X12_putBack tw_1102 tw_1104 ts_43 ⟨rfl, rfl⟩ ⟨Nat.le_of_ble_eq_true rfl, Nat.le_of_ble_eq_true rfl⟩ (fp_recv E hG (by decide) (fp_o12 _) rfl) rfl rfl (Nat.le_of_ble_eq_true rfl) hl.1 dX12_findChairs_90 ⟨Nat.zero_le _, Nat.zero_le _⟩ (fun H locs hG => ?_)
      refine lv_iload hx hb dX12_findChairs_93 (lv_at hl 6 rfl) ?_
      refine lv_if_eq (tgt := 101) hx hb dX12_findChairs_95 (by decide) (fun q => ?_) (fun q => ?_)
      · replace h := fp_ifT q h
        obtain ⟨x_3, ex_3, h⟩ := fp_lt_s h
        refine lv_iinc (v := x_3) (lv' := [(5, .int x_3), (0, .ref (B + 120)), (1, .int p1), (2, .int p2), (3, .int v3), (4, .int v4), (6, .int v6), (7, .int v7)]) hx hb dX12_findChairs_101 hl (k := 5) rfl (by rw [ex_3]; rfl) (by decide) rfl (fun ls hl => ?_)
        refine lv_goto (tgt := 18) hx hb dX12_findChairs_104 (by decide) ?_
        exact HK18 _ _ _ _ hG (lv_sub hl [1, 2, 3, 4, 5, 0] rfl) h
      · replace h := fp_ifF q h
        refine lv_iload hx hb dX12_findChairs_98 (lv_at hl 4 rfl) ?_
        exact fp_ireti E hG (fp_pr1 h) (fp_pr2 h) dX12_findChairs_100
    · replace h := fp_ifF q h
      refine lv_aload_n hx hb dX12_findChairs_61 rfl (lv_at hl 0 rfl) ?_
      refine fp_g12_26 E hG tw_831 dX12_findChairs_62 ?_
      refine lv_iload hx hb dX12_findChairs_65 (lv_at hl 7 rfl) ?_
      refine lv_aload_n hx hb dX12_findChairs_67 rfl (lv_at hl 0 rfl) ?_
      refine fp_g12_5 E hG tw_810 dX12_findChairs_68 ?_
      refine lv_iload hx hb dX12_findChairs_71 (lv_at hl 7 rfl) ?_
      obtain ⟨g_4, h⟩ := fp_gd_s h
      refine fp_iald E hG fp_cc123.1 (fp_a28 fp_cc123) (fp_in_s g_4) dX12_findChairs_73 ?_
      refine lv_aload_n hx hb dX12_findChairs_74 rfl (lv_at hl 0 rfl) ?_
      refine fp_g12_25 E hG tw_830 dX12_findChairs_75 ?_
      refine lv_iload hx hb dX12_findChairs_78 (lv_at hl 7 rfl) ?_
      obtain ⟨g_5, h⟩ := fp_gd_s h
      refine fp_iald E hG fp_cc132.1 (fp_a28 fp_cc132) (fp_in_s g_5) dX12_findChairs_80 ?_
      refine lv_isub hx hb dX12_findChairs_81 ?_
      obtain ⟨g_6, h⟩ := fp_gd_s h
      obtain ⟨M_7, eM_7, h⟩ := fp_lt_s h
      refine fp_iast E hG fp_cc133.1 (fp_a20 fp_cc133) (fp_in_s g_6) dX12_findChairs_82 (fun H locs hG => ?_)
      replace hG := fp_memH eM_7 hG
      obtain ⟨x_8, ex_8, h⟩ := fp_lt_s h
      refine lv_iinc (v := x_8) (lv' := [(7, .int x_8), (0, .ref (B + 120)), (1, .int p1), (2, .int p2), (3, .int v3), (4, .int v4), (5, .int v5), (6, .int v6)]) hx hb dX12_findChairs_83 hl (k := 7) rfl (by rw [ex_8]; rfl) (by decide) rfl (fun ls hl => ?_)
      refine lv_goto (tgt := 54) hx hb dX12_findChairs_86 (by decide) ?_
      exact ih _ _ _ _ _ _ hG (lv_sub hl [1, 2, 3, 4, 5, 6, 7, 0] rfl) h
set_option maxHeartbeats 2000000 in
theorem w_X12_findChairs_49 {p : Program} {l : Launch} {e : Env} {s : State} {m : MethodId} {args : Array Value} {below : List Frame} {meth : Method} {c : Code} {D : va_G} {G : Nat → ClassId} {B : Nat} {p1 : Int32} {p2 : Int32} {K9 : Int32 → Int32 → fp_Mem → Option (Int32 × fp_Mem)} {K18 : Int32 → Int32 → Int32 → fp_Mem → Option (Int32 × fp_Mem)} {r : Int32} {M' : fp_Mem} (E : fp_EV p s m args meth c cX12_findChairs 8 RX12 (some .int) D G) (HK9 : ∀ (wv3 : Int32) (wv4 : Int32) (wM : fp_Mem) {H : Heap} {locs : List Loc} {ls : Array Slot}, fp_H D G B s wM H locs → lv_has ls 8 [(0, .ref (B + 120)), (1, .int p1), (2, .int p2), (3, .int wv3), (4, .int wv4)] → K9 wv3 wv4 wM = some (r, M') → W p l e rm_X12_findChairs s m args below meth c H locs 0 0 (MQ below (fp_Qi D G B r M') args s 0 0 (fp_A B)) (F0 m 9 ls [])) (HK18 : ∀ (wv3 : Int32) (wv4 : Int32) (wv5 : Int32) (wM : fp_Mem) {H : Heap} {locs : List Loc} {ls : Array Slot}, fp_H D G B s wM H locs → lv_has ls 8 [(0, .ref (B + 120)), (1, .int p1), (2, .int p2), (3, .int wv3), (4, .int wv4), (5, .int wv5)] → K18 wv3 wv4 wv5 wM = some (r, M') → W p l e rm_X12_findChairs s m args below meth c H locs 0 0 (MQ below (fp_Qi D G B r M') args s 0 0 (fp_A B)) (F0 m 18 ls [])) (v3 : Int32) (v4 : Int32) (v5 : Int32) (s0 : Int32) (M : fp_Mem) {H : Heap} {locs : List Loc} {ls : Array Slot} (hG : fp_H D G B s M H locs) (hl : lv_has ls 8 [(0, .ref (B + 120)), (1, .int p1), (2, .int p2), (3, .int v3), (4, .int v4), (5, .int v5)]) (h : m_X12_findChairs_49 p1 p2 K9 K18 v3 v4 v5 s0 M = some (r, M')) : W p l e rm_X12_findChairs s m args below meth c H locs 0 0 (MQ below (fp_Qi D G B r M') args s 0 0 (fp_A B)) (F0 m 49 ls [.int s0]) := by
  have hx := E.1
  have hb := E.2.1
  have hown := E.2.2.2.1
  unfold m_X12_findChairs_49 at h
  refine lv_istore (lv' := [(6, .int s0), (0, .ref (B + 120)), (1, .int p1), (2, .int p2), (3, .int v3), (4, .int v4), (5, .int v5)]) hx hb dX12_findChairs_49 hl (by decide) rfl (fun ls hl => ?_)
  refine lv_iconst (v := (nI 0)) hx hb dX12_findChairs_51 (by decide) ?_
  refine lv_istore (lv' := [(7, .int (nI 0)), (6, .int s0), (0, .ref (B + 120)), (1, .int p1), (2, .int p2), (3, .int v3), (4, .int v4), (5, .int v5)]) hx hb dX12_findChairs_52 hl (by decide) rfl (fun ls hl => ?_)
  exact w_X12_findChairs_54 E  HK9 HK18 fp_fu _ _ _ _ _ _ hG (lv_sub hl [2, 3, 4, 5, 6, 7, 1, 0] rfl) h
set_option maxHeartbeats 2000000 in
theorem w_X12_findChairs_48 {p : Program} {l : Launch} {e : Env} {s : State} {m : MethodId} {args : Array Value} {below : List Frame} {meth : Method} {c : Code} {D : va_G} {G : Nat → ClassId} {B : Nat} {p1 : Int32} {p2 : Int32} {K9 : Int32 → Int32 → fp_Mem → Option (Int32 × fp_Mem)} {K18 : Int32 → Int32 → Int32 → fp_Mem → Option (Int32 × fp_Mem)} {r : Int32} {M' : fp_Mem} (E : fp_EV p s m args meth c cX12_findChairs 8 RX12 (some .int) D G) (HK9 : ∀ (wv3 : Int32) (wv4 : Int32) (wM : fp_Mem) {H : Heap} {locs : List Loc} {ls : Array Slot}, fp_H D G B s wM H locs → lv_has ls 8 [(0, .ref (B + 120)), (1, .int p1), (2, .int p2), (3, .int wv3), (4, .int wv4)] → K9 wv3 wv4 wM = some (r, M') → W p l e rm_X12_findChairs s m args below meth c H locs 0 0 (MQ below (fp_Qi D G B r M') args s 0 0 (fp_A B)) (F0 m 9 ls [])) (HK18 : ∀ (wv3 : Int32) (wv4 : Int32) (wv5 : Int32) (wM : fp_Mem) {H : Heap} {locs : List Loc} {ls : Array Slot}, fp_H D G B s wM H locs → lv_has ls 8 [(0, .ref (B + 120)), (1, .int p1), (2, .int p2), (3, .int wv3), (4, .int wv4), (5, .int wv5)] → K18 wv3 wv4 wv5 wM = some (r, M') → W p l e rm_X12_findChairs s m args below meth c H locs 0 0 (MQ below (fp_Qi D G B r M') args s 0 0 (fp_A B)) (F0 m 18 ls [])) (v3 : Int32) (v4 : Int32) (v5 : Int32) (M : fp_Mem) {H : Heap} {locs : List Loc} {ls : Array Slot} (hG : fp_H D G B s M H locs) (hl : lv_has ls 8 [(0, .ref (B + 120)), (1, .int p1), (2, .int p2), (3, .int v3), (4, .int v4), (5, .int v5)]) (h : m_X12_findChairs_48 p1 p2 K9 K18 v3 v4 v5 M = some (r, M')) : W p l e rm_X12_findChairs s m args below meth c H locs 0 0 (MQ below (fp_Qi D G B r M') args s 0 0 (fp_A B)) (F0 m 48 ls []) := by
  have hx := E.1
  have hb := E.2.1
  have hown := E.2.2.2.1
  unfold m_X12_findChairs_48 at h
  refine lv_iconst (v := (nI 0)) hx hb dX12_findChairs_48 (by decide) ?_
  exact w_X12_findChairs_49 E  HK9 HK18 _ _ _ _ _ hG (lv_sub hl [0, 1, 2, 3, 4, 5] rfl) h
set_option maxHeartbeats 2000000 in
theorem w_X12_findChairs_18 {p : Program} {l : Launch} {e : Env} {s : State} {m : MethodId} {args : Array Value} {below : List Frame} {meth : Method} {c : Code} {D : va_G} {G : Nat → ClassId} {B : Nat} {p1 : Int32} {p2 : Int32} {K9 : Int32 → Int32 → fp_Mem → Option (Int32 × fp_Mem)} {r : Int32} {M' : fp_Mem} (E : fp_EV p s m args meth c cX12_findChairs 8 RX12 (some .int) D G) (HK9 : ∀ (wv3 : Int32) (wv4 : Int32) (wM : fp_Mem) {H : Heap} {locs : List Loc} {ls : Array Slot}, fp_H D G B s wM H locs → lv_has ls 8 [(0, .ref (B + 120)), (1, .int p1), (2, .int p2), (3, .int wv3), (4, .int wv4)] → K9 wv3 wv4 wM = some (r, M') → W p l e rm_X12_findChairs s m args below meth c H locs 0 0 (MQ below (fp_Qi D G B r M') args s 0 0 (fp_A B)) (F0 m 9 ls [])) : ∀ (n : Nat) (v3 : Int32) (v4 : Int32) (v5 : Int32) (M : fp_Mem) {H : Heap} {locs : List Loc} {ls : Array Slot}, fp_H D G B s M H locs → lv_has ls 8 [(0, .ref (B + 120)), (1, .int p1), (2, .int p2), (3, .int v3), (4, .int v4), (5, .int v5)] → m_X12_findChairs_18 p1 p2 K9 n v3 v4 v5 M = some (r, M') → W p l e rm_X12_findChairs s m args below meth c H locs 0 0 (MQ below (fp_Qi D G B r M') args s 0 0 (fp_A B)) (F0 m 18 ls []) := by
  have hx := E.1
  have hb := E.2.1
  have hown := E.2.2.2.1
  intro n
  induction n with
  | zero =>
    intro v3 v4 v5 M H locs ls hG hl h
    exact nomatch h
  | succ n ih =>
    have ihK := @ih
    intro v3 v4 v5 M H locs ls hG hl h
    rw [m_X12_findChairs_18] at h
    refine lv_iload hx hb dX12_findChairs_18 (lv_at hl 5 rfl) ?_
    refine lv_iload_n hx hb dX12_findChairs_20 rfl (lv_at hl 3 rfl) ?_
    refine lv_icmp_ge (tgt := 107) hx hb dX12_findChairs_21 (by decide) (fun q => ?_) (fun q => ?_)
    · replace h := fp_ifT q h
      refine lv_iload_n hx hb dX12_findChairs_107 rfl (lv_at hl 3 rfl) ?_
      refine lv_bipush (v := (nI 9)) hx hb dX12_findChairs_108 (by decide) ?_
      refine lv_imul hx hb dX12_findChairs_110 ?_
      obtain ⟨x_9, ex_9, h⟩ := fp_lt_s h
      refine fp_top ex_9 ?_
      refine lv_istore_n (lv' := [(3, .int x_9), (0, .ref (B + 120)), (1, .int p1), (2, .int p2), (4, .int v4), (5, .int v5)]) hx hb dX12_findChairs_111 rfl hl (by decide) rfl (fun ls hl => ?_)
      obtain ⟨x_10, ex_10, h⟩ := fp_lt_s h
      refine lv_iinc (v := x_10) (lv' := [(4, .int x_10), (3, .int x_9), (0, .ref (B + 120)), (1, .int p1), (2, .int p2), (5, .int v5)]) hx hb dX12_findChairs_112 hl (k := 4) rfl (by rw [ex_10]; rfl) (by decide) rfl (fun ls hl => ?_)
      refine lv_goto (tgt := 9) hx hb dX12_findChairs_115 (by decide) ?_
      exact HK9 _ _ _ hG (lv_sub hl [2, 3, 4, 1, 0] rfl) h
    · replace h := fp_ifF q h
      refine lv_aload_n hx hb dX12_findChairs_24 rfl (lv_at hl 0 rfl) ?_
      refine lv_iload hx hb dX12_findChairs_25 (lv_at hl 5 rfl) ?_
      refine lv_iload hx hb dX12_findChairs_27 (lv_at hl 4 rfl) ?_
      obtain ⟨r_11, M_12, c_13, h⟩ := fp_b2_s h
      refine fp_callVi (As := [.int v5, .int v4]) (rest := []) E hG (c_X12_buildBy l D G B c_13) cv_X12_buildBy tw_1115 tw_1117 ts_45 ⟨rfl, rfl⟩ ⟨Nat.le_of_ble_eq_true rfl, Nat.le_of_ble_eq_true rfl⟩ (fp_recv E hG (by decide) (fp_o12 _) rfl) rfl rfl (Nat.le_of_ble_eq_true rfl) hl.1 dX12_findChairs_29 ⟨Nat.zero_le _, Nat.zero_le _⟩ (fun H locs hG => ?_)
      refine lv_if_eq (tgt := 48) hx hb dX12_findChairs_32 (by decide) (fun q => ?_) (fun q => ?_)
      · replace h := fp_ifT q h
        exact w_X12_findChairs_48 E  HK9 ihK _ _ _ _ hG (lv_sub hl [0, 1, 2, 3, 4, 5] rfl) h
      · replace h := fp_ifF q h
        refine lv_aload_n hx hb dX12_findChairs_35 rfl (lv_at hl 0 rfl) ?_
        refine lv_iload_n hx hb dX12_findChairs_36 rfl (lv_at hl 1 rfl) ?_
        refine lv_iload_n hx hb dX12_findChairs_37 rfl (lv_at hl 2 rfl) ?_
        obtain ⟨r_14, M_15, c_16, h⟩ := fp_b2_s h
        refine fp_callVi (As := [.int p1, .int p2]) (rest := []) E hG (c_X12_allNear l D G B c_16) cv_X12_allNear tw_1119 tw_1121 ts_46 ⟨rfl, rfl⟩ ⟨Nat.le_of_ble_eq_true rfl, Nat.le_of_ble_eq_true rfl⟩ (fp_recv E hG (by decide) (fp_o12 _) rfl) rfl rfl (Nat.le_of_ble_eq_true rfl) hl.1 dX12_findChairs_38 ⟨Nat.zero_le _, Nat.zero_le _⟩ (fun H locs hG => ?_)
        refine lv_if_eq (tgt := 48) hx hb dX12_findChairs_41 (by decide) (fun q => ?_) (fun q => ?_)
        · replace h := fp_ifT q h
          exact w_X12_findChairs_48 E  HK9 ihK _ _ _ _ hG (lv_sub hl [0, 1, 2, 3, 4, 5] rfl) h
        · replace h := fp_ifF q h
          refine lv_iconst (v := (nI 1)) hx hb dX12_findChairs_44 (by decide) ?_
          refine lv_goto (tgt := 49) hx hb dX12_findChairs_45 (by decide) ?_
          exact w_X12_findChairs_49 E  HK9 ihK _ _ _ _ _ hG (lv_sub hl [0, 1, 2, 3, 4, 5] rfl) h
set_option maxHeartbeats 2000000 in
theorem w_X12_findChairs_9 {p : Program} {l : Launch} {e : Env} {s : State} {m : MethodId} {args : Array Value} {below : List Frame} {meth : Method} {c : Code} {D : va_G} {G : Nat → ClassId} {B : Nat} {p1 : Int32} {p2 : Int32} {r : Int32} {M' : fp_Mem} (E : fp_EV p s m args meth c cX12_findChairs 8 RX12 (some .int) D G) : ∀ (n : Nat) (v3 : Int32) (v4 : Int32) (M : fp_Mem) {H : Heap} {locs : List Loc} {ls : Array Slot}, fp_H D G B s M H locs → lv_has ls 8 [(0, .ref (B + 120)), (1, .int p1), (2, .int p2), (3, .int v3), (4, .int v4)] → m_X12_findChairs_9 p1 p2 n v3 v4 M = some (r, M') → W p l e rm_X12_findChairs s m args below meth c H locs 0 0 (MQ below (fp_Qi D G B r M') args s 0 0 (fp_A B)) (F0 m 9 ls []) := by
  have hx := E.1
  have hb := E.2.1
  have hown := E.2.2.2.1
  intro n
  induction n with
  | zero =>
    intro v3 v4 M H locs ls hG hl h
    exact nomatch h
  | succ n ih =>
    have ihK := @ih
    intro v3 v4 M H locs ls hG hl h
    rw [m_X12_findChairs_9] at h
    refine lv_iload hx hb dX12_findChairs_9 (lv_at hl 4 rfl) ?_
    refine lv_iconst (v := (nI 5)) hx hb dX12_findChairs_11 (by decide) ?_
    refine lv_icmp_ge (tgt := 118) hx hb dX12_findChairs_12 (by decide) (fun q => ?_) (fun q => ?_)
    · replace h := fp_ifT q h
      refine lv_iconst (v := (-1 : Int32)) hx hb dX12_findChairs_118 (by decide) ?_
      exact fp_ireti E hG (fp_pr1 h) (fp_pr2 h) dX12_findChairs_119
    · replace h := fp_ifF q h
      refine lv_iconst (v := (nI 0)) hx hb dX12_findChairs_15 (by decide) ?_
      refine lv_istore (lv' := [(5, .int (nI 0)), (0, .ref (B + 120)), (1, .int p1), (2, .int p2), (3, .int v3), (4, .int v4)]) hx hb dX12_findChairs_16 hl (by decide) rfl (fun ls hl => ?_)
      exact w_X12_findChairs_18 E  ihK fp_fu _ _ _ _ hG (lv_sub hl [1, 2, 3, 4, 5, 0] rfl) h
set_option maxHeartbeats 2000000 in
theorem w_X12_findChairs_0 {p : Program} {l : Launch} {e : Env} {s : State} {m : MethodId} {args : Array Value} {below : List Frame} {meth : Method} {c : Code} {D : va_G} {G : Nat → ClassId} {B : Nat} {p1 : Int32} {p2 : Int32} {r : Int32} {M' : fp_Mem} (E : fp_EV p s m args meth c cX12_findChairs 8 RX12 (some .int) D G) {M : fp_Mem} {H : Heap} {locs : List Loc} {ls : Array Slot} (hG : fp_H D G B s M H locs) (hl : lv_has ls 8 [(0, .ref (B + 120)), (1, .int p1), (2, .int p2)]) (h : m_X12_findChairs M p1 p2 = some (r, M')) : W p l e rm_X12_findChairs s m args below meth c H locs 0 0 (MQ below (fp_Qi D G B r M') args s 0 0 (fp_A B)) (F0 m 0 ls []) := by
  have hx := E.1
  have hb := E.2.1
  have hown := E.2.2.2.1
  unfold m_X12_findChairs at h
  refine lv_aload_n hx hb dX12_findChairs_0 rfl (lv_at hl 0 rfl) ?_
  obtain ⟨M_17, c_18, h⟩ := fp_b1_s h
  refine fp_callVv (As := []) (rest := []) E hG (c_X12_save l D G B c_18) cv_X12_save tw_1094 tw_1096 ts_41 ⟨rfl, rfl⟩ ⟨Nat.le_of_ble_eq_true rfl, Nat.le_of_ble_eq_true rfl⟩ (fp_recv E hG (by decide) (fp_o12 _) rfl) rfl rfl (Nat.le_of_ble_eq_true rfl) hl.1 dX12_findChairs_1 ⟨Nat.zero_le _, Nat.zero_le _⟩ (fun H locs hG => ?_)
  refine lv_iconst (v := (nI 1)) hx hb dX12_findChairs_4 (by decide) ?_
  refine lv_istore_n (lv' := [(3, .int (nI 1)), (0, .ref (B + 120)), (1, .int p1), (2, .int p2)]) hx hb dX12_findChairs_5 rfl hl (by decide) rfl (fun ls hl => ?_)
  refine lv_iconst (v := (nI 0)) hx hb dX12_findChairs_6 (by decide) ?_
  refine lv_istore (lv' := [(4, .int (nI 0)), (3, .int (nI 1)), (0, .ref (B + 120)), (1, .int p1), (2, .int p2)]) hx hb dX12_findChairs_7 hl (by decide) rfl (fun ls hl => ?_)
  exact w_X12_findChairs_9 E   fp_fu _ _ _ hG (lv_sub hl [2, 3, 4, 1, 0] rfl) h
theorem c_X12_findChairs (l : Launch) (D : va_G) (G : Nat → ClassId) (B : Nat) {M : fp_Mem}  {p1 : Int32} {p2 : Int32} {r : Int32} {M' : fp_Mem}  (h : m_X12_findChairs M p1 p2 = some (r, M')) : Met l yX12_findChairs (Cond.code yX12_findChairs cX12_findChairs 8 (some .int) :: fp_T) rm_X12_findChairs (va_Pc [.ref (B + 120), .int p1, .int p2] (fp_GS D G B M)) (fp_Qi D G B r M') 0 0 (fp_A B) :=
  fp_met (own := RX12) (by decide) rfl (Nat.le_of_ble_eq_true rfl) (fun E hG hl => w_X12_findChairs_0 E  hG hl h)
abbrev rm_X12_chairs : Room := { frames := 5, cells := 0, slots := 0, locals := 120 }
theorem cv_X12_chairs : fp_CV yX12_chairs cX12_chairs 5 (some .int) 3 := ⟨tw_1109, tw_13, by decide, by decide +kernel⟩
set_option maxHeartbeats 2000000 in
theorem w_X12_chairs_31 {p : Program} {l : Launch} {e : Env} {s : State} {m : MethodId} {args : Array Value} {below : List Frame} {meth : Method} {c : Code} {D : va_G} {G : Nat → ClassId} {B : Nat} {p1 : Int32} {p2 : Int32} {p3 : Int32} {r : Int32} {M' : fp_Mem} (E : fp_EV p s m args meth c cX12_chairs 5 RX12 (some .int) D G) (M : fp_Mem) {H : Heap} {locs : List Loc} {ls : Array Slot} (hG : fp_H D G B s M H locs) (hl : lv_has ls 5 []) (h : m_X12_chairs_31 p1 p2 p3 M = some (r, M')) : W p l e rm_X12_chairs s m args below meth c H locs 0 0 (MQ below (fp_Qi D G B r M') args s 0 0 (fp_A B)) (F0 m 31 ls []) := by
  have hx := E.1
  have hb := E.2.1
  have hown := E.2.2.2.1
  unfold m_X12_chairs_31 at h
  refine lv_ldc (v := (-1000000001 : Int32)) hx hb hown (fp_tabs E tw_1010) dX12_chairs_31 ?_
  exact fp_ireti E hG (fp_pr1 h) (fp_pr2 h) dX12_chairs_33
set_option maxHeartbeats 2000000 in
theorem w_X12_chairs_78 {p : Program} {l : Launch} {e : Env} {s : State} {m : MethodId} {args : Array Value} {below : List Frame} {meth : Method} {c : Code} {D : va_G} {G : Nat → ClassId} {B : Nat} {p1 : Int32} {p2 : Int32} {p3 : Int32} {r : Int32} {M' : fp_Mem} (E : fp_EV p s m args meth c cX12_chairs 5 RX12 (some .int) D G) (s0 : Int32) (M : fp_Mem) {H : Heap} {locs : List Loc} {ls : Array Slot} (hG : fp_H D G B s M H locs) (hl : lv_has ls 5 []) (h : m_X12_chairs_78 p1 p2 p3 s0 M = some (r, M')) : W p l e rm_X12_chairs s m args below meth c H locs 0 0 (MQ below (fp_Qi D G B r M') args s 0 0 (fp_A B)) (F0 m 78 ls [.int s0]) := by
  have hx := E.1
  have hb := E.2.1
  have hown := E.2.2.2.1
  unfold m_X12_chairs_78 at h
  exact fp_ireti E hG (fp_pr1 h) (fp_pr2 h) dX12_chairs_78
set_option maxHeartbeats 2000000 in
theorem w_X12_chairs_67 {p : Program} {l : Launch} {e : Env} {s : State} {m : MethodId} {args : Array Value} {below : List Frame} {meth : Method} {c : Code} {D : va_G} {G : Nat → ClassId} {B : Nat} {p1 : Int32} {p2 : Int32} {p3 : Int32} {r : Int32} {M' : fp_Mem} (E : fp_EV p s m args meth c cX12_chairs 5 RX12 (some .int) D G) (v4 : Int32) (M : fp_Mem) {H : Heap} {locs : List Loc} {ls : Array Slot} (hG : fp_H D G B s M H locs) (hl : lv_has ls 5 [(4, .int v4)]) (h : m_X12_chairs_67 p1 p2 p3 v4 M = some (r, M')) : W p l e rm_X12_chairs s m args below meth c H locs 0 0 (MQ below (fp_Qi D G B r M') args s 0 0 (fp_A B)) (F0 m 67 ls []) := by
  have hx := E.1
  have hb := E.2.1
  have hown := E.2.2.2.1
  unfold m_X12_chairs_67 at h
  refine lv_iload hx hb dX12_chairs_67 (lv_at hl 0 rfl) ?_
  refine lv_goto (tgt := 78) hx hb dX12_chairs_69 (by decide) ?_
  exact w_X12_chairs_78 E   _ _ hG (lv_sub hl [] rfl) h
set_option maxHeartbeats 2000000 in
theorem w_X12_chairs_34 {p : Program} {l : Launch} {e : Env} {s : State} {m : MethodId} {args : Array Value} {below : List Frame} {meth : Method} {c : Code} {D : va_G} {G : Nat → ClassId} {B : Nat} {p1 : Int32} {p2 : Int32} {p3 : Int32} {r : Int32} {M' : fp_Mem} (E : fp_EV p s m args meth c cX12_chairs 5 RX12 (some .int) D G) (M : fp_Mem) {H : Heap} {locs : List Loc} {ls : Array Slot} (hG : fp_H D G B s M H locs) (hl : lv_has ls 5 [(0, .ref (B + 120)), (1, .int p1), (2, .int p2), (3, .int p3)]) (h : m_X12_chairs_34 p1 p2 p3 M = some (r, M')) : W p l e rm_X12_chairs s m args below meth c H locs 0 0 (MQ below (fp_Qi D G B r M') args s 0 0 (fp_A B)) (F0 m 34 ls []) := by
  have hx := E.1
  have hb := E.2.1
  have hown := E.2.2.2.1
  unfold m_X12_chairs_34 at h
  refine lv_iload_n hx hb dX12_chairs_34 rfl (lv_at hl 2 rfl) ?_
  refine lv_i2l hx hb dX12_chairs_35 rfl ?_
  refine lv_lconst (v := (lN 0)) hx hb dX12_chairs_36 (by decide) ?_
  refine lv_ldc2 (v := (lN 8)) hx hb hown (fp_tabs E tw_1110) dX12_chairs_37 ?_
  obtain ⟨r_1, c_2, h⟩ := fp_b1_s h
  refine fp_callSi (As := [.long (Int32.toInt64 p2), .long (lN 0), .long (lN 8)]) (rest := []) E hG (c_X12_in l D G B c_2) cv_X12_in tw_916 tw_917 ⟨rfl, rfl⟩ ⟨Nat.le_of_ble_eq_true rfl, Nat.le_of_ble_eq_true rfl⟩ rfl rfl (Nat.le_of_ble_eq_true rfl) hl.1 dX12_chairs_40 ⟨Nat.zero_le _, Nat.zero_le _⟩ (fun H locs hG => ?_)
  refine lv_if_ne (tgt := 49) hx hb dX12_chairs_43 (by decide) (fun q => ?_) (fun q => ?_)
  · replace h := fp_ifF q h
    refine lv_aload_n hx hb dX12_chairs_49 rfl (lv_at hl 0 rfl) ?_
    refine lv_iload_n hx hb dX12_chairs_50 rfl (lv_at hl 1 rfl) ?_
    refine lv_iload_n hx hb dX12_chairs_51 rfl (lv_at hl 2 rfl) ?_
    obtain ⟨r_3, M_4, c_5, h⟩ := fp_b2_s h
    refine fp_callVi (As := [.int p1, .int p2]) (rest := []) E hG (c_X12_findChairs l D G B c_5) cv_X12_findChairs tw_1111 tw_1113 ts_44 ⟨rfl, rfl⟩ ⟨Nat.le_of_ble_eq_true rfl, Nat.le_of_ble_eq_true rfl⟩ (fp_recv E hG (by decide) (fp_o12 _) rfl) rfl rfl (Nat.le_of_ble_eq_true rfl) hl.1 dX12_chairs_52 ⟨Nat.zero_le _, Nat.zero_le _⟩ (fun H locs hG => ?_)
    refine lv_istore (lv' := [(4, .int r_3), (0, .ref (B + 120)), (1, .int p1), (2, .int p2), (3, .int p3)]) hx hb dX12_chairs_55 hl (by decide) rfl (fun ls hl => ?_)
    refine lv_iload hx hb dX12_chairs_57 (lv_at hl 0 rfl) ?_
    refine lv_if_lt (tgt := 67) hx hb dX12_chairs_59 (by decide) (fun q => ?_) (fun q => ?_)
    · replace h := fp_ifT q h
      exact w_X12_chairs_67 E   _ _ hG (lv_sub hl [0] rfl) h
    · replace h := fp_ifF q h
      refine lv_iload_n hx hb dX12_chairs_62 rfl (lv_at hl 4 rfl) ?_
      refine lv_iconst (v := (-1 : Int32)) hx hb dX12_chairs_63 (by decide) ?_
      refine lv_icmp_ne (tgt := 72) hx hb dX12_chairs_64 (by decide) (fun q => ?_) (fun q => ?_)
      · replace h := fp_ifF q h
        refine lv_aload_n hx hb dX12_chairs_72 rfl (lv_at hl 1 rfl) ?_
        refine fp_g12_26 E hG tw_831 dX12_chairs_73 ?_
        refine lv_iload_n hx hb dX12_chairs_76 rfl (lv_at hl 4 rfl) ?_
        obtain ⟨g_6, h⟩ := fp_gd_s h
        refine fp_iald E hG fp_cc133.1 (fp_a20 fp_cc133) (fp_in_s g_6) dX12_chairs_77 ?_
        exact w_X12_chairs_78 E   _ _ hG (lv_sub hl [] rfl) h
      · replace h := fp_ifT q h
        exact w_X12_chairs_67 E   _ _ hG (lv_sub hl [0] rfl) h
  · replace h := fp_ifT q h
    refine lv_ldc (v := (-1000000002 : Int32)) hx hb hown (fp_tabs E tw_919) dX12_chairs_46 ?_
    exact fp_ireti E hG (fp_pr1 h) (fp_pr2 h) dX12_chairs_48
set_option maxHeartbeats 2000000 in
theorem w_X12_chairs_0 {p : Program} {l : Launch} {e : Env} {s : State} {m : MethodId} {args : Array Value} {below : List Frame} {meth : Method} {c : Code} {D : va_G} {G : Nat → ClassId} {B : Nat} {p1 : Int32} {p2 : Int32} {p3 : Int32} {r : Int32} {M' : fp_Mem} (E : fp_EV p s m args meth c cX12_chairs 5 RX12 (some .int) D G) {M : fp_Mem} {H : Heap} {locs : List Loc} {ls : Array Slot} (hG : fp_H D G B s M H locs) (hl : lv_has ls 5 [(0, .ref (B + 120)), (1, .int p1), (2, .int p2), (3, .int p3)]) (h : m_X12_chairs M p1 p2 p3 = some (r, M')) : W p l e rm_X12_chairs s m args below meth c H locs 0 0 (MQ below (fp_Qi D G B r M') args s 0 0 (fp_A B)) (F0 m 0 ls []) := by
  have hx := E.1
  have hb := E.2.1
  have hown := E.2.2.2.1
  unfold m_X12_chairs at h
  refine lv_iload_n hx hb dX12_chairs_0 rfl (lv_at hl 1 rfl) ?_
  refine lv_i2l hx hb dX12_chairs_1 rfl ?_
  refine lv_lconst (v := (lN 0)) hx hb dX12_chairs_2 (by decide) ?_
  refine lv_iconst (v := (nI 1)) hx hb dX12_chairs_3 (by decide) ?_
  refine lv_aload_n hx hb dX12_chairs_4 rfl (lv_at hl 0 rfl) ?_
  refine fp_g12_1 E hG tw_806 dX12_chairs_5 ?_
  refine lv_ishl hx hb dX12_chairs_8 ?_
  refine lv_iconst (v := (nI 1)) hx hb dX12_chairs_9 (by decide) ?_
  refine lv_isub hx hb dX12_chairs_10 ?_
  refine lv_i2l hx hb dX12_chairs_11 rfl ?_
  obtain ⟨r_7, c_8, h⟩ := fp_b1_s h
  refine fp_callSi (As := [.long (Int32.toInt64 p1), .long (lN 0), .long (Int32.toInt64 (((nI 1) <<< ((M 120 1) &&& 31)) - (nI 1)))]) (rest := []) E hG (c_X12_in l D G B c_8) cv_X12_in tw_916 tw_917 ⟨rfl, rfl⟩ ⟨Nat.le_of_ble_eq_true rfl, Nat.le_of_ble_eq_true rfl⟩ rfl rfl (Nat.le_of_ble_eq_true rfl) hl.1 dX12_chairs_12 ⟨Nat.zero_le _, Nat.zero_le _⟩ (fun H locs hG => ?_)
  refine lv_if_eq (tgt := 31) hx hb dX12_chairs_15 (by decide) (fun q => ?_) (fun q => ?_)
  · replace h := fp_ifT q h
    exact w_X12_chairs_31 E   _ hG (lv_sub hl [] rfl) h
  · replace h := fp_ifF q h
    refine lv_iload_n hx hb dX12_chairs_18 rfl (lv_at hl 3 rfl) ?_
    refine lv_iconst (v := (-1 : Int32)) hx hb dX12_chairs_19 (by decide) ?_
    refine lv_icmp_eq (tgt := 34) hx hb dX12_chairs_20 (by decide) (fun q => ?_) (fun q => ?_)
    · replace h := fp_ifT q h
      exact w_X12_chairs_34 E   _ hG (lv_sub hl [0, 1, 2, 3] rfl) h
    · replace h := fp_ifF q h
      refine lv_aload_n hx hb dX12_chairs_23 rfl (lv_at hl 0 rfl) ?_
      refine lv_iload_n hx hb dX12_chairs_24 rfl (lv_at hl 3 rfl) ?_
      obtain ⟨r_9, c_10, h⟩ := fp_b1_s h
      refine fp_callVi (As := [.int p3]) (rest := []) E hG (c_X12_isTable l D G B c_10) cv_X12_isTable tw_1006 tw_1008 ts_33 ⟨rfl, rfl⟩ ⟨Nat.le_of_ble_eq_true rfl, Nat.le_of_ble_eq_true rfl⟩ (fp_recv E hG (by decide) (fp_o12 _) rfl) rfl rfl (Nat.le_of_ble_eq_true rfl) hl.1 dX12_chairs_25 ⟨Nat.zero_le _, Nat.zero_le _⟩ (fun H locs hG => ?_)
      refine lv_if_ne (tgt := 34) hx hb dX12_chairs_28 (by decide) (fun q => ?_) (fun q => ?_)
      · replace h := fp_ifF q h
        exact w_X12_chairs_34 E   _ hG (lv_sub hl [0, 1, 2, 3] rfl) h
      · replace h := fp_ifT q h
        exact w_X12_chairs_31 E   _ hG (lv_sub hl [] rfl) h
theorem c_X12_chairs (l : Launch) (D : va_G) (G : Nat → ClassId) (B : Nat) {M : fp_Mem}  {p1 : Int32} {p2 : Int32} {p3 : Int32} {r : Int32} {M' : fp_Mem}  (h : m_X12_chairs M p1 p2 p3 = some (r, M')) : Met l yX12_chairs (Cond.code yX12_chairs cX12_chairs 5 (some .int) :: fp_T) rm_X12_chairs (va_Pc [.ref (B + 120), .int p1, .int p2, .int p3] (fp_GS D G B M)) (fp_Qi D G B r M') 0 0 (fp_A B) :=
  fp_met (own := RX12) (by decide) rfl (Nat.le_of_ble_eq_true rfl) (fun E hG hl => w_X12_chairs_0 E  hG hl h)
abbrev rm_X12_canSpread : Room := { frames := 1, cells := 0, slots := 0, locals := 21 }
theorem cv_X12_canSpread : fp_CV yX12_canSpread cX12_canSpread 7 (some .boolean) 2 := ⟨tw_1130, tw_13, by decide, by decide +kernel⟩
set_option maxHeartbeats 2000000 in
theorem w_X12_canSpread_101 {p : Program} {l : Launch} {e : Env} {s : State} {m : MethodId} {args : Array Value} {below : List Frame} {meth : Method} {c : Code} {D : va_G} {G : Nat → ClassId} {B : Nat} {M : fp_Mem} {p1 : Int32} {p2 : Int32} {r : Int32} (E : fp_EV p s m args meth c cX12_canSpread 7 RX12 (some .boolean) D G) (s0 : Int32) {H : Heap} {locs : List Loc} {ls : Array Slot} (hG : fp_H D G B s M H locs) (hl : lv_has ls 7 []) (h : m_X12_canSpread_101 M p1 p2 s0 = some r) : W p l e rm_X12_canSpread s m args below meth c H locs 0 0 (MQ below (fp_Qi D G B r M) args s 0 0 (fp_A B)) (F0 m 101 ls [.int s0]) := by
  have hx := E.1
  have hb := E.2.1
  have hown := E.2.2.2.1
  unfold m_X12_canSpread_101 at h
  obtain ⟨g_1, h⟩ := fp_gd_s h
  exact fp_iretz E hG g_1 (Option.some.inj h) rfl dX12_canSpread_101
set_option maxHeartbeats 2000000 in
theorem w_X12_canSpread_100 {p : Program} {l : Launch} {e : Env} {s : State} {m : MethodId} {args : Array Value} {below : List Frame} {meth : Method} {c : Code} {D : va_G} {G : Nat → ClassId} {B : Nat} {M : fp_Mem} {p1 : Int32} {p2 : Int32} {r : Int32} (E : fp_EV p s m args meth c cX12_canSpread 7 RX12 (some .boolean) D G) {H : Heap} {locs : List Loc} {ls : Array Slot} (hG : fp_H D G B s M H locs) (hl : lv_has ls 7 []) (h : m_X12_canSpread_100 M p1 p2 = some r) : W p l e rm_X12_canSpread s m args below meth c H locs 0 0 (MQ below (fp_Qi D G B r M) args s 0 0 (fp_A B)) (F0 m 100 ls []) := by
  have hx := E.1
  have hb := E.2.1
  have hown := E.2.2.2.1
  unfold m_X12_canSpread_100 at h
  refine lv_iconst (v := (nI 0)) hx hb dX12_canSpread_100 (by decide) ?_
  exact w_X12_canSpread_101 E   _ hG (lv_sub hl [] rfl) h
set_option maxHeartbeats 2000000 in
theorem w_X12_canSpread_79 {p : Program} {l : Launch} {e : Env} {s : State} {m : MethodId} {args : Array Value} {below : List Frame} {meth : Method} {c : Code} {D : va_G} {G : Nat → ClassId} {B : Nat} {M : fp_Mem} {p1 : Int32} {p2 : Int32} {K11 : Int32 → Int32 → Int32 → Int32 → Option (Int32)} {r : Int32} (E : fp_EV p s m args meth c cX12_canSpread 7 RX12 (some .boolean) D G) (HK11 : ∀ (wv3 : Int32) (wv4 : Int32) (wv5 : Int32) (wv6 : Int32) {H : Heap} {locs : List Loc} {ls : Array Slot}, fp_H D G B s M H locs → lv_has ls 7 [(0, .ref (B + 120)), (1, .int p1), (2, .int p2), (3, .int wv3), (4, .int wv4), (5, .int wv5), (6, .int wv6)] → K11 wv3 wv4 wv5 wv6 = some r → W p l e rm_X12_canSpread s m args below meth c H locs 0 0 (MQ below (fp_Qi D G B r M) args s 0 0 (fp_A B)) (F0 m 11 ls [])) (v3 : Int32) (v4 : Int32) (v5 : Int32) (v6 : Int32) {H : Heap} {locs : List Loc} {ls : Array Slot} (hG : fp_H D G B s M H locs) (hl : lv_has ls 7 [(0, .ref (B + 120)), (1, .int p1), (2, .int p2), (3, .int v3), (4, .int v4), (5, .int v5), (6, .int v6)]) (h : m_X12_canSpread_79 M p1 p2 K11 v3 v4 v5 v6 = some r) : W p l e rm_X12_canSpread s m args below meth c H locs 0 0 (MQ below (fp_Qi D G B r M) args s 0 0 (fp_A B)) (F0 m 79 ls []) := by
  have hx := E.1
  have hb := E.2.1
  have hown := E.2.2.2.1
  unfold m_X12_canSpread_79 at h
  obtain ⟨x_2, ex_2, h⟩ := fp_lt_s h
  refine lv_iinc (v := x_2) (lv' := [(6, .int x_2), (0, .ref (B + 120)), (1, .int p1), (2, .int p2), (3, .int v3), (4, .int v4), (5, .int v5)]) hx hb dX12_canSpread_79 hl (k := 6) rfl (by rw [ex_2]; rfl) (by decide) rfl (fun ls hl => ?_)
  refine lv_goto (tgt := 11) hx hb dX12_canSpread_82 (by decide) ?_
  exact HK11 _ _ _ _ hG (lv_sub hl [1, 2, 3, 4, 5, 6, 0] rfl) h
set_option maxHeartbeats 2000000 in
theorem w_X12_canSpread_50 {p : Program} {l : Launch} {e : Env} {s : State} {m : MethodId} {args : Array Value} {below : List Frame} {meth : Method} {c : Code} {D : va_G} {G : Nat → ClassId} {B : Nat} {M : fp_Mem} {p1 : Int32} {p2 : Int32} {K11 : Int32 → Int32 → Int32 → Int32 → Option (Int32)} {r : Int32} (E : fp_EV p s m args meth c cX12_canSpread 7 RX12 (some .boolean) D G) (HK11 : ∀ (wv3 : Int32) (wv4 : Int32) (wv5 : Int32) (wv6 : Int32) {H : Heap} {locs : List Loc} {ls : Array Slot}, fp_H D G B s M H locs → lv_has ls 7 [(0, .ref (B + 120)), (1, .int p1), (2, .int p2), (3, .int wv3), (4, .int wv4), (5, .int wv5), (6, .int wv6)] → K11 wv3 wv4 wv5 wv6 = some r → W p l e rm_X12_canSpread s m args below meth c H locs 0 0 (MQ below (fp_Qi D G B r M) args s 0 0 (fp_A B)) (F0 m 11 ls [])) (v3 : Int32) (v4 : Int32) (v6 : Int32) (s0 : Int32) {H : Heap} {locs : List Loc} {ls : Array Slot} (hG : fp_H D G B s M H locs) (hl : lv_has ls 7 [(0, .ref (B + 120)), (1, .int p1), (2, .int p2), (3, .int v3), (4, .int v4), (6, .int v6)]) (h : m_X12_canSpread_50 M p1 p2 K11 v3 v4 v6 s0 = some r) : W p l e rm_X12_canSpread s m args below meth c H locs 0 0 (MQ below (fp_Qi D G B r M) args s 0 0 (fp_A B)) (F0 m 50 ls [.int s0]) := by
  have hx := E.1
  have hb := E.2.1
  have hown := E.2.2.2.1
  unfold m_X12_canSpread_50 at h
  refine lv_istore (lv' := [(5, .int s0), (0, .ref (B + 120)), (1, .int p1), (2, .int p2), (3, .int v3), (4, .int v4), (6, .int v6)]) hx hb dX12_canSpread_50 hl (by decide) rfl (fun ls hl => ?_)
  refine lv_iload_n hx hb dX12_canSpread_52 rfl (lv_at hl 4 rfl) ?_
  refine lv_aload_n hx hb dX12_canSpread_53 rfl (lv_at hl 1 rfl) ?_
  refine fp_g12_5 E hG tw_810 dX12_canSpread_54 ?_
  refine lv_iload hx hb dX12_canSpread_57 (lv_at hl 6 rfl) ?_
  obtain ⟨g_3, h⟩ := fp_gd_s h
  refine fp_iald E hG fp_cc123.1 (fp_a28 fp_cc123) (fp_in_s g_3) dX12_canSpread_59 ?_
  refine lv_iload_n hx hb dX12_canSpread_60 rfl (lv_at hl 3 rfl) ?_
  refine lv_isub hx hb dX12_canSpread_61 ?_
  refine lv_iadd hx hb dX12_canSpread_62 ?_
  obtain ⟨x_4, ex_4, h⟩ := fp_lt_s h
  refine fp_top ex_4 ?_
  refine lv_istore_n (lv' := [(3, .int x_4), (5, .int s0), (0, .ref (B + 120)), (1, .int p1), (2, .int p2), (4, .int v4), (6, .int v6)]) hx hb dX12_canSpread_63 rfl hl (by decide) rfl (fun ls hl => ?_)
  refine lv_iload hx hb dX12_canSpread_64 (lv_at hl 5 rfl) ?_
  refine lv_aload_n hx hb dX12_canSpread_66 rfl (lv_at hl 2 rfl) ?_
  refine fp_g12_5 E hG tw_810 dX12_canSpread_67 ?_
  refine lv_bipush (v := (nI 9)) hx hb dX12_canSpread_70 (by decide) ?_
  refine lv_iload hx hb dX12_canSpread_72 (lv_at hl 6 rfl) ?_
  refine lv_iadd hx hb dX12_canSpread_74 ?_
  obtain ⟨g_5, h⟩ := fp_gd_s h
  refine fp_iald E hG fp_cc123.1 (fp_a28 fp_cc123) (fp_in_s g_5) dX12_canSpread_75 ?_
  refine lv_iadd hx hb dX12_canSpread_76 ?_
  obtain ⟨x_6, ex_6, h⟩ := fp_lt_s h
  refine fp_top ex_6 ?_
  refine lv_istore (lv' := [(4, .int x_6), (3, .int x_4), (5, .int s0), (0, .ref (B + 120)), (1, .int p1), (2, .int p2), (6, .int v6)]) hx hb dX12_canSpread_77 hl (by decide) rfl (fun ls hl => ?_)
  exact w_X12_canSpread_79 E  HK11 _ _ _ _ hG (lv_sub hl [3, 4, 5, 1, 0, 2, 6] rfl) h
set_option maxHeartbeats 2000000 in
theorem w_X12_canSpread_49 {p : Program} {l : Launch} {e : Env} {s : State} {m : MethodId} {args : Array Value} {below : List Frame} {meth : Method} {c : Code} {D : va_G} {G : Nat → ClassId} {B : Nat} {M : fp_Mem} {p1 : Int32} {p2 : Int32} {K11 : Int32 → Int32 → Int32 → Int32 → Option (Int32)} {r : Int32} (E : fp_EV p s m args meth c cX12_canSpread 7 RX12 (some .boolean) D G) (HK11 : ∀ (wv3 : Int32) (wv4 : Int32) (wv5 : Int32) (wv6 : Int32) {H : Heap} {locs : List Loc} {ls : Array Slot}, fp_H D G B s M H locs → lv_has ls 7 [(0, .ref (B + 120)), (1, .int p1), (2, .int p2), (3, .int wv3), (4, .int wv4), (5, .int wv5), (6, .int wv6)] → K11 wv3 wv4 wv5 wv6 = some r → W p l e rm_X12_canSpread s m args below meth c H locs 0 0 (MQ below (fp_Qi D G B r M) args s 0 0 (fp_A B)) (F0 m 11 ls [])) (v3 : Int32) (v4 : Int32) (v6 : Int32) {H : Heap} {locs : List Loc} {ls : Array Slot} (hG : fp_H D G B s M H locs) (hl : lv_has ls 7 [(0, .ref (B + 120)), (1, .int p1), (2, .int p2), (3, .int v3), (4, .int v4), (6, .int v6)]) (h : m_X12_canSpread_49 M p1 p2 K11 v3 v4 v6 = some r) : W p l e rm_X12_canSpread s m args below meth c H locs 0 0 (MQ below (fp_Qi D G B r M) args s 0 0 (fp_A B)) (F0 m 49 ls []) := by
  have hx := E.1
  have hb := E.2.1
  have hown := E.2.2.2.1
  unfold m_X12_canSpread_49 at h
  refine lv_iconst (v := (nI 0)) hx hb dX12_canSpread_49 (by decide) ?_
  exact w_X12_canSpread_50 E  HK11 _ _ _ _ hG (lv_sub hl [0, 1, 2, 3, 4, 5] rfl) h
set_option maxHeartbeats 2000000 in
theorem w_X12_canSpread_11 {p : Program} {l : Launch} {e : Env} {s : State} {m : MethodId} {args : Array Value} {below : List Frame} {meth : Method} {c : Code} {D : va_G} {G : Nat → ClassId} {B : Nat} {M : fp_Mem} {p1 : Int32} {p2 : Int32} {r : Int32} (E : fp_EV p s m args meth c cX12_canSpread 7 RX12 (some .boolean) D G) : ∀ (n : Nat) (v3 : Int32) (v4 : Int32) (v5 : Int32) (v6 : Int32) {H : Heap} {locs : List Loc} {ls : Array Slot}, fp_H D G B s M H locs → lv_has ls 7 [(0, .ref (B + 120)), (1, .int p1), (2, .int p2), (3, .int v3), (4, .int v4), (5, .int v5), (6, .int v6)] → m_X12_canSpread_11 M p1 p2 n v3 v4 v5 v6 = some r → W p l e rm_X12_canSpread s m args below meth c H locs 0 0 (MQ below (fp_Qi D G B r M) args s 0 0 (fp_A B)) (F0 m 11 ls []) := by
  have hx := E.1
  have hb := E.2.1
  have hown := E.2.2.2.1
  intro n
  induction n with
  | zero =>
    intro v3 v4 v5 v6 H locs ls hG hl h
    exact nomatch h
  | succ n ih =>
    have ihK := @ih
    intro v3 v4 v5 v6 H locs ls hG hl h
    rw [m_X12_canSpread_11] at h
    refine lv_iload hx hb dX12_canSpread_11 (lv_at hl 6 rfl) ?_
    refine lv_aload_n hx hb dX12_canSpread_13 rfl (lv_at hl 0 rfl) ?_
    refine fp_g12_1 E hG tw_806 dX12_canSpread_14 ?_
    refine lv_icmp_ge (tgt := 85) hx hb dX12_canSpread_17 (by decide) (fun q => ?_) (fun q => ?_)
    · replace h := fp_ifT q h
      refine lv_iload hx hb dX12_canSpread_85 (lv_at hl 5 rfl) ?_
      refine lv_if_eq (tgt := 100) hx hb dX12_canSpread_87 (by decide) (fun q => ?_) (fun q => ?_)
      · replace h := fp_ifT q h
        exact w_X12_canSpread_100 E    hG (lv_sub hl [] rfl) h
      · replace h := fp_ifF q h
        refine lv_iload_n hx hb dX12_canSpread_90 rfl (lv_at hl 3 rfl) ?_
        refine lv_iload hx hb dX12_canSpread_91 (lv_at hl 4 rfl) ?_
        refine lv_icmp_lt (tgt := 100) hx hb dX12_canSpread_93 (by decide) (fun q => ?_) (fun q => ?_)
        · replace h := fp_ifT q h
          exact w_X12_canSpread_100 E    hG (lv_sub hl [] rfl) h
        · replace h := fp_ifF q h
          refine lv_iconst (v := (nI 1)) hx hb dX12_canSpread_96 (by decide) ?_
          refine lv_goto (tgt := 101) hx hb dX12_canSpread_97 (by decide) ?_
          exact w_X12_canSpread_101 E   _ hG (lv_sub hl [] rfl) h
    · replace h := fp_ifF q h
      refine lv_iload_n hx hb dX12_canSpread_20 rfl (lv_at hl 1 rfl) ?_
      refine lv_iload hx hb dX12_canSpread_21 (lv_at hl 6 rfl) ?_
      obtain ⟨r_7, c_8, h⟩ := fp_b1_s h
      refine fp_callSi (As := [.int p1, .int v6]) (rest := []) E hG (c_X12_has l D G B c_8) cv_X12_has tw_999 tw_1000 ⟨rfl, rfl⟩ ⟨Nat.le_of_ble_eq_true rfl, Nat.le_of_ble_eq_true rfl⟩ rfl rfl (Nat.le_of_ble_eq_true rfl) hl.1 dX12_canSpread_23 ⟨Nat.zero_le _, Nat.zero_le _⟩ (fun H locs hG => ?_)
      refine lv_if_eq (tgt := 79) hx hb dX12_canSpread_26 (by decide) (fun q => ?_) (fun q => ?_)
      · replace h := fp_ifT q h
        exact w_X12_canSpread_79 E  ihK _ _ _ _ hG (lv_sub hl [0, 1, 2, 3, 4, 5, 6] rfl) h
      · replace h := fp_ifF q h
        refine lv_iload hx hb dX12_canSpread_29 (lv_at hl 5 rfl) ?_
        refine lv_if_eq (tgt := 49) hx hb dX12_canSpread_31 (by decide) (fun q => ?_) (fun q => ?_)
        · replace h := fp_ifT q h
          exact w_X12_canSpread_49 E  ihK _ _ _ hG (lv_sub hl [0, 1, 2, 3, 4, 6] rfl) h
        · replace h := fp_ifF q h
          refine lv_aload_n hx hb dX12_canSpread_34 rfl (lv_at hl 0 rfl) ?_
          refine fp_g12_5 E hG tw_810 dX12_canSpread_35 ?_
          refine lv_iload hx hb dX12_canSpread_38 (lv_at hl 6 rfl) ?_
          obtain ⟨g_9, h⟩ := fp_gd_s h
          refine fp_iald E hG fp_cc123.1 (fp_a28 fp_cc123) (fp_in_s g_9) dX12_canSpread_40 ?_
          refine lv_iload_n hx hb dX12_canSpread_41 rfl (lv_at hl 2 rfl) ?_
          refine lv_icmp_lt (tgt := 49) hx hb dX12_canSpread_42 (by decide) (fun q => ?_) (fun q => ?_)
          · replace h := fp_ifT q h
            exact w_X12_canSpread_49 E  ihK _ _ _ hG (lv_sub hl [0, 1, 2, 3, 4, 6] rfl) h
          · replace h := fp_ifF q h
            refine lv_iconst (v := (nI 1)) hx hb dX12_canSpread_45 (by decide) ?_
            refine lv_goto (tgt := 50) hx hb dX12_canSpread_46 (by decide) ?_
            exact w_X12_canSpread_50 E  ihK _ _ _ _ hG (lv_sub hl [0, 1, 2, 3, 4, 6] rfl) h
set_option maxHeartbeats 2000000 in
theorem w_X12_canSpread_0 {p : Program} {l : Launch} {e : Env} {s : State} {m : MethodId} {args : Array Value} {below : List Frame} {meth : Method} {c : Code} {D : va_G} {G : Nat → ClassId} {B : Nat} {M : fp_Mem} {p1 : Int32} {p2 : Int32} {r : Int32} (E : fp_EV p s m args meth c cX12_canSpread 7 RX12 (some .boolean) D G) {H : Heap} {locs : List Loc} {ls : Array Slot} (hG : fp_H D G B s M H locs) (hl : lv_has ls 7 [(0, .ref (B + 120)), (1, .int p1), (2, .int p2)]) (h : m_X12_canSpread M p1 p2 = some r) : W p l e rm_X12_canSpread s m args below meth c H locs 0 0 (MQ below (fp_Qi D G B r M) args s 0 0 (fp_A B)) (F0 m 0 ls []) := by
  have hx := E.1
  have hb := E.2.1
  have hown := E.2.2.2.1
  unfold m_X12_canSpread at h
  refine lv_iconst (v := (nI 0)) hx hb dX12_canSpread_0 (by decide) ?_
  refine lv_istore_n (lv' := [(3, .int (nI 0)), (0, .ref (B + 120)), (1, .int p1), (2, .int p2)]) hx hb dX12_canSpread_1 rfl hl (by decide) rfl (fun ls hl => ?_)
  refine lv_iconst (v := (nI 0)) hx hb dX12_canSpread_2 (by decide) ?_
  refine lv_istore (lv' := [(4, .int (nI 0)), (3, .int (nI 0)), (0, .ref (B + 120)), (1, .int p1), (2, .int p2)]) hx hb dX12_canSpread_3 hl (by decide) rfl (fun ls hl => ?_)
  refine lv_iconst (v := (nI 1)) hx hb dX12_canSpread_5 (by decide) ?_
  refine lv_istore (lv' := [(5, .int (nI 1)), (4, .int (nI 0)), (3, .int (nI 0)), (0, .ref (B + 120)), (1, .int p1), (2, .int p2)]) hx hb dX12_canSpread_6 hl (by decide) rfl (fun ls hl => ?_)
  refine lv_iconst (v := (nI 0)) hx hb dX12_canSpread_8 (by decide) ?_
  refine lv_istore (lv' := [(6, .int (nI 0)), (5, .int (nI 1)), (4, .int (nI 0)), (3, .int (nI 0)), (0, .ref (B + 120)), (1, .int p1), (2, .int p2)]) hx hb dX12_canSpread_9 hl (by decide) rfl (fun ls hl => ?_)
  exact w_X12_canSpread_11 E   fp_fu _ _ _ _ hG (lv_sub hl [4, 5, 6, 3, 2, 1, 0] rfl) h
theorem c_X12_canSpread (l : Launch) (D : va_G) (G : Nat → ClassId) (B : Nat) {M : fp_Mem}  {p1 : Int32} {p2 : Int32} {r : Int32}  (h : m_X12_canSpread M p1 p2 = some r) : Met l yX12_canSpread (Cond.code yX12_canSpread cX12_canSpread 7 (some .boolean) :: fp_T) rm_X12_canSpread (va_Pc [.ref (B + 120), .int p1, .int p2] (fp_GS D G B M)) (fp_Qi D G B r M) 0 0 (fp_A B) :=
  fp_met (own := RX12) (by decide) rfl (Nat.le_of_ble_eq_true rfl) (fun E hG hl => w_X12_canSpread_0 E  hG hl h)
abbrev rm_X12_spread : Room := { frames := 3, cells := 0, slots := 0, locals := 69 }
theorem cv_X12_spread : fp_CV yX12_spread cX12_spread 4 (some .int) 1 := ⟨tw_1126, tw_13, by decide, by decide +kernel⟩
set_option maxHeartbeats 2000000 in
theorem w_X12_spread_19 {p : Program} {l : Launch} {e : Env} {s : State} {m : MethodId} {args : Array Value} {below : List Frame} {meth : Method} {c : Code} {D : va_G} {G : Nat → ClassId} {B : Nat} {M : fp_Mem} {p1 : Int32} {r : Int32} (E : fp_EV p s m args meth c cX12_spread 4 RX12 (some .int) D G) : ∀ (n : Nat) (v2 : Int32) (v3 : Int32) {H : Heap} {locs : List Loc} {ls : Array Slot}, fp_H D G B s M H locs → lv_has ls 4 [(0, .ref (B + 120)), (2, .int v2), (3, .int v3)] → m_X12_spread_19 M p1 n v2 v3 = some r → W p l e rm_X12_spread s m args below meth c H locs 0 0 (MQ below (fp_Qi D G B r M) args s 0 0 (fp_A B)) (F0 m 19 ls []) := by
  have hx := E.1
  have hb := E.2.1
  have hown := E.2.2.2.1
  intro n
  induction n with
  | zero =>
    intro v2 v3 H locs ls hG hl h
    exact nomatch h
  | succ n ih =>
    have ihK := @ih
    intro v2 v3 H locs ls hG hl h
    rw [m_X12_spread_19] at h
    refine lv_aload_n hx hb dX12_spread_19 rfl (lv_at hl 0 rfl) ?_
    refine lv_iload_n hx hb dX12_spread_20 rfl (lv_at hl 1 rfl) ?_
    refine lv_iload_n hx hb dX12_spread_21 rfl (lv_at hl 2 rfl) ?_
    refine lv_iconst (v := (nI 1)) hx hb dX12_spread_22 (by decide) ?_
    refine lv_iadd hx hb dX12_spread_23 ?_
    obtain ⟨r_1, c_2, h⟩ := fp_b1_s h
    refine fp_callVi (As := [.int v2, .int (v3 + (nI 1))]) (rest := []) E hG (c_X12_canSpread l D G B c_2) cv_X12_canSpread tw_1127 tw_1129 ts_47 ⟨rfl, rfl⟩ ⟨Nat.le_of_ble_eq_true rfl, Nat.le_of_ble_eq_true rfl⟩ (fp_recv E hG (by decide) (fp_o12 _) rfl) rfl rfl (Nat.le_of_ble_eq_true rfl) hl.1 dX12_spread_24 ⟨Nat.zero_le _, Nat.zero_le _⟩ (fun H locs hG => ?_)
    refine lv_if_eq (tgt := 36) hx hb dX12_spread_27 (by decide) (fun q => ?_) (fun q => ?_)
    · replace h := fp_ifT q h
      refine lv_iload_n hx hb dX12_spread_36 rfl (lv_at hl 2 rfl) ?_
      exact fp_ireti E hG (Option.some.inj h) rfl dX12_spread_37
    · replace h := fp_ifF q h
      obtain ⟨x_3, ex_3, h⟩ := fp_lt_s h
      refine lv_iinc (v := x_3) (lv' := [(3, .int x_3), (0, .ref (B + 120)), (2, .int v2)]) hx hb dX12_spread_30 hl (k := 2) rfl (by rw [ex_3]; rfl) (by decide) rfl (fun ls hl => ?_)
      refine lv_goto (tgt := 19) hx hb dX12_spread_33 (by decide) ?_
      exact ih _ _ hG (lv_sub hl [1, 2, 0] rfl) h
set_option maxHeartbeats 2000000 in
theorem w_X12_spread_0 {p : Program} {l : Launch} {e : Env} {s : State} {m : MethodId} {args : Array Value} {below : List Frame} {meth : Method} {c : Code} {D : va_G} {G : Nat → ClassId} {B : Nat} {M : fp_Mem} {p1 : Int32} {r : Int32} (E : fp_EV p s m args meth c cX12_spread 4 RX12 (some .int) D G) {H : Heap} {locs : List Loc} {ls : Array Slot} (hG : fp_H D G B s M H locs) (hl : lv_has ls 4 [(0, .ref (B + 120)), (1, .int p1)]) (h : m_X12_spread M p1 = some r) : W p l e rm_X12_spread s m args below meth c H locs 0 0 (MQ below (fp_Qi D G B r M) args s 0 0 (fp_A B)) (F0 m 0 ls []) := by
  have hx := E.1
  have hb := E.2.1
  have hown := E.2.2.2.1
  unfold m_X12_spread at h
  refine lv_aload_n hx hb dX12_spread_0 rfl (lv_at hl 0 rfl) ?_
  refine lv_iload_n hx hb dX12_spread_1 rfl (lv_at hl 1 rfl) ?_
  obtain ⟨r_4, c_5, h⟩ := fp_b1_s h
  refine fp_callVi (As := [.int p1]) (rest := []) E hG (c_X12_isTable l D G B c_5) cv_X12_isTable tw_1006 tw_1008 ts_33 ⟨rfl, rfl⟩ ⟨Nat.le_of_ble_eq_true rfl, Nat.le_of_ble_eq_true rfl⟩ (fp_recv E hG (by decide) (fp_o12 _) rfl) rfl rfl (Nat.le_of_ble_eq_true rfl) hl.1 dX12_spread_2 ⟨Nat.zero_le _, Nat.zero_le _⟩ (fun H locs hG => ?_)
  refine lv_if_ne (tgt := 11) hx hb dX12_spread_5 (by decide) (fun q => ?_) (fun q => ?_)
  · replace h := fp_ifF q h
    refine lv_aload_n hx hb dX12_spread_11 rfl (lv_at hl 0 rfl) ?_
    refine lv_iload_n hx hb dX12_spread_12 rfl (lv_at hl 1 rfl) ?_
    obtain ⟨r_6, c_7, h⟩ := fp_b1_s h
    refine fp_callVi (As := [.int p1]) (rest := []) E hG (c_X12_together l D G B c_7) cv_X12_together tw_1082 tw_1084 ts_40 ⟨rfl, rfl⟩ ⟨Nat.le_of_ble_eq_true rfl, Nat.le_of_ble_eq_true rfl⟩ (fp_recv E hG (by decide) (fp_o12 _) rfl) rfl rfl (Nat.le_of_ble_eq_true rfl) hl.1 dX12_spread_13 ⟨Nat.zero_le _, Nat.zero_le _⟩ (fun H locs hG => ?_)
    refine lv_istore_n (lv' := [(2, .int r_6), (0, .ref (B + 120)), (1, .int p1)]) hx hb dX12_spread_16 rfl hl (by decide) rfl (fun ls hl => ?_)
    refine lv_iconst (v := (nI 0)) hx hb dX12_spread_17 (by decide) ?_
    refine lv_istore_n (lv' := [(3, .int (nI 0)), (2, .int r_6), (0, .ref (B + 120)), (1, .int p1)]) hx hb dX12_spread_18 rfl hl (by decide) rfl (fun ls hl => ?_)
    exact w_X12_spread_19 E   fp_fu _ _ hG (lv_sub hl [2, 1, 0] rfl) h
  · replace h := fp_ifT q h
    refine lv_ldc (v := (-1000000001 : Int32)) hx hb hown (fp_tabs E tw_1010) dX12_spread_8 ?_
    exact fp_ireti E hG (Option.some.inj h) rfl dX12_spread_10
theorem c_X12_spread (l : Launch) (D : va_G) (G : Nat → ClassId) (B : Nat) {M : fp_Mem}  {p1 : Int32} {r : Int32}  (h : m_X12_spread M p1 = some r) : Met l yX12_spread (Cond.code yX12_spread cX12_spread 4 (some .int) :: fp_T) rm_X12_spread (va_Pc [.ref (B + 120), .int p1] (fp_GS D G B M)) (fp_Qi D G B r M) 0 0 (fp_A B) :=
  fp_met (own := RX12) (by decide) rfl (Nat.le_of_ble_eq_true rfl) (fun E hG hl => w_X12_spread_0 E  hG hl h)
abbrev rm_X12_quiet : Room := { frames := 1, cells := 0, slots := 0, locals := 25 }
theorem cv_X12_quiet : fp_CV yX12_quiet cX12_quiet 6 (some .int) 2 := ⟨tw_1134, tw_13, by decide, by decide +kernel⟩
set_option maxHeartbeats 2000000 in
theorem w_X12_quiet_24 {p : Program} {l : Launch} {e : Env} {s : State} {m : MethodId} {args : Array Value} {below : List Frame} {meth : Method} {c : Code} {D : va_G} {G : Nat → ClassId} {B : Nat} {M : fp_Mem} {p1 : Int32} {p2 : Int32} {r : Int32} (E : fp_EV p s m args meth c cX12_quiet 6 RX12 (some .int) D G) {H : Heap} {locs : List Loc} {ls : Array Slot} (hG : fp_H D G B s M H locs) (hl : lv_has ls 6 []) (h : m_X12_quiet_24 M p1 p2 = some r) : W p l e rm_X12_quiet s m args below meth c H locs 0 0 (MQ below (fp_Qi D G B r M) args s 0 0 (fp_A B)) (F0 m 24 ls []) := by
  have hx := E.1
  have hb := E.2.1
  have hown := E.2.2.2.1
  unfold m_X12_quiet_24 at h
  refine lv_ldc (v := (-1000000002 : Int32)) hx hb hown (fp_tabs E tw_919) dX12_quiet_24 ?_
  exact fp_ireti E hG (Option.some.inj h) rfl dX12_quiet_26
set_option maxHeartbeats 2000000 in
theorem w_X12_quiet_34 {p : Program} {l : Launch} {e : Env} {s : State} {m : MethodId} {args : Array Value} {below : List Frame} {meth : Method} {c : Code} {D : va_G} {G : Nat → ClassId} {B : Nat} {M : fp_Mem} {p1 : Int32} {p2 : Int32} {r : Int32} (E : fp_EV p s m args meth c cX12_quiet 6 RX12 (some .int) D G) : ∀ (n : Nat) (v3 : Int64) (v5 : Int32) {H : Heap} {locs : List Loc} {ls : Array Slot}, fp_H D G B s M H locs → lv_has ls 6 [(1, .int p1), (2, .int p2), (3, .long v3), (5, .int v5)] → m_X12_quiet_34 M p1 p2 n v3 v5 = some r → W p l e rm_X12_quiet s m args below meth c H locs 0 0 (MQ below (fp_Qi D G B r M) args s 0 0 (fp_A B)) (F0 m 34 ls []) := by
  have hx := E.1
  have hb := E.2.1
  have hown := E.2.2.2.1
  intro n
  induction n with
  | zero =>
    intro v3 v5 H locs ls hG hl h
    exact nomatch h
  | succ n ih =>
    have ihK := @ih
    intro v3 v5 H locs ls hG hl h
    rw [m_X12_quiet_34] at h
    refine lv_iload hx hb dX12_quiet_34 (lv_at hl 3 rfl) ?_
    refine lv_iload_n hx hb dX12_quiet_36 rfl (lv_at hl 0 rfl) ?_
    refine lv_icmp_ge (tgt := 58) hx hb dX12_quiet_37 (by decide) (fun q => ?_) (fun q => ?_)
    · replace h := fp_ifT q h
      refine lv_lload_n hx hb dX12_quiet_58 rfl (lv_at hl 2 rfl) ?_
      refine lv_l2i hx hb dX12_quiet_59 rfl ?_
      exact fp_ireti E hG (Option.some.inj h) rfl dX12_quiet_60
    · replace h := fp_ifF q h
      refine lv_lload_n hx hb dX12_quiet_40 rfl (lv_at hl 2 rfl) ?_
      refine lv_bipush (v := (nI 100)) hx hb dX12_quiet_41 (by decide) ?_
      refine lv_iload_n hx hb dX12_quiet_43 rfl (lv_at hl 1 rfl) ?_
      refine lv_isub hx hb dX12_quiet_44 ?_
      refine lv_i2l hx hb dX12_quiet_45 rfl ?_
      refine lv_lmul hx hb dX12_quiet_46 ?_
      refine lv_ldc2 (v := (lN 100)) hx hb hown (fp_tabs E tw_1135) dX12_quiet_47 ?_
      refine lv_ldiv hx hb dX12_quiet_50 (by decide) ?_
      obtain ⟨x_1, ex_1, h⟩ := fp_lt_s h
      refine fp_topL ex_1 ?_
      refine lv_lstore_n (lv' := [(3, .long x_1), (1, .int p1), (2, .int p2), (5, .int v5)]) hx hb dX12_quiet_51 rfl hl (by decide) rfl (fun ls hl => ?_)
      obtain ⟨x_2, ex_2, h⟩ := fp_lt_s h
      refine lv_iinc (v := x_2) (lv' := [(5, .int x_2), (3, .long x_1), (1, .int p1), (2, .int p2)]) hx hb dX12_quiet_52 hl (k := 3) rfl (by rw [ex_2]; rfl) (by decide) rfl (fun ls hl => ?_)
      refine lv_goto (tgt := 34) hx hb dX12_quiet_55 (by decide) ?_
      exact ih _ _ hG (lv_sub hl [2, 3, 1, 0] rfl) h
set_option maxHeartbeats 2000000 in
theorem w_X12_quiet_0 {p : Program} {l : Launch} {e : Env} {s : State} {m : MethodId} {args : Array Value} {below : List Frame} {meth : Method} {c : Code} {D : va_G} {G : Nat → ClassId} {B : Nat} {M : fp_Mem} {p1 : Int32} {p2 : Int32} {r : Int32} (E : fp_EV p s m args meth c cX12_quiet 6 RX12 (some .int) D G) {H : Heap} {locs : List Loc} {ls : Array Slot} (hG : fp_H D G B s M H locs) (hl : lv_has ls 6 [(0, .ref (B + 120)), (1, .int p1), (2, .int p2)]) (h : m_X12_quiet M p1 p2 = some r) : W p l e rm_X12_quiet s m args below meth c H locs 0 0 (MQ below (fp_Qi D G B r M) args s 0 0 (fp_A B)) (F0 m 0 ls []) := by
  have hx := E.1
  have hb := E.2.1
  have hown := E.2.2.2.1
  unfold m_X12_quiet at h
  refine lv_iload_n hx hb dX12_quiet_0 rfl (lv_at hl 1 rfl) ?_
  refine lv_i2l hx hb dX12_quiet_1 rfl ?_
  refine lv_lconst (v := (lN 0)) hx hb dX12_quiet_2 (by decide) ?_
  refine lv_ldc2 (v := (lN 60)) hx hb hown (fp_tabs E tw_1057) dX12_quiet_3 ?_
  obtain ⟨r_3, c_4, h⟩ := fp_b1_s h
  refine fp_callSi (As := [.long (Int32.toInt64 p1), .long (lN 0), .long (lN 60)]) (rest := []) E hG (c_X12_in l D G B c_4) cv_X12_in tw_916 tw_917 ⟨rfl, rfl⟩ ⟨Nat.le_of_ble_eq_true rfl, Nat.le_of_ble_eq_true rfl⟩ rfl rfl (Nat.le_of_ble_eq_true rfl) hl.1 dX12_quiet_6 ⟨Nat.zero_le _, Nat.zero_le _⟩ (fun H locs hG => ?_)
  refine lv_if_eq (tgt := 24) hx hb dX12_quiet_9 (by decide) (fun q => ?_) (fun q => ?_)
  · replace h := fp_ifT q h
    exact w_X12_quiet_24 E    hG (lv_sub hl [] rfl) h
  · replace h := fp_ifF q h
    refine lv_iload_n hx hb dX12_quiet_12 rfl (lv_at hl 2 rfl) ?_
    refine lv_i2l hx hb dX12_quiet_13 rfl ?_
    refine lv_lconst (v := (lN 0)) hx hb dX12_quiet_14 (by decide) ?_
    refine lv_ldc2 (v := (lN 100)) hx hb hown (fp_tabs E tw_1135) dX12_quiet_15 ?_
    obtain ⟨r_5, c_6, h⟩ := fp_b1_s h
    refine fp_callSi (As := [.long (Int32.toInt64 p2), .long (lN 0), .long (lN 100)]) (rest := []) E hG (c_X12_in l D G B c_6) cv_X12_in tw_916 tw_917 ⟨rfl, rfl⟩ ⟨Nat.le_of_ble_eq_true rfl, Nat.le_of_ble_eq_true rfl⟩ rfl rfl (Nat.le_of_ble_eq_true rfl) hl.1 dX12_quiet_18 ⟨Nat.zero_le _, Nat.zero_le _⟩ (fun H locs hG => ?_)
    refine lv_if_ne (tgt := 27) hx hb dX12_quiet_21 (by decide) (fun q => ?_) (fun q => ?_)
    · replace h := fp_ifF q h
      refine lv_ldc2 (v := (lN 1000000000)) hx hb hown (fp_tabs E tw_1136) dX12_quiet_27 ?_
      refine lv_lstore_n (lv' := [(3, .long (lN 1000000000)), (0, .ref (B + 120)), (1, .int p1), (2, .int p2)]) hx hb dX12_quiet_30 rfl hl (by decide) rfl (fun ls hl => ?_)
      refine lv_iconst (v := (nI 0)) hx hb dX12_quiet_31 (by decide) ?_
      refine lv_istore (lv' := [(5, .int (nI 0)), (3, .long (lN 1000000000)), (0, .ref (B + 120)), (1, .int p1), (2, .int p2)]) hx hb dX12_quiet_32 hl (by decide) rfl (fun ls hl => ?_)
      exact w_X12_quiet_34 E   fp_fu _ _ hG (lv_sub hl [3, 4, 1, 0] rfl) h
    · replace h := fp_ifT q h
      exact w_X12_quiet_24 E    hG (lv_sub hl [] rfl) h
theorem c_X12_quiet (l : Launch) (D : va_G) (G : Nat → ClassId) (B : Nat) {M : fp_Mem}  {p1 : Int32} {p2 : Int32} {r : Int32}  (h : m_X12_quiet M p1 p2 = some r) : Met l yX12_quiet (Cond.code yX12_quiet cX12_quiet 6 (some .int) :: fp_T) rm_X12_quiet (va_Pc [.ref (B + 120), .int p1, .int p2] (fp_GS D G B M)) (fp_Qi D G B r M) 0 0 (fp_A B) :=
  fp_met (own := RX12) (by decide) rfl (Nat.le_of_ble_eq_true rfl) (fun E hG hl => w_X12_quiet_0 E  hG hl h)
abbrev rm_X12_see : Room := { frames := 2, cells := 0, slots := 0, locals := 46 }
theorem cv_X12_see : fp_CV yX12_see cX12_see 3 (some .int) 2 := ⟨tw_1140, tw_13, by decide, by decide +kernel⟩
set_option maxHeartbeats 2000000 in
theorem w_X12_see_0 {p : Program} {l : Launch} {e : Env} {s : State} {m : MethodId} {args : Array Value} {below : List Frame} {meth : Method} {c : Code} {D : va_G} {G : Nat → ClassId} {B : Nat} {p1 : Int32} {p2 : Int32} {r : Int32} {M' : fp_Mem} (E : fp_EV p s m args meth c cX12_see 3 RX12 (some .int) D G) {M : fp_Mem} {H : Heap} {locs : List Loc} {ls : Array Slot} (hG : fp_H D G B s M H locs) (hl : lv_has ls 3 [(0, .ref (B + 120)), (1, .int p1), (2, .int p2)]) (h : m_X12_see M p1 p2 = some (r, M')) : W p l e rm_X12_see s m args below meth c H locs 0 0 (MQ below (fp_Qi D G B r M') args s 0 0 (fp_A B)) (F0 m 0 ls []) := by
  have hx := E.1
  have hb := E.2.1
  have hown := E.2.2.2.1
  unfold m_X12_see at h
  refine lv_aload_n hx hb dX12_see_0 rfl (lv_at hl 0 rfl) ?_
  refine lv_iload_n hx hb dX12_see_1 rfl (lv_at hl 1 rfl) ?_
  obtain ⟨r_1, c_2, h⟩ := fp_b1_s h
  refine fp_callVi (As := [.int p1]) (rest := []) E hG (c_X12_isTable l D G B c_2) cv_X12_isTable tw_1006 tw_1008 ts_33 ⟨rfl, rfl⟩ ⟨Nat.le_of_ble_eq_true rfl, Nat.le_of_ble_eq_true rfl⟩ (fp_recv E hG (by decide) (fp_o12 _) rfl) rfl rfl (Nat.le_of_ble_eq_true rfl) hl.1 dX12_see_2 ⟨Nat.zero_le _, Nat.zero_le _⟩ (fun H locs hG => ?_)
  refine lv_if_ne (tgt := 11) hx hb dX12_see_5 (by decide) (fun q => ?_) (fun q => ?_)
  · replace h := fp_ifF q h
    refine lv_aload_n hx hb dX12_see_11 rfl (lv_at hl 0 rfl) ?_
    refine fp_g12_27 E hG tw_832 dX12_see_12 ?_
    refine lv_bipush (v := (nI 6)) hx hb dX12_see_15 (by decide) ?_
    refine lv_icmp_ne (tgt := 23) hx hb dX12_see_17 (by decide) (fun q => ?_) (fun q => ?_)
    · replace h := fp_ifF q h
      refine lv_aload_n hx hb dX12_see_23 rfl (lv_at hl 0 rfl) ?_
      refine fp_g12_28 E hG tw_833 dX12_see_24 ?_
      refine lv_aload_n hx hb dX12_see_27 rfl (lv_at hl 0 rfl) ?_
      refine fp_g12_27 E hG tw_832 dX12_see_28 ?_
      refine lv_iload_n hx hb dX12_see_31 rfl (lv_at hl 1 rfl) ?_
      obtain ⟨g_3, h⟩ := fp_gd_s h
      obtain ⟨M_4, eM_4, h⟩ := fp_lt_s h
      refine fp_iast E hG fp_cc134.1 (fp_a31 fp_cc134) (fp_in_s g_3) dX12_see_32 (fun H locs hG => ?_)
      replace hG := fp_memH eM_4 hG
      refine lv_aload_n hx hb dX12_see_33 rfl (lv_at hl 0 rfl) ?_
      refine fp_g12_29 E hG tw_834 dX12_see_34 ?_
      refine lv_aload_n hx hb dX12_see_37 rfl (lv_at hl 0 rfl) ?_
      refine fp_g12_27 E hG tw_832 dX12_see_38 ?_
      refine lv_iload_n hx hb dX12_see_41 rfl (lv_at hl 2 rfl) ?_
      obtain ⟨g_5, h⟩ := fp_gd_s h
      obtain ⟨M_6, eM_6, h⟩ := fp_lt_s h
      refine fp_zast E hG fp_cc135.1 (fp_a32 fp_cc135) (fp_in_s g_5) dX12_see_42 (fun H locs hG => ?_)
      replace hG := fp_memH eM_6 hG
      refine lv_aload_n hx hb dX12_see_43 rfl (lv_at hl 0 rfl) ?_
      refine lv_dup hx hb dX12_see_44 rfl ?_
      refine fp_g12_27 E hG tw_832 dX12_see_45 ?_
      refine lv_iconst (v := (nI 1)) hx hb dX12_see_48 (by decide) ?_
      refine lv_iadd hx hb dX12_see_49 ?_
      obtain ⟨M_7, eM_7, h⟩ := fp_lt_s h
      refine fp_p12_27 E hG tw_832 dX12_see_50 (fun H locs hG => ?_)
      replace hG := fp_memH eM_7 hG
      refine lv_aload_n hx hb dX12_see_53 rfl (lv_at hl 0 rfl) ?_
      refine fp_g12_27 E hG tw_832 dX12_see_54 ?_
      exact fp_ireti E hG (fp_pr1 h) (fp_pr2 h) dX12_see_57
    · replace h := fp_ifT q h
      refine lv_ldc (v := (-1000000004 : Int32)) hx hb hown (fp_tabs E tw_920) dX12_see_20 ?_
      exact fp_ireti E hG (fp_pr1 h) (fp_pr2 h) dX12_see_22
  · replace h := fp_ifT q h
    refine lv_ldc (v := (-1000000001 : Int32)) hx hb hown (fp_tabs E tw_1010) dX12_see_8 ?_
    exact fp_ireti E hG (fp_pr1 h) (fp_pr2 h) dX12_see_10
theorem c_X12_see (l : Launch) (D : va_G) (G : Nat → ClassId) (B : Nat) {M : fp_Mem}  {p1 : Int32} {p2 : Int32} {r : Int32} {M' : fp_Mem}  (h : m_X12_see M p1 p2 = some (r, M')) : Met l yX12_see (Cond.code yX12_see cX12_see 3 (some .int) :: fp_T) rm_X12_see (va_Pc [.ref (B + 120), .int p1, .int p2] (fp_GS D G B M)) (fp_Qi D G B r M') 0 0 (fp_A B) :=
  fp_met (own := RX12) (by decide) rfl (Nat.le_of_ble_eq_true rfl) (fun E hG hl => w_X12_see_0 E  hG hl h)
abbrev rm_X12_movers : Room := { frames := 3, cells := 0, slots := 0, locals := 68 }
theorem cv_X12_movers : fp_CV yX12_movers cX12_movers 4 (some .int) 1 := ⟨tw_1152, tw_13, by decide, by decide +kernel⟩
set_option maxHeartbeats 2000000 in
theorem w_X12_movers_4 {p : Program} {l : Launch} {e : Env} {s : State} {m : MethodId} {args : Array Value} {below : List Frame} {meth : Method} {c : Code} {D : va_G} {G : Nat → ClassId} {B : Nat} {M : fp_Mem} {p1 : Int32} {r : Int32} (E : fp_EV p s m args meth c cX12_movers 4 RX12 (some .int) D G) : ∀ (n : Nat) (v2 : Int32) (v3 : Int32) {H : Heap} {locs : List Loc} {ls : Array Slot}, fp_H D G B s M H locs → lv_has ls 4 [(0, .ref (B + 120)), (2, .int v2), (3, .int v3)] → m_X12_movers_4 M p1 n v2 v3 = some r → W p l e rm_X12_movers s m args below meth c H locs 0 0 (MQ below (fp_Qi D G B r M) args s 0 0 (fp_A B)) (F0 m 4 ls []) := by
  have hx := E.1
  have hb := E.2.1
  have hown := E.2.2.2.1
  intro n
  induction n with
  | zero =>
    intro v2 v3 H locs ls hG hl h
    exact nomatch h
  | succ n ih =>
    have ihK := @ih
    intro v2 v3 H locs ls hG hl h
    rw [m_X12_movers_4] at h
    refine lv_aload_n hx hb dX12_movers_4 rfl (lv_at hl 0 rfl) ?_
    refine fp_g12_22 E hG tw_827 dX12_movers_5 ?_
    refine lv_iload_n hx hb dX12_movers_8 rfl (lv_at hl 2 rfl) ?_
    obtain ⟨g_1, h⟩ := fp_gd_s h
    refine fp_iald E hG fp_cc130.1 (fp_a20 fp_cc130) (fp_in_s g_1) dX12_movers_9 ?_
    refine lv_if_le (tgt := 28) hx hb dX12_movers_10 (by decide) (fun q => ?_) (fun q => ?_)
    · replace h := fp_ifT q h
      refine lv_iload_n hx hb dX12_movers_28 rfl (lv_at hl 1 rfl) ?_
      exact fp_ireti E hG (Option.some.inj h) rfl dX12_movers_29
    · replace h := fp_ifF q h
      refine lv_iload_n hx hb dX12_movers_13 rfl (lv_at hl 1 rfl) ?_
      refine lv_iconst (v := (nI 1)) hx hb dX12_movers_14 (by decide) ?_
      refine lv_iload_n hx hb dX12_movers_15 rfl (lv_at hl 2 rfl) ?_
      refine lv_ishl hx hb dX12_movers_16 ?_
      refine lv_ior hx hb dX12_movers_17 ?_
      obtain ⟨x_2, ex_2, h⟩ := fp_lt_s h
      refine fp_top ex_2 ?_
      refine lv_istore_n (lv' := [(2, .int x_2), (0, .ref (B + 120)), (3, .int v3)]) hx hb dX12_movers_18 rfl hl (by decide) rfl (fun ls hl => ?_)
      refine lv_aload_n hx hb dX12_movers_19 rfl (lv_at hl 1 rfl) ?_
      refine lv_iload_n hx hb dX12_movers_20 rfl (lv_at hl 2 rfl) ?_
      obtain ⟨r_3, c_4, h⟩ := fp_b1_s h
      refine fp_callVi (As := [.int v3]) (rest := []) E hG (c_X12_nextOf l D G B c_4) cv_X12_nextOf tw_1031 tw_1033 ts_37 ⟨rfl, rfl⟩ ⟨Nat.le_of_ble_eq_true rfl, Nat.le_of_ble_eq_true rfl⟩ (fp_recv E hG (by decide) (fp_o12 _) rfl) rfl rfl (Nat.le_of_ble_eq_true rfl) hl.1 dX12_movers_21 ⟨Nat.zero_le _, Nat.zero_le _⟩ (fun H locs hG => ?_)
      refine lv_istore_n (lv' := [(3, .int r_3), (2, .int x_2), (0, .ref (B + 120))]) hx hb dX12_movers_24 rfl hl (by decide) rfl (fun ls hl => ?_)
      refine lv_goto (tgt := 4) hx hb dX12_movers_25 (by decide) ?_
      exact ih _ _ hG (lv_sub hl [2, 1, 0] rfl) h
set_option maxHeartbeats 2000000 in
theorem w_X12_movers_0 {p : Program} {l : Launch} {e : Env} {s : State} {m : MethodId} {args : Array Value} {below : List Frame} {meth : Method} {c : Code} {D : va_G} {G : Nat → ClassId} {B : Nat} {M : fp_Mem} {p1 : Int32} {r : Int32} (E : fp_EV p s m args meth c cX12_movers 4 RX12 (some .int) D G) {H : Heap} {locs : List Loc} {ls : Array Slot} (hG : fp_H D G B s M H locs) (hl : lv_has ls 4 [(0, .ref (B + 120)), (1, .int p1)]) (h : m_X12_movers M p1 = some r) : W p l e rm_X12_movers s m args below meth c H locs 0 0 (MQ below (fp_Qi D G B r M) args s 0 0 (fp_A B)) (F0 m 0 ls []) := by
  have hx := E.1
  have hb := E.2.1
  have hown := E.2.2.2.1
  unfold m_X12_movers at h
  refine lv_iconst (v := (nI 0)) hx hb dX12_movers_0 (by decide) ?_
  refine lv_istore_n (lv' := [(2, .int (nI 0)), (0, .ref (B + 120)), (1, .int p1)]) hx hb dX12_movers_1 rfl hl (by decide) rfl (fun ls hl => ?_)
  refine lv_iload_n hx hb dX12_movers_2 rfl (lv_at hl 2 rfl) ?_
  refine lv_istore_n (lv' := [(3, .int p1), (2, .int (nI 0)), (0, .ref (B + 120)), (1, .int p1)]) hx hb dX12_movers_3 rfl hl (by decide) rfl (fun ls hl => ?_)
  exact w_X12_movers_4 E   fp_fu _ _ hG (lv_sub hl [2, 1, 0] rfl) h
theorem c_X12_movers (l : Launch) (D : va_G) (G : Nat → ClassId) (B : Nat) {M : fp_Mem}  {p1 : Int32} {r : Int32}  (h : m_X12_movers M p1 = some r) : Met l yX12_movers (Cond.code yX12_movers cX12_movers 4 (some .int) :: fp_T) rm_X12_movers (va_Pc [.ref (B + 120), .int p1] (fp_GS D G B M)) (fp_Qi D G B r M) 0 0 (fp_A B) :=
  fp_met (own := RX12) (by decide) rfl (Nat.le_of_ble_eq_true rfl) (fun E hG hl => w_X12_movers_0 E  hG hl h)
abbrev rm_X12_couldCome : Room := { frames := 4, cells := 0, slots := 0, locals := 91 }

theorem twc_17 : Cond.instantiable "FreePlace" 11 ∈ fp_T := fp_T_of 17 (by decide +kernel) rfl
theorem twc_800 : Cond.instantiable "FreePlaceModel" 35 ∈ fp_T := fp_T_of 800 (by decide +kernel) rfl
theorem twm_16 : Cond.classLink "FreePlaceLaw" 7 "FreePlace" ∈ fp_T := fp_T_of 16 (by decide +kernel) rfl
theorem twm_799 : Cond.classLink "FreePlaceLaw" 10 "FreePlaceModel" ∈ fp_T := fp_T_of 799 (by decide +kernel) rfl
theorem twm_1 : Cond.initialized "FreePlace" ∈ fp_T := fp_T_of 1 (by decide +kernel) rfl
theorem twm_13 : Cond.initialized "FreePlaceModel" ∈ fp_T := fp_T_of 13 (by decide +kernel) rfl
theorem twm_18 : Cond.methodLink "FreePlaceLaw" 9 yX11_init ∈ fp_T := fp_T_of 18 (by decide +kernel) rfl
theorem twm_801 : Cond.methodLink "FreePlaceLaw" 12 yX12_init ∈ fp_T := fp_T_of 801 (by decide +kernel) rfl
theorem twm_19 : Cond.instanceMethod yX11_init ∈ fp_T := fp_T_of 19 (by decide +kernel) rfl
theorem twm_802 : Cond.instanceMethod yX12_init ∈ fp_T := fp_T_of 802 (by decide +kernel) rfl
theorem fl_nests : ∀ q ∈ fp_nests, Cond.methodLinkNest q.1 q.2.1 q.2.2.1 q.2.2.2 ∈ lw_tbl := by decide +kernel
theorem fl_over : Cond.arrayOver (.object "FreePlace$State") ∈ lw_tbl := List.mem_append_right _ (List.mem_of_getElem? (i := 281) (by decide +kernel))
theorem fl_arr {args : Array Value} {s : State} {ty : FieldType} (hty : ∀ (C : String), ty ≠ .object C) (h : (Cond.arrayClass ty).before args s = true) : ∃ cA : ClassId, ArrOfT s cA ty ∧ va_RA s cA ty := by
  obtain ⟨c, k, comp, h1, h2, h3⟩ := Cond.arrayClass_spec h
  refine ⟨c, fun n z => ⟨fun k h => (by cases h), k, h2, comp, h3⟩, ?_⟩
  cases ty with
  | object C => exact absurd rfl (hty C)
  | _ => exact h1
theorem fl_arrO {s : State} {C : String} (h : va_AO C s) : ∃ cA : ClassId, ArrOfT s cA (.object C) ∧ va_RA s cA (.object C) := by
  obtain ⟨comp, c, k, h1, h2, h3, h4, h5⟩ := Cond.arrayOver_spec h
  exact ⟨c, fun n z => ⟨fun k h => (by cases h), k, h3, comp, h4⟩, k, comp, h3, h4, h1, h5⟩
theorem fl_mix {G : Nat → ClassId} {B : Nat} {V : Nat → va_E} {e : va_E} : ∀ q, q < 140 → fp_mix G B (va_up (fp_mix G B V 0) 120 e) 120 q = fp_e G B fp_M0 q := by
  intro q _
  by_cases h : q < 120
  · simp [fp_mix, h, va_up, Nat.ne_of_lt h]
  · simp [fp_mix, h]
set_option maxHeartbeats 4000000 in
theorem whole_start {p : Program} {e : Env} {s : State} {m : MethodId} {below : List Frame} {meth : Method} {c : Code} (l : Launch) (hflags : l.flags = flags0) {b L : Nat} {xs : Nat → Int32} (hL : L ≤ 2048) (C0 : lw_At p s m meth c b L xs) : W p l e room_1 s m #[Value.ref b] below meth c s.heap [] 0 0 (lw_Z below #[Value.ref b] s) (entryFrame m ([Value.ref b] : List Value).toArray 4) := by
  obtain ⟨hx, hb, hr, hml, hown, hts, hX, hbl, hlocks, hgv⟩ := id C0
  have ht : ∀ w ∈ fp_T, w.before #[Value.ref b] s = true := fun w hw => hts w (fp_T_sub hw)
  obtain ⟨c0, i0, hK0⟩ := u_known (C := RX0) (T := TX0) (N := 1) (n := 1) ht fp_u0 (ht _ twc_192)
  obtain ⟨c1, i1, hK1⟩ := u_known (C := RX1) (T := TX1) (N := 3) (n := 3) ht fp_u1 (ht _ twc_246)
  obtain ⟨c2, i2, hK2⟩ := u_known (C := RX2) (T := TX2) (N := 5) (n := 5) ht fp_u2 (ht _ twc_169)
  obtain ⟨c3, i3, hK3⟩ := u_known (C := RX3) (T := TX3) (N := 1) (n := 1) ht fp_u3 (ht _ twc_263)
  obtain ⟨c4, i4, hK4⟩ := u_known (C := RX4) (T := TX4) (N := 3) (n := 3) ht fp_u4 (ht _ twc_275)
  obtain ⟨c5, i5, hK5⟩ := u_known (C := RX5) (T := TX5) (N := 3) (n := 3) ht fp_u5 (ht _ twc_295)
  obtain ⟨c6, i6, hK6⟩ := u_known (C := RX6) (T := TX6) (N := 7) (n := 7) ht fp_u6 (ht _ twc_25)
  obtain ⟨c7, i7, hK7⟩ := u_known (C := RX7) (T := TX7) (N := 9) (n := 9) ht fp_u7 (ht _ twc_31)
  obtain ⟨c8, i8, hK8⟩ := u_known (C := RX8) (T := TX8) (N := 3) (n := 3) ht fp_u8 (ht _ twc_229)
  obtain ⟨c9, i9, hK9⟩ := u_known (C := RX9) (T := TX9) (N := 9) (n := 9) ht fp_u9 (ht _ twc_116)
  obtain ⟨c10, i10, hK10⟩ := u_known (C := RX10) (T := TX10) (N := 4) (n := 4) ht fp_u10 (ht _ twc_204)
  obtain ⟨c11, i11, hK11⟩ := u_known (C := RX11) (T := TX11) (N := 11) (n := 11) ht fp_u11 (ht _ twc_17)
  obtain ⟨c12, i12, hK12⟩ := u_known (C := RX12) (T := TX12) (N := 35) (n := 35) ht fp_u12 (ht _ twc_800)
  have hN : fp_NW s := ⟨fun q hq => va_Nw.of rfl (hts _ (fl_nests q hq)), va_AO.of (hts _ fl_over)⟩
  obtain ⟨g0, hg0⟩ := fl_arr (ty := .int) (by intro C h; cases h) (ht _ tw_ar_int)
  obtain ⟨g1, hg1⟩ := fl_arr (ty := .char) (by intro C h; cases h) (ht _ tw_ar_char)
  obtain ⟨g2, hg2⟩ := fl_arr (ty := .boolean) (by intro C h; cases h) (ht _ tw_ar_boolean)
  obtain ⟨g3, hg3⟩ := fl_arrO hN.2
  obtain ⟨D, G, hK⟩ : ∃ (D : va_G) (G : Nat → ClassId), va_K D vwCl (fp_tys G) s := by
    refine ⟨(fun k => [c0, c1, c2, c3, c4, c5, c6, c7, c8, c9, c10, c11, c12].getD k c0, fun k => [i0, i1, i2, i3, i4, i5, i6, i7, i8, i9, i10, i11, i12].getD k i0), fun k => [g0, g1, g2, g3].getD k g0, fun k q hq => ?_, fun k q hq => ?_⟩
    · match k, hq with
      | 0, hq => cases hq; exact hK0
      | 1, hq => cases hq; exact hK1
      | 2, hq => cases hq; exact hK2
      | 3, hq => cases hq; exact hK3
      | 4, hq => cases hq; exact hK4
      | 5, hq => cases hq; exact hK5
      | 6, hq => cases hq; exact hK6
      | 7, hq => cases hq; exact hK7
      | 8, hq => cases hq; exact hK8
      | 9, hq => cases hq; exact hK9
      | 10, hq => cases hq; exact hK10
      | 11, hq => cases hq; exact hK11
      | 12, hq => cases hq; exact hK12
      | k + 13, hq => simp [vwCl] at hq
    · match k, hq with
      | 0, hq => cases hq; exact hg0
      | 1, hq => cases hq; exact hg1
      | 2, hq => cases hq; exact hg2
      | 3, hq => cases hq; exact hg3
      | k + 4, hq => simp [fp_tys] at hq
  obtain ⟨B, hB⟩ : ∃ B : Nat, B = s.heap.size := ⟨_, rfl⟩
  have E : fp_EV p s m #[Value.ref b] meth c code 4 RL ret D G := ⟨hx, hb, hml, hown, ht, hK, hr, hlocks⟩
  have hbA : ¬ fp_A B b := by rw [hB]; exact Nat.not_le.mpr hbl
  have hG : fp_HV D B s 0 (fun _ => fp_e G B fp_M0 0) s.heap [] := ⟨fun k q h => by simp [fp_gv] at h, va_S.rf, by rw [hB]; rfl, by rw [hB]; exact Nat.le_refl _⟩
  have hl := lv_entry ([.ref b]) (n := 4) (Nat.le_of_ble_eq_true rfl)
  rw [lg_entry_eq]
  generalize (lg_sl ([.ref b]) ++ List.replicate (4 - (lg_sl ([.ref b])).length) Slot.unset).toArray = ls at hl ⊢
  have hl : lv_has ls 4 [(0, .ref b)] := hl
  refine fp_new (ci := 11) (N := 11) (C := RX11) (T := TX11) (fs := [.null, .null, .null, .null, .null, .null, .null, .null, .null, .null, .null]) E hG fp_u11 tyX11 tyX11_ok twm_16 twc_17 twm_1 rfl (fun j hj => by rcases (show j = 0 ∨ j = 1 ∨ j = 2 ∨ j = 3 ∨ j = 4 ∨ j = 5 ∨ j = 6 ∨ j = 7 ∨ j = 8 ∨ j = 9 ∨ j = 10 by omega) with rfl | rfl | rfl | rfl | rfl | rfl | rfl | rfl | rfl | rfl | rfl <;> rfl) (Nat.le_of_ble_eq_true rfl) (Nat.le_of_ble_eq_true rfl) dL_law_0 (fun H hG => ?_)
  refine lv_dup hx hb dL_law_3 rfl ?_
  refine fp_callI (host := "") (k := 0) (n1 := 120) E hG (c_X11_init l D G B _ (by simp [va_up])) hN cv_X11_init twm_18 twm_19 rfl ⟨rfl, rfl⟩ ⟨Nat.le_of_ble_eq_true rfl, Nat.le_of_ble_eq_true rfl⟩ (Nat.le_of_ble_eq_true rfl) hl.1 dL_law_4 ⟨Nat.le_of_ble_eq_true rfl, Nat.le_of_ble_eq_true rfl⟩ (fun H locs hG => ?_)
  refine lv_astore_n (lv' := [(1, .ref (B + 0)), (0, .ref b)]) hx hb dL_law_7 rfl hl (by decide) rfl (fun ls hl => ?_)
  refine fp_new (ci := 12) (N := 35) (C := RX12) (T := TX12) (fs := [.int 0, .int 0, .int 0, .null, .null, .null, .int 0, .int 0, .null, .int 0, .int 0, .int 0, .int 0, .int 0, .int 0, .null, .int 0, .null, .null, .int 0, .null, .null, .null, .int 0, .null, .null, .null, .int 0, .null, .null, .int 0, .null, .null, .null, .null]) E hG fp_u12 tyX12 tyX12_ok twm_799 twc_800 twm_13 rfl (fun j hj => by rcases (show j = 0 ∨ j = 1 ∨ j = 2 ∨ j = 3 ∨ j = 4 ∨ j = 5 ∨ j = 6 ∨ j = 7 ∨ j = 8 ∨ j = 9 ∨ j = 10 ∨ j = 11 ∨ j = 12 ∨ j = 13 ∨ j = 14 ∨ j = 15 ∨ j = 16 ∨ j = 17 ∨ j = 18 ∨ j = 19 ∨ j = 20 ∨ j = 21 ∨ j = 22 ∨ j = 23 ∨ j = 24 ∨ j = 25 ∨ j = 26 ∨ j = 27 ∨ j = 28 ∨ j = 29 ∨ j = 30 ∨ j = 31 ∨ j = 32 ∨ j = 33 ∨ j = 34 by omega) with rfl | rfl | rfl | rfl | rfl | rfl | rfl | rfl | rfl | rfl | rfl | rfl | rfl | rfl | rfl | rfl | rfl | rfl | rfl | rfl | rfl | rfl | rfl | rfl | rfl | rfl | rfl | rfl | rfl | rfl | rfl | rfl | rfl | rfl | rfl <;> rfl) (Nat.le_of_ble_eq_true rfl) (Nat.le_of_ble_eq_true rfl) dL_law_8 (fun H hG => ?_)
  refine lv_dup hx hb dL_law_11 rfl ?_
  refine fp_callI (host := "") (k := 120) (n1 := 140) E hG (c_X12_init l D G B _ (by simp [va_up])) hN cv_X12_init twm_801 twm_802 rfl ⟨rfl, rfl⟩ ⟨Nat.le_of_ble_eq_true rfl, Nat.le_of_ble_eq_true rfl⟩ (Nat.le_of_ble_eq_true rfl) hl.1 dL_law_12 ⟨Nat.le_of_ble_eq_true rfl, Nat.le_of_ble_eq_true rfl⟩ (fun H locs hG => ?_)
  replace hG := fp_HV_congr fl_mix hG
  have hG : fp_H D G B s fp_M0 H locs := ⟨hG.1, hG.2.1⟩
  refine lv_astore_n (lv' := [(2, .ref (B + 120)), (1, .ref (B + 0)), (0, .ref b)]) hx hb dL_law_15 rfl hl (by decide) rfl (fun ls hl => ?_)
  refine lv_iconst (v := nI 0) hx hb dL_law_16 (by decide) ?_
  refine lv_istore_n (lv' := [(3, .int (nI 0)), (2, .ref (B + 120)), (1, .ref (B + 0)), (0, .ref b)]) hx hb dL_law_17 rfl hl (by decide) rfl (fun ls hl => ?_)
  refine W.widen (k := 140) (n := 2279) (by decide) (by decide) ?_
  exact fl_loop hL hB E hX hbl hbA 3000 0 (by decide) (by decide) fp_Inv0 hG (lv_sub hl [0, 3, 2, 1] rfl)

theorem tw_oc : Cond.code Lib.objectInit ⟨#[0xb1]⟩ 1 none ∈ fp_T := fp_T_of 23 (by decide +kernel) rfl
theorem tw_ar_int : Cond.arrayClass .int ∈ fp_T := fp_T_of 85 (by decide +kernel) rfl
theorem tw_ar_char : Cond.arrayClass .char ∈ fp_T := fp_T_of 112 (by decide +kernel) rfl
theorem tw_ar_boolean : Cond.arrayClass .boolean ∈ fp_T := fp_T_of 312 (by decide +kernel) rfl
theorem twc_35 : Cond.methodLink "FreePlace$Realm" 3 Lib.objectInit ∈ fp_T := fp_T_of 35 (by decide +kernel) rfl
theorem twc_22 : Cond.instanceMethod Lib.objectInit ∈ fp_T := fp_T_of 22 (by decide +kernel) rfl
theorem twc_56 : Cond.fieldLink "FreePlace$Realm" 9 "FreePlace$Realm" "seats" "[I" ∈ fp_T := fp_T_of 56 (by decide +kernel) rfl
theorem twc_58 : Cond.fieldLink "FreePlace$Realm" 15 "FreePlace$Realm" "sits" "[I" ∈ fp_T := fp_T_of 58 (by decide +kernel) rfl
theorem twc_60 : Cond.fieldLink "FreePlace$Realm" 18 "FreePlace$Realm" "from" "[I" ∈ fp_T := fp_T_of 60 (by decide +kernel) rfl
theorem twc_63 : Cond.fieldLink "FreePlace$Realm" 21 "FreePlace$Realm" "to" "[I" ∈ fp_T := fp_T_of 63 (by decide +kernel) rfl
theorem twc_34 : Cond.code yX7_init cX7_init 1 none ∈ fp_T := fp_T_of 34 (by decide +kernel) rfl
theorem twc_3 : Cond.initialized "FreePlace$Realm" ∈ fp_T := fp_T_of 3 (by decide +kernel) rfl
theorem twc_120 : Cond.methodLink "FreePlace$State" 3 Lib.objectInit ∈ fp_T := fp_T_of 120 (by decide +kernel) rfl
theorem twc_121 : Cond.fieldLink "FreePlace$State" 9 "FreePlace$State" "seats" "[I" ∈ fp_T := fp_T_of 121 (by decide +kernel) rfl
theorem twc_124 : Cond.fieldLink "FreePlace$State" 15 "FreePlace$State" "sits" "[I" ∈ fp_T := fp_T_of 124 (by decide +kernel) rfl
theorem twc_119 : Cond.code yX9_init cX9_init 1 none ∈ fp_T := fp_T_of 119 (by decide +kernel) rfl
theorem twc_4 : Cond.initialized "FreePlace$State" ∈ fp_T := fp_T_of 4 (by decide +kernel) rfl
theorem twc_173 : Cond.methodLink "FreePlace$Chains" 3 Lib.objectInit ∈ fp_T := fp_T_of 173 (by decide +kernel) rfl
theorem twc_176 : Cond.fieldLink "FreePlace$Chains" 9 "FreePlace$Chains" "joined" "[I" ∈ fp_T := fp_T_of 176 (by decide +kernel) rfl
theorem twc_177 : Cond.fieldLink "FreePlace$Chains" 15 "FreePlace$Chains" "moves" "[I" ∈ fp_T := fp_T_of 177 (by decide +kernel) rfl
theorem twc_178 : Cond.fieldLink "FreePlace$Chains" 18 "FreePlace$Chains" "next" "[I" ∈ fp_T := fp_T_of 178 (by decide +kernel) rfl
theorem twc_179 : Cond.fieldLink "FreePlace$Chains" 21 "FreePlace$Chains" "movers" "[I" ∈ fp_T := fp_T_of 179 (by decide +kernel) rfl
theorem twc_172 : Cond.code yX2_init cX2_init 1 none ∈ fp_T := fp_T_of 172 (by decide +kernel) rfl
theorem twc_5 : Cond.initialized "FreePlace$Chains" ∈ fp_T := fp_T_of 5 (by decide +kernel) rfl
theorem twc_267 : Cond.methodLink "FreePlace$Draws" 1 Lib.objectInit ∈ fp_T := fp_T_of 267 (by decide +kernel) rfl
theorem twc_266 : Cond.code yX3_init cX3_init 1 none ∈ fp_T := fp_T_of 266 (by decide +kernel) rfl
theorem twc_10 : Cond.initialized "FreePlace$Draws" ∈ fp_T := fp_T_of 10 (by decide +kernel) rfl
theorem twc_233 : Cond.methodLink "FreePlace$Sights" 3 Lib.objectInit ∈ fp_T := fp_T_of 233 (by decide +kernel) rfl
theorem twc_232 : Cond.code yX8_init cX8_init 1 none ∈ fp_T := fp_T_of 232 (by decide +kernel) rfl
theorem twc_8 : Cond.initialized "FreePlace$Sights" ∈ fp_T := fp_T_of 8 (by decide +kernel) rfl
theorem twc_250 : Cond.methodLink "FreePlace$Book" 3 Lib.objectInit ∈ fp_T := fp_T_of 250 (by decide +kernel) rfl
theorem twc_253 : Cond.fieldLink "FreePlace$Book" 9 "FreePlace$Book" "tables" "[I" ∈ fp_T := fp_T_of 253 (by decide +kernel) rfl
theorem twc_254 : Cond.fieldLink "FreePlace$Book" 15 "FreePlace$Book" "sits" "[I" ∈ fp_T := fp_T_of 254 (by decide +kernel) rfl
theorem twc_249 : Cond.code yX1_init cX1_init 1 none ∈ fp_T := fp_T_of 249 (by decide +kernel) rfl
theorem twc_9 : Cond.initialized "FreePlace$Book" ∈ fp_T := fp_T_of 9 (by decide +kernel) rfl
theorem twc_196 : Cond.methodLink "FreePlace$Acts" 3 Lib.objectInit ∈ fp_T := fp_T_of 196 (by decide +kernel) rfl
theorem twc_197 : Cond.classLink "FreePlace$Acts" 9 "FreePlace$Chains" ∈ fp_T := fp_T_of 197 (by decide +kernel) rfl
theorem twc_169 : Cond.instantiable "FreePlace$Chains" 5 ∈ fp_T := fp_T_of 169 (by decide +kernel) rfl
theorem twc_171 : Cond.instanceMethod yX2_init ∈ fp_T := fp_T_of 171 (by decide +kernel) rfl
theorem twc_199 : Cond.fieldLink "FreePlace$Acts" 12 "FreePlace$Acts" "chains" "LFreePlace$Chains;" ∈ fp_T := fp_T_of 199 (by decide +kernel) rfl
theorem twc_195 : Cond.code yX0_init cX0_init 1 none ∈ fp_T := fp_T_of 195 (by decide +kernel) rfl
theorem twc_6 : Cond.initialized "FreePlace$Acts" ∈ fp_T := fp_T_of 6 (by decide +kernel) rfl
theorem twc_29 : Cond.methodLink "FreePlace$Reader" 3 Lib.objectInit ∈ fp_T := fp_T_of 29 (by decide +kernel) rfl
theorem twc_30 : Cond.classLink "FreePlace$Reader" 9 "FreePlace$Realm" ∈ fp_T := fp_T_of 30 (by decide +kernel) rfl
theorem twc_31 : Cond.instantiable "FreePlace$Realm" 9 ∈ fp_T := fp_T_of 31 (by decide +kernel) rfl
theorem twc_33 : Cond.instanceMethod yX7_init ∈ fp_T := fp_T_of 33 (by decide +kernel) rfl
theorem twc_86 : Cond.fieldLink "FreePlace$Reader" 12 "FreePlace$Reader" "draft" "LFreePlace$Realm;" ∈ fp_T := fp_T_of 86 (by decide +kernel) rfl
theorem twc_88 : Cond.fieldLink "FreePlace$Reader" 18 "FreePlace$Reader" "letters" "[C" ∈ fp_T := fp_T_of 88 (by decide +kernel) rfl
theorem twc_95 : Cond.fieldLink "FreePlace$Reader" 22 "FreePlace$Reader" "place" "I" ∈ fp_T := fp_T_of 95 (by decide +kernel) rfl
theorem twc_28 : Cond.code yX6_init cX6_init 1 none ∈ fp_T := fp_T_of 28 (by decide +kernel) rfl
theorem twc_2 : Cond.initialized "FreePlace$Reader" ∈ fp_T := fp_T_of 2 (by decide +kernel) rfl
theorem twc_208 : Cond.methodLink "FreePlace$Trials" 3 Lib.objectInit ∈ fp_T := fp_T_of 208 (by decide +kernel) rfl
theorem twc_209 : Cond.classLink "FreePlace$Trials" 9 "FreePlace$Chains" ∈ fp_T := fp_T_of 209 (by decide +kernel) rfl
theorem twc_215 : Cond.fieldLink "FreePlace$Trials" 12 "FreePlace$Trials" "chains" "LFreePlace$Chains;" ∈ fp_T := fp_T_of 215 (by decide +kernel) rfl
theorem twc_211 : Cond.classLink "FreePlace$Trials" 18 "FreePlace$Acts" ∈ fp_T := fp_T_of 211 (by decide +kernel) rfl
theorem twc_192 : Cond.instantiable "FreePlace$Acts" 1 ∈ fp_T := fp_T_of 192 (by decide +kernel) rfl
theorem twc_194 : Cond.instanceMethod yX0_init ∈ fp_T := fp_T_of 194 (by decide +kernel) rfl
theorem twc_216 : Cond.fieldLink "FreePlace$Trials" 21 "FreePlace$Trials" "acts" "LFreePlace$Acts;" ∈ fp_T := fp_T_of 216 (by decide +kernel) rfl
theorem twc_213 : Cond.classLink "FreePlace$Trials" 25 "FreePlace$State" ∈ fp_T := fp_T_of 213 (by decide +kernel) rfl
theorem twc_116 : Cond.instantiable "FreePlace$State" 9 ∈ fp_T := fp_T_of 116 (by decide +kernel) rfl
theorem twc_118 : Cond.instanceMethod yX9_init ∈ fp_T := fp_T_of 118 (by decide +kernel) rfl
theorem twc_217 : Cond.fieldLink "FreePlace$Trials" 28 "FreePlace$Trials" "tried" "LFreePlace$State;" ∈ fp_T := fp_T_of 217 (by decide +kernel) rfl
theorem twc_218 : Cond.fieldLink "FreePlace$Trials" 32 "FreePlace$Trials" "near" "[I" ∈ fp_T := fp_T_of 218 (by decide +kernel) rfl
theorem twc_207 : Cond.code yX10_init cX10_init 1 none ∈ fp_T := fp_T_of 207 (by decide +kernel) rfl
theorem twc_7 : Cond.initialized "FreePlace$Trials" ∈ fp_T := fp_T_of 7 (by decide +kernel) rfl
theorem twc_804 : Cond.methodLink "FreePlaceModel" 1 Lib.objectInit ∈ fp_T := fp_T_of 804 (by decide +kernel) rfl
theorem twc_808 : Cond.fieldLink "FreePlaceModel" 7 "FreePlaceModel" "wayOne" "[I" ∈ fp_T := fp_T_of 808 (by decide +kernel) rfl
theorem twc_809 : Cond.fieldLink "FreePlaceModel" 13 "FreePlaceModel" "wayOther" "[I" ∈ fp_T := fp_T_of 809 (by decide +kernel) rfl
theorem twc_810 : Cond.fieldLink "FreePlaceModel" 16 "FreePlaceModel" "now" "[I" ∈ fp_T := fp_T_of 810 (by decide +kernel) rfl
theorem twc_813 : Cond.fieldLink "FreePlaceModel" 19 "FreePlaceModel" "text" "[I" ∈ fp_T := fp_T_of 813 (by decide +kernel) rfl
theorem twc_815 : Cond.fieldLink "FreePlaceModel" 22 "FreePlaceModel" "faultPlace" "I" ∈ fp_T := fp_T_of 815 (by decide +kernel) rfl
theorem twc_820 : Cond.fieldLink "FreePlaceModel" 26 "FreePlaceModel" "readLaw" "[I" ∈ fp_T := fp_T_of 820 (by decide +kernel) rfl
theorem twc_822 : Cond.fieldLink "FreePlaceModel" 29 "FreePlaceModel" "readSeats" "[I" ∈ fp_T := fp_T_of 822 (by decide +kernel) rfl
theorem twc_823 : Cond.fieldLink "FreePlaceModel" 32 "FreePlaceModel" "readSit" "[I" ∈ fp_T := fp_T_of 823 (by decide +kernel) rfl
theorem twc_825 : Cond.fieldLink "FreePlaceModel" 35 "FreePlaceModel" "readOne" "[I" ∈ fp_T := fp_T_of 825 (by decide +kernel) rfl
theorem twc_826 : Cond.fieldLink "FreePlaceModel" 38 "FreePlaceModel" "readOther" "[I" ∈ fp_T := fp_T_of 826 (by decide +kernel) rfl
theorem twc_827 : Cond.fieldLink "FreePlaceModel" 41 "FreePlaceModel" "away" "[I" ∈ fp_T := fp_T_of 827 (by decide +kernel) rfl
theorem twc_829 : Cond.fieldLink "FreePlaceModel" 44 "FreePlaceModel" "past" "[I" ∈ fp_T := fp_T_of 829 (by decide +kernel) rfl
theorem twc_830 : Cond.fieldLink "FreePlaceModel" 47 "FreePlaceModel" "was" "[I" ∈ fp_T := fp_T_of 830 (by decide +kernel) rfl
theorem twc_831 : Cond.fieldLink "FreePlaceModel" 50 "FreePlaceModel" "built" "[I" ∈ fp_T := fp_T_of 831 (by decide +kernel) rfl
theorem twc_833 : Cond.fieldLink "FreePlaceModel" 53 "FreePlaceModel" "seenAt" "[I" ∈ fp_T := fp_T_of 833 (by decide +kernel) rfl
theorem twc_834 : Cond.fieldLink "FreePlaceModel" 56 "FreePlaceModel" "seenMoved" "[Z" ∈ fp_T := fp_T_of 834 (by decide +kernel) rfl
theorem twc_836 : Cond.fieldLink "FreePlaceModel" 60 "FreePlaceModel" "bookAt" "[I" ∈ fp_T := fp_T_of 836 (by decide +kernel) rfl
theorem twc_837 : Cond.fieldLink "FreePlaceModel" 63 "FreePlaceModel" "bookSit" "[I" ∈ fp_T := fp_T_of 837 (by decide +kernel) rfl
theorem twc_838 : Cond.fieldLink "FreePlaceModel" 66 "FreePlaceModel" "images" "[I" ∈ fp_T := fp_T_of 838 (by decide +kernel) rfl
theorem twc_839 : Cond.fieldLink "FreePlaceModel" 69 "FreePlaceModel" "isKept" "[Z" ∈ fp_T := fp_T_of 839 (by decide +kernel) rfl
theorem twc_812 : Cond.fieldLink "FreePlaceModel" 72 "FreePlaceModel" "isRealm" "Z" ∈ fp_T := fp_T_of 812 (by decide +kernel) rfl
theorem twc_803 : Cond.code yX12_init cX12_init 1 none ∈ fp_T := fp_T_of 803 (by decide +kernel) rfl
theorem twc_13 : Cond.initialized "FreePlaceModel" ∈ fp_T := fp_T_of 13 (by decide +kernel) rfl
abbrev rm_X7_init : Room := { frames := 1, cells := 4, slots := 46, locals := 16 }
theorem cv_X7_init : fp_CV yX7_init cX7_init 1 none 0 := ⟨twc_34, twc_3, by decide, by decide +kernel⟩
set_option maxHeartbeats 4000000 in
theorem c_X7_init (l : Launch) (D : va_G) (G : Nat → ClassId) (B : Nat) (V : Nat → va_E) {k : Nat} (hk : fp_is7 k) (hV : V k = .inr (7, [.int 0, .int 0, .int 0, .int 0, .int 0, .null, .null, .null, .null])) : Met l yX7_init (Cond.code yX7_init cX7_init 1 none :: fp_T) rm_X7_init (va_Pc [.ref (B + k)] (fp_GV D G B (k + 1) V)) (fp_Qc D G B (k + 5) (fp_mix G B V k)) 4 46 (fp_A B) := by
  refine fp_metv (own := RX7) (by decide) rfl (Nat.le_of_ble_eq_true rfl) rfl (fun {p e s m args below meth c ls} E hG hN hin hl => ?_)
  have hx := E.1
  have hb := E.2.1
  have hown := E.2.2.2.1
  have hl : lv_has ls 1 [(0, .ref (B + k))] := hl
  replace hG := fp_HV_congr (fp_nf_start (G := G) (B := B) hV) hG
  refine lv_aload_n hx hb dX7_init_0 rfl (lv_at hl 0 rfl) ?_
  refine W.objInit hx hb hown (fp_tabs E twc_35) (fp_tabs E twc_22) (fp_tabs E tw_oc) rfl (by rw [E.2.2.1]; exact hl.1) rfl dX7_init_1 (Nat.le_of_ble_eq_true rfl) (Nat.le_of_ble_eq_true rfl) ?_
  refine W.eq (g2 := F0 m 4 ls []) rfl ?_
  refine lv_aload_n hx hb dX7_init_4 rfl (lv_at hl 0 rfl) ?_
  refine lv_bipush (v := (nI 9)) hx hb dX7_init_5 (by decide) ?_
  refine fp_newa_i (N' := 9) E hG (by decide) tw_ar_int (Nat.le_of_ble_eq_true rfl) (Nat.le_of_ble_eq_true rfl) dX7_init_7 (fun H hG => ?_)
  replace hG := fp_HV_congr (fp_nf_push (by omega) (by rw [fp_a20 hk.2.1, fp_M0_arr hk.2.1 (by decide)])) hG
  refine fp_putFv (v := .ref (B + (k + 1))) (ty := (.array .int)) E hG fp_u7 tyX7 tyX7_ok nmX7 (by omega) fp_nf_at rfl 5 (by decide) twc_56 rfl hin rfl (by decide +kernel) rfl rfl (Nat.le_of_ble_eq_true rfl) dX7_init_9 (fun H locs hG => ?_)
  replace hG := fp_HV_congr (V' := (fp_nf G B V k (.inr (7, [.int 0, .int 0, .int 0, .int 0, .int 0, .ref (B + (k + 1)), .null, .null, .null])))) (fp_nf_put (n := _)) hG
  refine lv_aload_n hx hb dX7_init_12 rfl (lv_at hl 0 rfl) ?_
  refine lv_bipush (v := (nI 9)) hx hb dX7_init_13 (by decide) ?_
  refine fp_newa_i (N' := 9) E hG (by decide) tw_ar_int (Nat.le_of_ble_eq_true rfl) (Nat.le_of_ble_eq_true rfl) dX7_init_15 (fun H hG => ?_)
  replace hG := fp_HV_congr (fp_nf_push (by omega) (by rw [fp_a20 hk.2.2.1, fp_M0_arr hk.2.2.1 (by decide)])) hG
  refine fp_putFv (v := .ref (B + (k + 2))) (ty := (.array .int)) E hG fp_u7 tyX7 tyX7_ok nmX7 (by omega) fp_nf_at rfl 6 (by decide) twc_58 rfl hin rfl (by decide +kernel) rfl rfl (Nat.le_of_ble_eq_true rfl) dX7_init_17 (fun H locs hG => ?_)
  replace hG := fp_HV_congr (V' := (fp_nf G B V k (.inr (7, [.int 0, .int 0, .int 0, .int 0, .int 0, .ref (B + (k + 1)), .ref (B + (k + 2)), .null, .null])))) (fp_nf_put (n := _)) hG
  refine lv_aload_n hx hb dX7_init_20 rfl (lv_at hl 0 rfl) ?_
  refine lv_bipush (v := (nI 14)) hx hb dX7_init_21 (by decide) ?_
  refine fp_newa_i (N' := 14) E hG (by decide) tw_ar_int (Nat.le_of_ble_eq_true rfl) (Nat.le_of_ble_eq_true rfl) dX7_init_23 (fun H hG => ?_)
  replace hG := fp_HV_congr (fp_nf_push (by omega) (by rw [fp_a21 hk.2.2.2.1, fp_M0_arr hk.2.2.2.1 (by decide)])) hG
  refine fp_putFv (v := .ref (B + (k + 3))) (ty := (.array .int)) E hG fp_u7 tyX7 tyX7_ok nmX7 (by omega) fp_nf_at rfl 7 (by decide) twc_60 rfl hin rfl (by decide +kernel) rfl rfl (Nat.le_of_ble_eq_true rfl) dX7_init_25 (fun H locs hG => ?_)
  replace hG := fp_HV_congr (V' := (fp_nf G B V k (.inr (7, [.int 0, .int 0, .int 0, .int 0, .int 0, .ref (B + (k + 1)), .ref (B + (k + 2)), .ref (B + (k + 3)), .null])))) (fp_nf_put (n := _)) hG
  refine lv_aload_n hx hb dX7_init_28 rfl (lv_at hl 0 rfl) ?_
  refine lv_bipush (v := (nI 14)) hx hb dX7_init_29 (by decide) ?_
  refine fp_newa_i (N' := 14) E hG (by decide) tw_ar_int (Nat.le_of_ble_eq_true rfl) (Nat.le_of_ble_eq_true rfl) dX7_init_31 (fun H hG => ?_)
  replace hG := fp_HV_congr (fp_nf_push (by omega) (by rw [fp_a21 hk.2.2.2.2, fp_M0_arr hk.2.2.2.2 (by decide)])) hG
  refine fp_putFv (v := .ref (B + (k + 4))) (ty := (.array .int)) E hG fp_u7 tyX7 tyX7_ok nmX7 (by omega) fp_nf_at rfl 8 (by decide) twc_63 rfl hin rfl (by decide +kernel) rfl rfl (Nat.le_of_ble_eq_true rfl) dX7_init_33 (fun H locs hG => ?_)
  replace hG := fp_HV_congr (V' := (fp_nf G B V k (.inr (7, [.int 0, .int 0, .int 0, .int 0, .int 0, .ref (B + (k + 1)), .ref (B + (k + 2)), .ref (B + (k + 3)), .ref (B + (k + 4))])))) (fp_nf_put (n := _)) hG
  exact fp_retc E hN hG (fp_nf_end (by rw [fp_o7 hk.1, fp_M0_obj hk.1 (by decide) (by decide)])) dX7_init_36
abbrev rm_X9_init : Room := { frames := 1, cells := 2, slots := 18, locals := 16 }
theorem cv_X9_init : fp_CV yX9_init cX9_init 1 none 0 := ⟨twc_119, twc_4, by decide, by decide +kernel⟩
set_option maxHeartbeats 4000000 in
theorem c_X9_init (l : Launch) (D : va_G) (G : Nat → ClassId) (B : Nat) (V : Nat → va_E) {k : Nat} (hk : fp_is9 k) (hV : V k = .inr (9, [.null, .null, .int 0, .int 0, .int 0, .int 0, .int 0, .int 0, .int 0])) : Met l yX9_init (Cond.code yX9_init cX9_init 1 none :: fp_T) rm_X9_init (va_Pc [.ref (B + k)] (fp_GV D G B (k + 1) V)) (fp_Qc D G B (k + 3) (fp_mix G B V k)) 2 18 (fp_A B) := by
  refine fp_metv (own := RX9) (by decide) rfl (Nat.le_of_ble_eq_true rfl) rfl (fun {p e s m args below meth c ls} E hG hN hin hl => ?_)
  have hx := E.1
  have hb := E.2.1
  have hown := E.2.2.2.1
  have hl : lv_has ls 1 [(0, .ref (B + k))] := hl
  replace hG := fp_HV_congr (fp_nf_start (G := G) (B := B) hV) hG
  refine lv_aload_n hx hb dX9_init_0 rfl (lv_at hl 0 rfl) ?_
  refine W.objInit hx hb hown (fp_tabs E twc_120) (fp_tabs E twc_22) (fp_tabs E tw_oc) rfl (by rw [E.2.2.1]; exact hl.1) rfl dX9_init_1 (Nat.le_of_ble_eq_true rfl) (Nat.le_of_ble_eq_true rfl) ?_
  refine W.eq (g2 := F0 m 4 ls []) rfl ?_
  refine lv_aload_n hx hb dX9_init_4 rfl (lv_at hl 0 rfl) ?_
  refine lv_bipush (v := (nI 9)) hx hb dX9_init_5 (by decide) ?_
  refine fp_newa_i (N' := 9) E hG (by decide) tw_ar_int (Nat.le_of_ble_eq_true rfl) (Nat.le_of_ble_eq_true rfl) dX9_init_7 (fun H hG => ?_)
  replace hG := fp_HV_congr (fp_nf_push (by omega) (by rw [fp_a20 hk.2.1, fp_M0_arr hk.2.1 (by decide)])) hG
  refine fp_putFv (v := .ref (B + (k + 1))) (ty := (.array .int)) E hG fp_u9 tyX9 tyX9_ok nmX9 (by omega) fp_nf_at rfl 0 (by decide) twc_121 rfl hin rfl (by decide +kernel) rfl rfl (Nat.le_of_ble_eq_true rfl) dX9_init_9 (fun H locs hG => ?_)
  replace hG := fp_HV_congr (V' := (fp_nf G B V k (.inr (9, [.ref (B + (k + 1)), .null, .int 0, .int 0, .int 0, .int 0, .int 0, .int 0, .int 0])))) (fp_nf_put (n := _)) hG
  refine lv_aload_n hx hb dX9_init_12 rfl (lv_at hl 0 rfl) ?_
  refine lv_bipush (v := (nI 9)) hx hb dX9_init_13 (by decide) ?_
  refine fp_newa_i (N' := 9) E hG (by decide) tw_ar_int (Nat.le_of_ble_eq_true rfl) (Nat.le_of_ble_eq_true rfl) dX9_init_15 (fun H hG => ?_)
  replace hG := fp_HV_congr (fp_nf_push (by omega) (by rw [fp_a20 hk.2.2, fp_M0_arr hk.2.2 (by decide)])) hG
  refine fp_putFv (v := .ref (B + (k + 2))) (ty := (.array .int)) E hG fp_u9 tyX9 tyX9_ok nmX9 (by omega) fp_nf_at rfl 1 (by decide) twc_124 rfl hin rfl (by decide +kernel) rfl rfl (Nat.le_of_ble_eq_true rfl) dX9_init_17 (fun H locs hG => ?_)
  replace hG := fp_HV_congr (V' := (fp_nf G B V k (.inr (9, [.ref (B + (k + 1)), .ref (B + (k + 2)), .int 0, .int 0, .int 0, .int 0, .int 0, .int 0, .int 0])))) (fp_nf_put (n := _)) hG
  exact fp_retc E hN hG (fp_nf_end (by rw [fp_o9 hk.1, fp_M0_obj hk.1 (by decide) (by decide)])) dX9_init_20
abbrev rm_X2_init : Room := { frames := 1, cells := 4, slots := 36, locals := 16 }
theorem cv_X2_init : fp_CV yX2_init cX2_init 1 none 0 := ⟨twc_172, twc_5, by decide, by decide +kernel⟩
set_option maxHeartbeats 4000000 in
theorem c_X2_init (l : Launch) (D : va_G) (G : Nat → ClassId) (B : Nat) (V : Nat → va_E) {k : Nat} (hk : fp_is2 k) (hV : V k = .inr (2, [.int 0, .null, .null, .null, .null])) : Met l yX2_init (Cond.code yX2_init cX2_init 1 none :: fp_T) rm_X2_init (va_Pc [.ref (B + k)] (fp_GV D G B (k + 1) V)) (fp_Qc D G B (k + 5) (fp_mix G B V k)) 4 36 (fp_A B) := by
  refine fp_metv (own := RX2) (by decide) rfl (Nat.le_of_ble_eq_true rfl) rfl (fun {p e s m args below meth c ls} E hG hN hin hl => ?_)
  have hx := E.1
  have hb := E.2.1
  have hown := E.2.2.2.1
  have hl : lv_has ls 1 [(0, .ref (B + k))] := hl
  replace hG := fp_HV_congr (fp_nf_start (G := G) (B := B) hV) hG
  refine lv_aload_n hx hb dX2_init_0 rfl (lv_at hl 0 rfl) ?_
  refine W.objInit hx hb hown (fp_tabs E twc_173) (fp_tabs E twc_22) (fp_tabs E tw_oc) rfl (by rw [E.2.2.1]; exact hl.1) rfl dX2_init_1 (Nat.le_of_ble_eq_true rfl) (Nat.le_of_ble_eq_true rfl) ?_
  refine W.eq (g2 := F0 m 4 ls []) rfl ?_
  refine lv_aload_n hx hb dX2_init_4 rfl (lv_at hl 0 rfl) ?_
  refine lv_bipush (v := (nI 9)) hx hb dX2_init_5 (by decide) ?_
  refine fp_newa_i (N' := 9) E hG (by decide) tw_ar_int (Nat.le_of_ble_eq_true rfl) (Nat.le_of_ble_eq_true rfl) dX2_init_7 (fun H hG => ?_)
  replace hG := fp_HV_congr (fp_nf_push (by omega) (by rw [fp_a20 hk.2.1, fp_M0_arr hk.2.1 (by decide)])) hG
  refine fp_putFv (v := .ref (B + (k + 1))) (ty := (.array .int)) E hG fp_u2 tyX2 tyX2_ok nmX2 (by omega) fp_nf_at rfl 1 (by decide) twc_176 rfl hin rfl (by decide +kernel) rfl rfl (Nat.le_of_ble_eq_true rfl) dX2_init_9 (fun H locs hG => ?_)
  replace hG := fp_HV_congr (V' := (fp_nf G B V k (.inr (2, [.int 0, .ref (B + (k + 1)), .null, .null, .null])))) (fp_nf_put (n := _)) hG
  refine lv_aload_n hx hb dX2_init_12 rfl (lv_at hl 0 rfl) ?_
  refine lv_bipush (v := (nI 9)) hx hb dX2_init_13 (by decide) ?_
  refine fp_newa_i (N' := 9) E hG (by decide) tw_ar_int (Nat.le_of_ble_eq_true rfl) (Nat.le_of_ble_eq_true rfl) dX2_init_15 (fun H hG => ?_)
  replace hG := fp_HV_congr (fp_nf_push (by omega) (by rw [fp_a20 hk.2.2.1, fp_M0_arr hk.2.2.1 (by decide)])) hG
  refine fp_putFv (v := .ref (B + (k + 2))) (ty := (.array .int)) E hG fp_u2 tyX2 tyX2_ok nmX2 (by omega) fp_nf_at rfl 2 (by decide) twc_177 rfl hin rfl (by decide +kernel) rfl rfl (Nat.le_of_ble_eq_true rfl) dX2_init_17 (fun H locs hG => ?_)
  replace hG := fp_HV_congr (V' := (fp_nf G B V k (.inr (2, [.int 0, .ref (B + (k + 1)), .ref (B + (k + 2)), .null, .null])))) (fp_nf_put (n := _)) hG
  refine lv_aload_n hx hb dX2_init_20 rfl (lv_at hl 0 rfl) ?_
  refine lv_bipush (v := (nI 9)) hx hb dX2_init_21 (by decide) ?_
  refine fp_newa_i (N' := 9) E hG (by decide) tw_ar_int (Nat.le_of_ble_eq_true rfl) (Nat.le_of_ble_eq_true rfl) dX2_init_23 (fun H hG => ?_)
  replace hG := fp_HV_congr (fp_nf_push (by omega) (by rw [fp_a20 hk.2.2.2.1, fp_M0_arr hk.2.2.2.1 (by decide)])) hG
  refine fp_putFv (v := .ref (B + (k + 3))) (ty := (.array .int)) E hG fp_u2 tyX2 tyX2_ok nmX2 (by omega) fp_nf_at rfl 3 (by decide) twc_178 rfl hin rfl (by decide +kernel) rfl rfl (Nat.le_of_ble_eq_true rfl) dX2_init_25 (fun H locs hG => ?_)
  replace hG := fp_HV_congr (V' := (fp_nf G B V k (.inr (2, [.int 0, .ref (B + (k + 1)), .ref (B + (k + 2)), .ref (B + (k + 3)), .null])))) (fp_nf_put (n := _)) hG
  refine lv_aload_n hx hb dX2_init_28 rfl (lv_at hl 0 rfl) ?_
  refine lv_bipush (v := (nI 9)) hx hb dX2_init_29 (by decide) ?_
  refine fp_newa_i (N' := 9) E hG (by decide) tw_ar_int (Nat.le_of_ble_eq_true rfl) (Nat.le_of_ble_eq_true rfl) dX2_init_31 (fun H hG => ?_)
  replace hG := fp_HV_congr (fp_nf_push (by omega) (by rw [fp_a20 hk.2.2.2.2, fp_M0_arr hk.2.2.2.2 (by decide)])) hG
  refine fp_putFv (v := .ref (B + (k + 4))) (ty := (.array .int)) E hG fp_u2 tyX2 tyX2_ok nmX2 (by omega) fp_nf_at rfl 4 (by decide) twc_179 rfl hin rfl (by decide +kernel) rfl rfl (Nat.le_of_ble_eq_true rfl) dX2_init_33 (fun H locs hG => ?_)
  replace hG := fp_HV_congr (V' := (fp_nf G B V k (.inr (2, [.int 0, .ref (B + (k + 1)), .ref (B + (k + 2)), .ref (B + (k + 3)), .ref (B + (k + 4))])))) (fp_nf_put (n := _)) hG
  exact fp_retc E hN hG (fp_nf_end (by rw [fp_o2 hk.1, fp_M0_obj hk.1 (by decide) (by decide)])) dX2_init_36
abbrev rm_X3_init : Room := { frames := 1, cells := 0, slots := 0, locals := 16 }
theorem cv_X3_init : fp_CV yX3_init cX3_init 1 none 0 := ⟨twc_266, twc_10, by decide, by decide +kernel⟩
set_option maxHeartbeats 4000000 in
theorem c_X3_init (l : Launch) (D : va_G) (G : Nat → ClassId) (B : Nat) (V : Nat → va_E) (hV : V 47 = .inr (3, [.int 0])) : Met l yX3_init (Cond.code yX3_init cX3_init 1 none :: fp_T) rm_X3_init (va_Pc [.ref (B + 47)] (fp_GV D G B (47 + 1) V)) (fp_Qc D G B 48 (fp_mix G B V 47)) 0 0 (fp_A B) := by
  refine fp_metv (own := RX3) (by decide) rfl (Nat.le_of_ble_eq_true rfl) rfl (fun {p e s m args below meth c ls} E hG hN hin hl => ?_)
  have hx := E.1
  have hb := E.2.1
  have hown := E.2.2.2.1
  have hl : lv_has ls 1 [(0, .ref (B + 47))] := hl
  replace hG := fp_HV_congr (fp_nf_start (G := G) (B := B) hV) hG
  refine lv_aload_n hx hb dX3_init_0 rfl (lv_at hl 0 rfl) ?_
  refine W.objInit hx hb hown (fp_tabs E twc_267) (fp_tabs E twc_22) (fp_tabs E tw_oc) rfl (by rw [E.2.2.1]; exact hl.1) rfl dX3_init_1 (Nat.le_of_ble_eq_true rfl) (Nat.le_of_ble_eq_true rfl) ?_
  refine W.eq (g2 := F0 m 4 ls []) rfl ?_
  exact fp_retc E hN hG (fp_nf_end rfl) dX3_init_4
abbrev rm_X8_init : Room := { frames := 1, cells := 0, slots := 0, locals := 16 }
theorem cv_X8_init : fp_CV yX8_init cX8_init 1 none 0 := ⟨twc_232, twc_8, by decide, by decide +kernel⟩
set_option maxHeartbeats 4000000 in
theorem c_X8_init (l : Launch) (D : va_G) (G : Nat → ClassId) (B : Nat) (V : Nat → va_E) (hV : V 43 = .inr (8, [.int 0, .int 0, .int 0])) : Met l yX8_init (Cond.code yX8_init cX8_init 1 none :: fp_T) rm_X8_init (va_Pc [.ref (B + 43)] (fp_GV D G B (43 + 1) V)) (fp_Qc D G B 44 (fp_mix G B V 43)) 0 0 (fp_A B) := by
  refine fp_metv (own := RX8) (by decide) rfl (Nat.le_of_ble_eq_true rfl) rfl (fun {p e s m args below meth c ls} E hG hN hin hl => ?_)
  have hx := E.1
  have hb := E.2.1
  have hown := E.2.2.2.1
  have hl : lv_has ls 1 [(0, .ref (B + 43))] := hl
  replace hG := fp_HV_congr (fp_nf_start (G := G) (B := B) hV) hG
  refine lv_aload_n hx hb dX8_init_0 rfl (lv_at hl 0 rfl) ?_
  refine W.objInit hx hb hown (fp_tabs E twc_233) (fp_tabs E twc_22) (fp_tabs E tw_oc) rfl (by rw [E.2.2.1]; exact hl.1) rfl dX8_init_1 (Nat.le_of_ble_eq_true rfl) (Nat.le_of_ble_eq_true rfl) ?_
  refine W.eq (g2 := F0 m 4 ls []) rfl ?_
  exact fp_retc E hN hG (fp_nf_end rfl) dX8_init_4
abbrev rm_X1_init : Room := { frames := 1, cells := 2, slots := 30, locals := 16 }
theorem cv_X1_init : fp_CV yX1_init cX1_init 1 none 0 := ⟨twc_249, twc_9, by decide, by decide +kernel⟩
set_option maxHeartbeats 4000000 in
theorem c_X1_init (l : Launch) (D : va_G) (G : Nat → ClassId) (B : Nat) (V : Nat → va_E) (hV : V 44 = .inr (1, [.int 0, .null, .null])) : Met l yX1_init (Cond.code yX1_init cX1_init 1 none :: fp_T) rm_X1_init (va_Pc [.ref (B + 44)] (fp_GV D G B (44 + 1) V)) (fp_Qc D G B 47 (fp_mix G B V 44)) 2 30 (fp_A B) := by
  refine fp_metv (own := RX1) (by decide) rfl (Nat.le_of_ble_eq_true rfl) rfl (fun {p e s m args below meth c ls} E hG hN hin hl => ?_)
  have hx := E.1
  have hb := E.2.1
  have hown := E.2.2.2.1
  have hl : lv_has ls 1 [(0, .ref (B + 44))] := hl
  replace hG := fp_HV_congr (fp_nf_start (G := G) (B := B) hV) hG
  refine lv_aload_n hx hb dX1_init_0 rfl (lv_at hl 0 rfl) ?_
  refine W.objInit hx hb hown (fp_tabs E twc_250) (fp_tabs E twc_22) (fp_tabs E tw_oc) rfl (by rw [E.2.2.1]; exact hl.1) rfl dX1_init_1 (Nat.le_of_ble_eq_true rfl) (Nat.le_of_ble_eq_true rfl) ?_
  refine W.eq (g2 := F0 m 4 ls []) rfl ?_
  refine lv_aload_n hx hb dX1_init_4 rfl (lv_at hl 0 rfl) ?_
  refine lv_bipush (v := (nI 15)) hx hb dX1_init_5 (by decide) ?_
  refine fp_newa_i (N' := 15) E hG (by decide) tw_ar_int (Nat.le_of_ble_eq_true rfl) (Nat.le_of_ble_eq_true rfl) dX1_init_7 (fun H hG => ?_)
  replace hG := fp_HV_congr (fp_nf_push (by omega) (by rw [fp_a23 fp_cc45, fp_M0_arr fp_cc45 (by decide)])) hG
  refine fp_putFv (v := .ref (B + 45)) (ty := (.array .int)) E hG fp_u1 tyX1 tyX1_ok nmX1 (by omega) fp_nf_at rfl 1 (by decide) twc_253 rfl hin rfl (by decide +kernel) rfl rfl (Nat.le_of_ble_eq_true rfl) dX1_init_9 (fun H locs hG => ?_)
  replace hG := fp_HV_congr (V' := (fp_nf G B V 44 (.inr (1, [.int 0, .ref (B + 45), .null])))) (fp_nf_put (n := _)) hG
  refine lv_aload_n hx hb dX1_init_12 rfl (lv_at hl 0 rfl) ?_
  refine lv_bipush (v := (nI 15)) hx hb dX1_init_13 (by decide) ?_
  refine fp_newa_i (N' := 15) E hG (by decide) tw_ar_int (Nat.le_of_ble_eq_true rfl) (Nat.le_of_ble_eq_true rfl) dX1_init_15 (fun H hG => ?_)
  replace hG := fp_HV_congr (fp_nf_push (by omega) (by rw [fp_a23 fp_cc46, fp_M0_arr fp_cc46 (by decide)])) hG
  refine fp_putFv (v := .ref (B + 46)) (ty := (.array .int)) E hG fp_u1 tyX1 tyX1_ok nmX1 (by omega) fp_nf_at rfl 2 (by decide) twc_254 rfl hin rfl (by decide +kernel) rfl rfl (Nat.le_of_ble_eq_true rfl) dX1_init_17 (fun H locs hG => ?_)
  replace hG := fp_HV_congr (V' := (fp_nf G B V 44 (.inr (1, [.int 0, .ref (B + 45), .ref (B + 46)])))) (fp_nf_put (n := _)) hG
  exact fp_retc E hN hG (fp_nf_end rfl) dX1_init_20
abbrev rm_X0_init : Room := { frames := 2, cells := 5, slots := 41, locals := 36 }
theorem cv_X0_init : fp_CV yX0_init cX0_init 1 none 0 := ⟨twc_195, twc_6, by decide, by decide +kernel⟩
set_option maxHeartbeats 4000000 in
theorem c_X0_init (l : Launch) (D : va_G) (G : Nat → ClassId) (B : Nat) (V : Nat → va_E) {k : Nat} (hk : fp_is0 k) (hV : V k = .inr (0, [.null])) : Met l yX0_init (Cond.code yX0_init cX0_init 1 none :: fp_T) rm_X0_init (va_Pc [.ref (B + k)] (fp_GV D G B (k + 1) V)) (fp_Qc D G B (k + 6) (fp_mix G B V k)) 5 41 (fp_A B) := by
  refine fp_metv (own := RX0) (by decide) rfl (Nat.le_of_ble_eq_true rfl) rfl (fun {p e s m args below meth c ls} E hG hN hin hl => ?_)
  have hx := E.1
  have hb := E.2.1
  have hown := E.2.2.2.1
  have hl : lv_has ls 1 [(0, .ref (B + k))] := hl
  replace hG := fp_HV_congr (fp_nf_start (G := G) (B := B) hV) hG
  refine lv_aload_n hx hb dX0_init_0 rfl (lv_at hl 0 rfl) ?_
  refine W.objInit hx hb hown (fp_tabs E twc_196) (fp_tabs E twc_22) (fp_tabs E tw_oc) rfl (by rw [E.2.2.1]; exact hl.1) rfl dX0_init_1 (Nat.le_of_ble_eq_true rfl) (Nat.le_of_ble_eq_true rfl) ?_
  refine W.eq (g2 := F0 m 4 ls []) rfl ?_
  refine lv_aload_n hx hb dX0_init_4 rfl (lv_at hl 0 rfl) ?_
  refine fp_new (ci := 2) (N := 5) (C := RX2) (T := TX2) (fs := [.int 0, .null, .null, .null, .null]) E hG fp_u2 tyX2 tyX2_ok twc_197 twc_169 twc_5 rfl (fun j hj => by rcases (show j = 0 ∨ j = 1 ∨ j = 2 ∨ j = 3 ∨ j = 4 by omega) with rfl | rfl | rfl | rfl | rfl <;> rfl) (Nat.le_of_ble_eq_true rfl) (Nat.le_of_ble_eq_true rfl) dX0_init_5 (fun H hG => ?_)
  refine lv_dup hx hb dX0_init_8 rfl ?_
  refine fp_callIN (host := "FreePlace") (k := (k + 1)) (n1 := (k + 6)) E hG (c_X2_init l D G B _ (fp_is0_2 hk) (by simp [va_up])) hN cv_X2_init (by decide +kernel) twc_171 rfl ⟨rfl, rfl⟩ ⟨Nat.le_of_ble_eq_true rfl, Nat.le_of_ble_eq_true rfl⟩ (Nat.le_of_ble_eq_true rfl) hl.1 dX0_init_9 ⟨Nat.le_of_ble_eq_true rfl, Nat.le_of_ble_eq_true rfl⟩ (fun H locs hG => ?_)
  replace hG := fp_HV_congr (fp_nf_call (by omega)) hG
  refine fp_putFv (v := .ref (B + (k + 1))) (ty := (.object "FreePlace$Chains")) E hG fp_u0 tyX0 tyX0_ok nmX0 (by omega) fp_nf_at rfl 0 (by decide) twc_199 rfl hin rfl (by decide +kernel) rfl rfl (Nat.le_of_ble_eq_true rfl) dX0_init_12 (fun H locs hG => ?_)
  replace hG := fp_HV_congr (V' := (fp_nf G B V k (.inr (0, [.ref (B + (k + 1))])))) (fp_nf_put (n := _)) hG
  exact fp_retc E hN hG (fp_nf_end (by rw [fp_o0 hk.1])) dX0_init_15
abbrev rm_X6_init : Room := { frames := 2, cells := 6, slots := 295, locals := 36 }
theorem cv_X6_init : fp_CV yX6_init cX6_init 1 none 0 := ⟨twc_28, twc_2, by decide, by decide +kernel⟩
set_option maxHeartbeats 4000000 in
theorem c_X6_init (l : Launch) (D : va_G) (G : Nat → ClassId) (B : Nat) (V : Nat → va_E) (hV : V 1 = .inr (6, [.null, .null, .int 0, .int 0, .int 0, .int 0, .int 0])) : Met l yX6_init (Cond.code yX6_init cX6_init 1 none :: fp_T) rm_X6_init (va_Pc [.ref (B + 1)] (fp_GV D G B (1 + 1) V)) (fp_Qc D G B 8 (fp_mix G B V 1)) 6 295 (fp_A B) := by
  refine fp_metv (own := RX6) (by decide) rfl (Nat.le_of_ble_eq_true rfl) rfl (fun {p e s m args below meth c ls} E hG hN hin hl => ?_)
  have hx := E.1
  have hb := E.2.1
  have hown := E.2.2.2.1
  have hl : lv_has ls 1 [(0, .ref (B + 1))] := hl
  replace hG := fp_HV_congr (fp_nf_start (G := G) (B := B) hV) hG
  refine lv_aload_n hx hb dX6_init_0 rfl (lv_at hl 0 rfl) ?_
  refine W.objInit hx hb hown (fp_tabs E twc_29) (fp_tabs E twc_22) (fp_tabs E tw_oc) rfl (by rw [E.2.2.1]; exact hl.1) rfl dX6_init_1 (Nat.le_of_ble_eq_true rfl) (Nat.le_of_ble_eq_true rfl) ?_
  refine W.eq (g2 := F0 m 4 ls []) rfl ?_
  refine lv_aload_n hx hb dX6_init_4 rfl (lv_at hl 0 rfl) ?_
  refine fp_new (ci := 7) (N := 9) (C := RX7) (T := TX7) (fs := [.int 0, .int 0, .int 0, .int 0, .int 0, .null, .null, .null, .null]) E hG fp_u7 tyX7 tyX7_ok twc_30 twc_31 twc_3 rfl (fun j hj => by rcases (show j = 0 ∨ j = 1 ∨ j = 2 ∨ j = 3 ∨ j = 4 ∨ j = 5 ∨ j = 6 ∨ j = 7 ∨ j = 8 by omega) with rfl | rfl | rfl | rfl | rfl | rfl | rfl | rfl | rfl <;> rfl) (Nat.le_of_ble_eq_true rfl) (Nat.le_of_ble_eq_true rfl) dX6_init_5 (fun H hG => ?_)
  refine lv_dup hx hb dX6_init_8 rfl ?_
  refine fp_callIN (host := "FreePlace") (k := 2) (n1 := 7) E hG (c_X7_init l D G B _ fp_is7_2 (by simp [va_up])) hN cv_X7_init (by decide +kernel) twc_33 rfl ⟨rfl, rfl⟩ ⟨Nat.le_of_ble_eq_true rfl, Nat.le_of_ble_eq_true rfl⟩ (Nat.le_of_ble_eq_true rfl) hl.1 dX6_init_9 ⟨Nat.le_of_ble_eq_true rfl, Nat.le_of_ble_eq_true rfl⟩ (fun H locs hG => ?_)
  replace hG := fp_HV_congr (fp_nf_call (by omega)) hG
  refine fp_putFv (v := .ref (B + 2)) (ty := (.object "FreePlace$Realm")) E hG fp_u6 tyX6 tyX6_ok nmX6 (by omega) fp_nf_at rfl 0 (by decide) twc_86 rfl hin rfl (by decide +kernel) rfl rfl (Nat.le_of_ble_eq_true rfl) dX6_init_12 (fun H locs hG => ?_)
  replace hG := fp_HV_congr (V' := (fp_nf G B V 1 (.inr (6, [.ref (B + 2), .null, .int 0, .int 0, .int 0, .int 0, .int 0])))) (fp_nf_put (n := _)) hG
  refine lv_aload_n hx hb dX6_init_15 rfl (lv_at hl 0 rfl) ?_
  refine lv_sipush (v := (nI 240)) hx hb dX6_init_16 (by decide) ?_
  refine fp_newa_c (N' := 240) E hG (by decide) tw_ar_char (Nat.le_of_ble_eq_true rfl) (Nat.le_of_ble_eq_true rfl) dX6_init_19 (fun H hG => ?_)
  replace hG := fp_HV_congr (fp_nf_push (by omega) (by rw [fp_a22 fp_cc7, fp_M0_arr fp_cc7 (by decide)])) hG
  refine fp_putFv (v := .ref (B + 7)) (ty := (.array .char)) E hG fp_u6 tyX6 tyX6_ok nmX6 (by omega) fp_nf_at rfl 1 (by decide) twc_88 rfl hin rfl (by decide +kernel) rfl rfl (Nat.le_of_ble_eq_true rfl) dX6_init_21 (fun H locs hG => ?_)
  replace hG := fp_HV_congr (V' := (fp_nf G B V 1 (.inr (6, [.ref (B + 2), .ref (B + 7), .int 0, .int 0, .int 0, .int 0, .int 0])))) (fp_nf_put (n := _)) hG
  refine lv_aload_n hx hb dX6_init_24 rfl (lv_at hl 0 rfl) ?_
  refine lv_iconst (v := (-1 : Int32)) hx hb dX6_init_25 (by decide) ?_
  refine fp_putv (v := .int (-1 : Int32)) (ty := .int) E hG fp_u6 tyX6 tyX6_ok nmX6 (by omega) fp_nf_at rfl 6 (by decide) twc_95 rfl (by decide +kernel) rfl rfl (Nat.le_of_ble_eq_true rfl) dX6_init_26 (fun H locs hG => ?_)
  replace hG := fp_HV_congr (V' := (fp_nf G B V 1 (.inr (6, [.ref (B + 2), .ref (B + 7), .int 0, .int 0, .int 0, .int 0, .int (-1 : Int32)])))) (fp_nf_put (n := _)) hG
  exact fp_retc E hN hG (fp_nf_end rfl) dX6_init_29
abbrev rm_X10_init : Room := { frames := 3, cells := 15, slots := 119, locals := 56 }
theorem cv_X10_init : fp_CV yX10_init cX10_init 1 none 0 := ⟨twc_207, twc_7, by decide, by decide +kernel⟩
set_option maxHeartbeats 4000000 in
theorem c_X10_init (l : Launch) (D : va_G) (G : Nat → ClassId) (B : Nat) (V : Nat → va_E) (hV : V 27 = .inr (10, [.null, .null, .null, .null])) : Met l yX10_init (Cond.code yX10_init cX10_init 1 none :: fp_T) rm_X10_init (va_Pc [.ref (B + 27)] (fp_GV D G B (27 + 1) V)) (fp_Qc D G B 43 (fp_mix G B V 27)) 15 119 (fp_A B) := by
  refine fp_metv (own := RX10) (by decide) rfl (Nat.le_of_ble_eq_true rfl) rfl (fun {p e s m args below meth c ls} E hG hN hin hl => ?_)
  have hx := E.1
  have hb := E.2.1
  have hown := E.2.2.2.1
  have hl : lv_has ls 1 [(0, .ref (B + 27))] := hl
  replace hG := fp_HV_congr (fp_nf_start (G := G) (B := B) hV) hG
  refine lv_aload_n hx hb dX10_init_0 rfl (lv_at hl 0 rfl) ?_
  refine W.objInit hx hb hown (fp_tabs E twc_208) (fp_tabs E twc_22) (fp_tabs E tw_oc) rfl (by rw [E.2.2.1]; exact hl.1) rfl dX10_init_1 (Nat.le_of_ble_eq_true rfl) (Nat.le_of_ble_eq_true rfl) ?_
  refine W.eq (g2 := F0 m 4 ls []) rfl ?_
  refine lv_aload_n hx hb dX10_init_4 rfl (lv_at hl 0 rfl) ?_
  refine fp_new (ci := 2) (N := 5) (C := RX2) (T := TX2) (fs := [.int 0, .null, .null, .null, .null]) E hG fp_u2 tyX2 tyX2_ok twc_209 twc_169 twc_5 rfl (fun j hj => by rcases (show j = 0 ∨ j = 1 ∨ j = 2 ∨ j = 3 ∨ j = 4 by omega) with rfl | rfl | rfl | rfl | rfl <;> rfl) (Nat.le_of_ble_eq_true rfl) (Nat.le_of_ble_eq_true rfl) dX10_init_5 (fun H hG => ?_)
  refine lv_dup hx hb dX10_init_8 rfl ?_
  refine fp_callIN (host := "FreePlace") (k := 28) (n1 := 33) E hG (c_X2_init l D G B _ fp_is2_28 (by simp [va_up])) hN cv_X2_init (by decide +kernel) twc_171 rfl ⟨rfl, rfl⟩ ⟨Nat.le_of_ble_eq_true rfl, Nat.le_of_ble_eq_true rfl⟩ (Nat.le_of_ble_eq_true rfl) hl.1 dX10_init_9 ⟨Nat.le_of_ble_eq_true rfl, Nat.le_of_ble_eq_true rfl⟩ (fun H locs hG => ?_)
  replace hG := fp_HV_congr (fp_nf_call (by omega)) hG
  refine fp_putFv (v := .ref (B + 28)) (ty := (.object "FreePlace$Chains")) E hG fp_u10 tyX10 tyX10_ok nmX10 (by omega) fp_nf_at rfl 0 (by decide) twc_215 rfl hin rfl (by decide +kernel) rfl rfl (Nat.le_of_ble_eq_true rfl) dX10_init_12 (fun H locs hG => ?_)
  replace hG := fp_HV_congr (V' := (fp_nf G B V 27 (.inr (10, [.ref (B + 28), .null, .null, .null])))) (fp_nf_put (n := _)) hG
  refine lv_aload_n hx hb dX10_init_15 rfl (lv_at hl 0 rfl) ?_
  refine fp_new (ci := 0) (N := 1) (C := RX0) (T := TX0) (fs := [.null]) E hG fp_u0 tyX0 tyX0_ok twc_211 twc_192 twc_6 rfl (fun j hj => by rcases (show j = 0 by omega) with rfl <;> rfl) (Nat.le_of_ble_eq_true rfl) (Nat.le_of_ble_eq_true rfl) dX10_init_16 (fun H hG => ?_)
  refine lv_dup hx hb dX10_init_19 rfl ?_
  refine fp_callIN (host := "FreePlace") (k := 33) (n1 := 39) E hG (c_X0_init l D G B _ fp_is0_33 (by simp [va_up])) hN cv_X0_init (by decide +kernel) twc_194 rfl ⟨rfl, rfl⟩ ⟨Nat.le_of_ble_eq_true rfl, Nat.le_of_ble_eq_true rfl⟩ (Nat.le_of_ble_eq_true rfl) hl.1 dX10_init_20 ⟨Nat.le_of_ble_eq_true rfl, Nat.le_of_ble_eq_true rfl⟩ (fun H locs hG => ?_)
  replace hG := fp_HV_congr (fp_nf_call (by omega)) hG
  refine fp_putFv (v := .ref (B + 33)) (ty := (.object "FreePlace$Acts")) E hG fp_u10 tyX10 tyX10_ok nmX10 (by omega) fp_nf_at rfl 1 (by decide) twc_216 rfl hin rfl (by decide +kernel) rfl rfl (Nat.le_of_ble_eq_true rfl) dX10_init_23 (fun H locs hG => ?_)
  replace hG := fp_HV_congr (V' := (fp_nf G B V 27 (.inr (10, [.ref (B + 28), .ref (B + 33), .null, .null])))) (fp_nf_put (n := _)) hG
  refine lv_aload_n hx hb dX10_init_26 rfl (lv_at hl 0 rfl) ?_
  refine fp_new (ci := 9) (N := 9) (C := RX9) (T := TX9) (fs := [.null, .null, .int 0, .int 0, .int 0, .int 0, .int 0, .int 0, .int 0]) E hG fp_u9 tyX9 tyX9_ok twc_213 twc_116 twc_4 rfl (fun j hj => by rcases (show j = 0 ∨ j = 1 ∨ j = 2 ∨ j = 3 ∨ j = 4 ∨ j = 5 ∨ j = 6 ∨ j = 7 ∨ j = 8 by omega) with rfl | rfl | rfl | rfl | rfl | rfl | rfl | rfl | rfl <;> rfl) (Nat.le_of_ble_eq_true rfl) (Nat.le_of_ble_eq_true rfl) dX10_init_27 (fun H hG => ?_)
  refine lv_dup hx hb dX10_init_30 rfl ?_
  refine fp_callIN (host := "FreePlace") (k := 39) (n1 := 42) E hG (c_X9_init l D G B _ fp_is9_39 (by simp [va_up])) hN cv_X9_init (by decide +kernel) twc_118 rfl ⟨rfl, rfl⟩ ⟨Nat.le_of_ble_eq_true rfl, Nat.le_of_ble_eq_true rfl⟩ (Nat.le_of_ble_eq_true rfl) hl.1 dX10_init_31 ⟨Nat.le_of_ble_eq_true rfl, Nat.le_of_ble_eq_true rfl⟩ (fun H locs hG => ?_)
  replace hG := fp_HV_congr (fp_nf_call (by omega)) hG
  refine fp_putFv (v := .ref (B + 39)) (ty := (.object "FreePlace$State")) E hG fp_u10 tyX10 tyX10_ok nmX10 (by omega) fp_nf_at rfl 2 (by decide) twc_217 rfl hin rfl (by decide +kernel) rfl rfl (Nat.le_of_ble_eq_true rfl) dX10_init_34 (fun H locs hG => ?_)
  replace hG := fp_HV_congr (V' := (fp_nf G B V 27 (.inr (10, [.ref (B + 28), .ref (B + 33), .ref (B + 39), .null])))) (fp_nf_put (n := _)) hG
  refine lv_aload_n hx hb dX10_init_37 rfl (lv_at hl 0 rfl) ?_
  refine lv_bipush (v := (nI 9)) hx hb dX10_init_38 (by decide) ?_
  refine fp_newa_i (N' := 9) E hG (by decide) tw_ar_int (Nat.le_of_ble_eq_true rfl) (Nat.le_of_ble_eq_true rfl) dX10_init_40 (fun H hG => ?_)
  replace hG := fp_HV_congr (fp_nf_push (by omega) (by rw [fp_a20 fp_cc42, fp_M0_arr fp_cc42 (by decide)])) hG
  refine fp_putFv (v := .ref (B + 42)) (ty := (.array .int)) E hG fp_u10 tyX10 tyX10_ok nmX10 (by omega) fp_nf_at rfl 3 (by decide) twc_218 rfl hin rfl (by decide +kernel) rfl rfl (Nat.le_of_ble_eq_true rfl) dX10_init_42 (fun H locs hG => ?_)
  replace hG := fp_HV_congr (V' := (fp_nf G B V 27 (.inr (10, [.ref (B + 28), .ref (B + 33), .ref (B + 39), .ref (B + 42)])))) (fp_nf_put (n := _)) hG
  exact fp_retc E hN hG (fp_nf_end rfl) dX10_init_45
abbrev rm_X12_init : Room := { frames := 1, cells := 19, slots := 980, locals := 16 }
theorem cv_X12_init : fp_CV yX12_init cX12_init 1 none 0 := ⟨twc_803, twc_13, by decide, by decide +kernel⟩
set_option maxHeartbeats 4000000 in
theorem c_X12_init (l : Launch) (D : va_G) (G : Nat → ClassId) (B : Nat) (V : Nat → va_E) (hV : V 120 = .inr (12, [.int 0, .int 0, .int 0, .null, .null, .null, .int 0, .int 0, .null, .int 0, .int 0, .int 0, .int 0, .int 0, .int 0, .null, .int 0, .null, .null, .int 0, .null, .null, .null, .int 0, .null, .null, .null, .int 0, .null, .null, .int 0, .null, .null, .null, .null])) : Met l yX12_init (Cond.code yX12_init cX12_init 1 none :: fp_T) rm_X12_init (va_Pc [.ref (B + 120)] (fp_GV D G B (120 + 1) V)) (fp_Qc D G B 140 (fp_mix G B V 120)) 19 980 (fp_A B) := by
  refine fp_metv (own := RX12) (by decide) rfl (Nat.le_of_ble_eq_true rfl) rfl (fun {p e s m args below meth c ls} E hG hN hin hl => ?_)
  have hx := E.1
  have hb := E.2.1
  have hown := E.2.2.2.1
  have hl : lv_has ls 1 [(0, .ref (B + 120))] := hl
  replace hG := fp_HV_congr (fp_nf_start (G := G) (B := B) hV) hG
  refine lv_aload_n hx hb dX12_init_0 rfl (lv_at hl 0 rfl) ?_
  refine W.objInit hx hb hown (fp_tabs E twc_804) (fp_tabs E twc_22) (fp_tabs E tw_oc) rfl (by rw [E.2.2.1]; exact hl.1) rfl dX12_init_1 (Nat.le_of_ble_eq_true rfl) (Nat.le_of_ble_eq_true rfl) ?_
  refine W.eq (g2 := F0 m 4 ls []) rfl ?_
  refine lv_aload_n hx hb dX12_init_4 rfl (lv_at hl 0 rfl) ?_
  refine lv_bipush (v := (nI 14)) hx hb dX12_init_5 (by decide) ?_
  refine fp_newa_i (N' := 14) E hG (by decide) tw_ar_int (Nat.le_of_ble_eq_true rfl) (Nat.le_of_ble_eq_true rfl) dX12_init_7 (fun H hG => ?_)
  replace hG := fp_HV_congr (fp_nf_push (by omega) (by rw [fp_a21 fp_cc121, fp_M0_arr fp_cc121 (by decide)])) hG
  refine fp_putFv (v := .ref (B + 121)) (ty := (.array .int)) E hG fp_u12 tyX12 tyX12_ok nmX12 (by omega) fp_nf_at rfl 3 (by decide) twc_808 rfl hin rfl (by decide +kernel) rfl rfl (Nat.le_of_ble_eq_true rfl) dX12_init_9 (fun H locs hG => ?_)
  replace hG := fp_HV_congr (V' := (fp_nf G B V 120 (.inr (12, [.int 0, .int 0, .int 0, .ref (B + 121), .null, .null, .int 0, .int 0, .null, .int 0, .int 0, .int 0, .int 0, .int 0, .int 0, .null, .int 0, .null, .null, .int 0, .null, .null, .null, .int 0, .null, .null, .null, .int 0, .null, .null, .int 0, .null, .null, .null, .null])))) (fp_nf_put (n := _)) hG
  refine lv_aload_n hx hb dX12_init_12 rfl (lv_at hl 0 rfl) ?_
  refine lv_bipush (v := (nI 14)) hx hb dX12_init_13 (by decide) ?_
  refine fp_newa_i (N' := 14) E hG (by decide) tw_ar_int (Nat.le_of_ble_eq_true rfl) (Nat.le_of_ble_eq_true rfl) dX12_init_15 (fun H hG => ?_)
  replace hG := fp_HV_congr (fp_nf_push (by omega) (by rw [fp_a21 fp_cc122, fp_M0_arr fp_cc122 (by decide)])) hG
  refine fp_putFv (v := .ref (B + 122)) (ty := (.array .int)) E hG fp_u12 tyX12 tyX12_ok nmX12 (by omega) fp_nf_at rfl 4 (by decide) twc_809 rfl hin rfl (by decide +kernel) rfl rfl (Nat.le_of_ble_eq_true rfl) dX12_init_17 (fun H locs hG => ?_)
  replace hG := fp_HV_congr (V' := (fp_nf G B V 120 (.inr (12, [.int 0, .int 0, .int 0, .ref (B + 121), .ref (B + 122), .null, .int 0, .int 0, .null, .int 0, .int 0, .int 0, .int 0, .int 0, .int 0, .null, .int 0, .null, .null, .int 0, .null, .null, .null, .int 0, .null, .null, .null, .int 0, .null, .null, .int 0, .null, .null, .null, .null])))) (fp_nf_put (n := _)) hG
  refine lv_aload_n hx hb dX12_init_20 rfl (lv_at hl 0 rfl) ?_
  refine lv_bipush (v := (nI 25)) hx hb dX12_init_21 (by decide) ?_
  refine fp_newa_i (N' := 25) E hG (by decide) tw_ar_int (Nat.le_of_ble_eq_true rfl) (Nat.le_of_ble_eq_true rfl) dX12_init_23 (fun H hG => ?_)
  replace hG := fp_HV_congr (fp_nf_push (by omega) (by rw [fp_a28 fp_cc123, fp_M0_arr fp_cc123 (by decide)])) hG
  refine fp_putFv (v := .ref (B + 123)) (ty := (.array .int)) E hG fp_u12 tyX12 tyX12_ok nmX12 (by omega) fp_nf_at rfl 5 (by decide) twc_810 rfl hin rfl (by decide +kernel) rfl rfl (Nat.le_of_ble_eq_true rfl) dX12_init_25 (fun H locs hG => ?_)
  replace hG := fp_HV_congr (V' := (fp_nf G B V 120 (.inr (12, [.int 0, .int 0, .int 0, .ref (B + 121), .ref (B + 122), .ref (B + 123), .int 0, .int 0, .null, .int 0, .int 0, .int 0, .int 0, .int 0, .int 0, .null, .int 0, .null, .null, .int 0, .null, .null, .null, .int 0, .null, .null, .null, .int 0, .null, .null, .int 0, .null, .null, .null, .null])))) (fp_nf_put (n := _)) hG
  refine lv_aload_n hx hb dX12_init_28 rfl (lv_at hl 0 rfl) ?_
  refine lv_sipush (v := (nI 240)) hx hb dX12_init_29 (by decide) ?_
  refine fp_newa_i (N' := 240) E hG (by decide) tw_ar_int (Nat.le_of_ble_eq_true rfl) (Nat.le_of_ble_eq_true rfl) dX12_init_32 (fun H hG => ?_)
  replace hG := fp_HV_congr (fp_nf_push (by omega) (by rw [fp_a29 fp_cc124, fp_M0_arr fp_cc124 (by decide)])) hG
  refine fp_putFv (v := .ref (B + 124)) (ty := (.array .int)) E hG fp_u12 tyX12 tyX12_ok nmX12 (by omega) fp_nf_at rfl 8 (by decide) twc_813 rfl hin rfl (by decide +kernel) rfl rfl (Nat.le_of_ble_eq_true rfl) dX12_init_34 (fun H locs hG => ?_)
  replace hG := fp_HV_congr (V' := (fp_nf G B V 120 (.inr (12, [.int 0, .int 0, .int 0, .ref (B + 121), .ref (B + 122), .ref (B + 123), .int 0, .int 0, .ref (B + 124), .int 0, .int 0, .int 0, .int 0, .int 0, .int 0, .null, .int 0, .null, .null, .int 0, .null, .null, .null, .int 0, .null, .null, .null, .int 0, .null, .null, .int 0, .null, .null, .null, .null])))) (fp_nf_put (n := _)) hG
  refine lv_aload_n hx hb dX12_init_37 rfl (lv_at hl 0 rfl) ?_
  refine lv_iconst (v := (-1 : Int32)) hx hb dX12_init_38 (by decide) ?_
  refine fp_putv (v := .int (-1 : Int32)) (ty := .int) E hG fp_u12 tyX12 tyX12_ok nmX12 (by omega) fp_nf_at rfl 10 (by decide) twc_815 rfl (by decide +kernel) rfl rfl (Nat.le_of_ble_eq_true rfl) dX12_init_39 (fun H locs hG => ?_)
  replace hG := fp_HV_congr (V' := (fp_nf G B V 120 (.inr (12, [.int 0, .int 0, .int 0, .ref (B + 121), .ref (B + 122), .ref (B + 123), .int 0, .int 0, .ref (B + 124), .int 0, .int (-1 : Int32), .int 0, .int 0, .int 0, .int 0, .null, .int 0, .null, .null, .int 0, .null, .null, .null, .int 0, .null, .null, .null, .int 0, .null, .null, .int 0, .null, .null, .null, .null])))) (fp_nf_put (n := _)) hG
  refine lv_aload_n hx hb dX12_init_42 rfl (lv_at hl 0 rfl) ?_
  refine lv_iconst (v := (nI 2)) hx hb dX12_init_43 (by decide) ?_
  refine fp_newa_i (N' := 2) E hG (by decide) tw_ar_int (Nat.le_of_ble_eq_true rfl) (Nat.le_of_ble_eq_true rfl) dX12_init_44 (fun H hG => ?_)
  replace hG := fp_HV_congr (fp_nf_push (by omega) (by rw [fp_a26 fp_cc125, fp_M0_arr fp_cc125 (by decide)])) hG
  refine fp_putFv (v := .ref (B + 125)) (ty := (.array .int)) E hG fp_u12 tyX12 tyX12_ok nmX12 (by omega) fp_nf_at rfl 15 (by decide) twc_820 rfl hin rfl (by decide +kernel) rfl rfl (Nat.le_of_ble_eq_true rfl) dX12_init_46 (fun H locs hG => ?_)
  replace hG := fp_HV_congr (V' := (fp_nf G B V 120 (.inr (12, [.int 0, .int 0, .int 0, .ref (B + 121), .ref (B + 122), .ref (B + 123), .int 0, .int 0, .ref (B + 124), .int 0, .int (-1 : Int32), .int 0, .int 0, .int 0, .int 0, .ref (B + 125), .int 0, .null, .null, .int 0, .null, .null, .null, .int 0, .null, .null, .null, .int 0, .null, .null, .int 0, .null, .null, .null, .null])))) (fp_nf_put (n := _)) hG
  refine lv_aload_n hx hb dX12_init_49 rfl (lv_at hl 0 rfl) ?_
  refine lv_bipush (v := (nI 9)) hx hb dX12_init_50 (by decide) ?_
  refine fp_newa_i (N' := 9) E hG (by decide) tw_ar_int (Nat.le_of_ble_eq_true rfl) (Nat.le_of_ble_eq_true rfl) dX12_init_52 (fun H hG => ?_)
  replace hG := fp_HV_congr (fp_nf_push (by omega) (by rw [fp_a20 fp_cc126, fp_M0_arr fp_cc126 (by decide)])) hG
  refine fp_putFv (v := .ref (B + 126)) (ty := (.array .int)) E hG fp_u12 tyX12 tyX12_ok nmX12 (by omega) fp_nf_at rfl 17 (by decide) twc_822 rfl hin rfl (by decide +kernel) rfl rfl (Nat.le_of_ble_eq_true rfl) dX12_init_54 (fun H locs hG => ?_)
  replace hG := fp_HV_congr (V' := (fp_nf G B V 120 (.inr (12, [.int 0, .int 0, .int 0, .ref (B + 121), .ref (B + 122), .ref (B + 123), .int 0, .int 0, .ref (B + 124), .int 0, .int (-1 : Int32), .int 0, .int 0, .int 0, .int 0, .ref (B + 125), .int 0, .ref (B + 126), .null, .int 0, .null, .null, .null, .int 0, .null, .null, .null, .int 0, .null, .null, .int 0, .null, .null, .null, .null])))) (fp_nf_put (n := _)) hG
  refine lv_aload_n hx hb dX12_init_57 rfl (lv_at hl 0 rfl) ?_
  refine lv_bipush (v := (nI 9)) hx hb dX12_init_58 (by decide) ?_
  refine fp_newa_i (N' := 9) E hG (by decide) tw_ar_int (Nat.le_of_ble_eq_true rfl) (Nat.le_of_ble_eq_true rfl) dX12_init_60 (fun H hG => ?_)
  replace hG := fp_HV_congr (fp_nf_push (by omega) (by rw [fp_a20 fp_cc127, fp_M0_arr fp_cc127 (by decide)])) hG
  refine fp_putFv (v := .ref (B + 127)) (ty := (.array .int)) E hG fp_u12 tyX12 tyX12_ok nmX12 (by omega) fp_nf_at rfl 18 (by decide) twc_823 rfl hin rfl (by decide +kernel) rfl rfl (Nat.le_of_ble_eq_true rfl) dX12_init_62 (fun H locs hG => ?_)
  replace hG := fp_HV_congr (V' := (fp_nf G B V 120 (.inr (12, [.int 0, .int 0, .int 0, .ref (B + 121), .ref (B + 122), .ref (B + 123), .int 0, .int 0, .ref (B + 124), .int 0, .int (-1 : Int32), .int 0, .int 0, .int 0, .int 0, .ref (B + 125), .int 0, .ref (B + 126), .ref (B + 127), .int 0, .null, .null, .null, .int 0, .null, .null, .null, .int 0, .null, .null, .int 0, .null, .null, .null, .null])))) (fp_nf_put (n := _)) hG
  refine lv_aload_n hx hb dX12_init_65 rfl (lv_at hl 0 rfl) ?_
  refine lv_bipush (v := (nI 14)) hx hb dX12_init_66 (by decide) ?_
  refine fp_newa_i (N' := 14) E hG (by decide) tw_ar_int (Nat.le_of_ble_eq_true rfl) (Nat.le_of_ble_eq_true rfl) dX12_init_68 (fun H hG => ?_)
  replace hG := fp_HV_congr (fp_nf_push (by omega) (by rw [fp_a21 fp_cc128, fp_M0_arr fp_cc128 (by decide)])) hG
  refine fp_putFv (v := .ref (B + 128)) (ty := (.array .int)) E hG fp_u12 tyX12 tyX12_ok nmX12 (by omega) fp_nf_at rfl 20 (by decide) twc_825 rfl hin rfl (by decide +kernel) rfl rfl (Nat.le_of_ble_eq_true rfl) dX12_init_70 (fun H locs hG => ?_)
  replace hG := fp_HV_congr (V' := (fp_nf G B V 120 (.inr (12, [.int 0, .int 0, .int 0, .ref (B + 121), .ref (B + 122), .ref (B + 123), .int 0, .int 0, .ref (B + 124), .int 0, .int (-1 : Int32), .int 0, .int 0, .int 0, .int 0, .ref (B + 125), .int 0, .ref (B + 126), .ref (B + 127), .int 0, .ref (B + 128), .null, .null, .int 0, .null, .null, .null, .int 0, .null, .null, .int 0, .null, .null, .null, .null])))) (fp_nf_put (n := _)) hG
  refine lv_aload_n hx hb dX12_init_73 rfl (lv_at hl 0 rfl) ?_
  refine lv_bipush (v := (nI 14)) hx hb dX12_init_74 (by decide) ?_
  refine fp_newa_i (N' := 14) E hG (by decide) tw_ar_int (Nat.le_of_ble_eq_true rfl) (Nat.le_of_ble_eq_true rfl) dX12_init_76 (fun H hG => ?_)
  replace hG := fp_HV_congr (fp_nf_push (by omega) (by rw [fp_a21 fp_cc129, fp_M0_arr fp_cc129 (by decide)])) hG
  refine fp_putFv (v := .ref (B + 129)) (ty := (.array .int)) E hG fp_u12 tyX12 tyX12_ok nmX12 (by omega) fp_nf_at rfl 21 (by decide) twc_826 rfl hin rfl (by decide +kernel) rfl rfl (Nat.le_of_ble_eq_true rfl) dX12_init_78 (fun H locs hG => ?_)
  replace hG := fp_HV_congr (V' := (fp_nf G B V 120 (.inr (12, [.int 0, .int 0, .int 0, .ref (B + 121), .ref (B + 122), .ref (B + 123), .int 0, .int 0, .ref (B + 124), .int 0, .int (-1 : Int32), .int 0, .int 0, .int 0, .int 0, .ref (B + 125), .int 0, .ref (B + 126), .ref (B + 127), .int 0, .ref (B + 128), .ref (B + 129), .null, .int 0, .null, .null, .null, .int 0, .null, .null, .int 0, .null, .null, .null, .null])))) (fp_nf_put (n := _)) hG
  refine lv_aload_n hx hb dX12_init_81 rfl (lv_at hl 0 rfl) ?_
  refine lv_bipush (v := (nI 9)) hx hb dX12_init_82 (by decide) ?_
  refine fp_newa_i (N' := 9) E hG (by decide) tw_ar_int (Nat.le_of_ble_eq_true rfl) (Nat.le_of_ble_eq_true rfl) dX12_init_84 (fun H hG => ?_)
  replace hG := fp_HV_congr (fp_nf_push (by omega) (by rw [fp_a20 fp_cc130, fp_M0_arr fp_cc130 (by decide)])) hG
  refine fp_putFv (v := .ref (B + 130)) (ty := (.array .int)) E hG fp_u12 tyX12 tyX12_ok nmX12 (by omega) fp_nf_at rfl 22 (by decide) twc_827 rfl hin rfl (by decide +kernel) rfl rfl (Nat.le_of_ble_eq_true rfl) dX12_init_86 (fun H locs hG => ?_)
  replace hG := fp_HV_congr (V' := (fp_nf G B V 120 (.inr (12, [.int 0, .int 0, .int 0, .ref (B + 121), .ref (B + 122), .ref (B + 123), .int 0, .int 0, .ref (B + 124), .int 0, .int (-1 : Int32), .int 0, .int 0, .int 0, .int 0, .ref (B + 125), .int 0, .ref (B + 126), .ref (B + 127), .int 0, .ref (B + 128), .ref (B + 129), .ref (B + 130), .int 0, .null, .null, .null, .int 0, .null, .null, .int 0, .null, .null, .null, .null])))) (fp_nf_put (n := _)) hG
  refine lv_aload_n hx hb dX12_init_89 rfl (lv_at hl 0 rfl) ?_
  refine lv_sipush (v := (nI 500)) hx hb dX12_init_90 (by decide) ?_
  refine fp_newa_i (N' := 500) E hG (by decide) tw_ar_int (Nat.le_of_ble_eq_true rfl) (Nat.le_of_ble_eq_true rfl) dX12_init_93 (fun H hG => ?_)
  replace hG := fp_HV_congr (fp_nf_push (by omega) (by rw [fp_a30 fp_cc131, fp_M0_arr fp_cc131 (by decide)])) hG
  refine fp_putFv (v := .ref (B + 131)) (ty := (.array .int)) E hG fp_u12 tyX12 tyX12_ok nmX12 (by omega) fp_nf_at rfl 24 (by decide) twc_829 rfl hin rfl (by decide +kernel) rfl rfl (Nat.le_of_ble_eq_true rfl) dX12_init_95 (fun H locs hG => ?_)
  replace hG := fp_HV_congr (V' := (fp_nf G B V 120 (.inr (12, [.int 0, .int 0, .int 0, .ref (B + 121), .ref (B + 122), .ref (B + 123), .int 0, .int 0, .ref (B + 124), .int 0, .int (-1 : Int32), .int 0, .int 0, .int 0, .int 0, .ref (B + 125), .int 0, .ref (B + 126), .ref (B + 127), .int 0, .ref (B + 128), .ref (B + 129), .ref (B + 130), .int 0, .ref (B + 131), .null, .null, .int 0, .null, .null, .int 0, .null, .null, .null, .null])))) (fp_nf_put (n := _)) hG
  refine lv_aload_n hx hb dX12_init_98 rfl (lv_at hl 0 rfl) ?_
  refine lv_bipush (v := (nI 25)) hx hb dX12_init_99 (by decide) ?_
  refine fp_newa_i (N' := 25) E hG (by decide) tw_ar_int (Nat.le_of_ble_eq_true rfl) (Nat.le_of_ble_eq_true rfl) dX12_init_101 (fun H hG => ?_)
  replace hG := fp_HV_congr (fp_nf_push (by omega) (by rw [fp_a28 fp_cc132, fp_M0_arr fp_cc132 (by decide)])) hG
  refine fp_putFv (v := .ref (B + 132)) (ty := (.array .int)) E hG fp_u12 tyX12 tyX12_ok nmX12 (by omega) fp_nf_at rfl 25 (by decide) twc_830 rfl hin rfl (by decide +kernel) rfl rfl (Nat.le_of_ble_eq_true rfl) dX12_init_103 (fun H locs hG => ?_)
  replace hG := fp_HV_congr (V' := (fp_nf G B V 120 (.inr (12, [.int 0, .int 0, .int 0, .ref (B + 121), .ref (B + 122), .ref (B + 123), .int 0, .int 0, .ref (B + 124), .int 0, .int (-1 : Int32), .int 0, .int 0, .int 0, .int 0, .ref (B + 125), .int 0, .ref (B + 126), .ref (B + 127), .int 0, .ref (B + 128), .ref (B + 129), .ref (B + 130), .int 0, .ref (B + 131), .ref (B + 132), .null, .int 0, .null, .null, .int 0, .null, .null, .null, .null])))) (fp_nf_put (n := _)) hG
  refine lv_aload_n hx hb dX12_init_106 rfl (lv_at hl 0 rfl) ?_
  refine lv_bipush (v := (nI 9)) hx hb dX12_init_107 (by decide) ?_
  refine fp_newa_i (N' := 9) E hG (by decide) tw_ar_int (Nat.le_of_ble_eq_true rfl) (Nat.le_of_ble_eq_true rfl) dX12_init_109 (fun H hG => ?_)
  replace hG := fp_HV_congr (fp_nf_push (by omega) (by rw [fp_a20 fp_cc133, fp_M0_arr fp_cc133 (by decide)])) hG
  refine fp_putFv (v := .ref (B + 133)) (ty := (.array .int)) E hG fp_u12 tyX12 tyX12_ok nmX12 (by omega) fp_nf_at rfl 26 (by decide) twc_831 rfl hin rfl (by decide +kernel) rfl rfl (Nat.le_of_ble_eq_true rfl) dX12_init_111 (fun H locs hG => ?_)
  replace hG := fp_HV_congr (V' := (fp_nf G B V 120 (.inr (12, [.int 0, .int 0, .int 0, .ref (B + 121), .ref (B + 122), .ref (B + 123), .int 0, .int 0, .ref (B + 124), .int 0, .int (-1 : Int32), .int 0, .int 0, .int 0, .int 0, .ref (B + 125), .int 0, .ref (B + 126), .ref (B + 127), .int 0, .ref (B + 128), .ref (B + 129), .ref (B + 130), .int 0, .ref (B + 131), .ref (B + 132), .ref (B + 133), .int 0, .null, .null, .int 0, .null, .null, .null, .null])))) (fp_nf_put (n := _)) hG
  refine lv_aload_n hx hb dX12_init_114 rfl (lv_at hl 0 rfl) ?_
  refine lv_bipush (v := (nI 6)) hx hb dX12_init_115 (by decide) ?_
  refine fp_newa_i (N' := 6) E hG (by decide) tw_ar_int (Nat.le_of_ble_eq_true rfl) (Nat.le_of_ble_eq_true rfl) dX12_init_117 (fun H hG => ?_)
  replace hG := fp_HV_congr (fp_nf_push (by omega) (by rw [fp_a31 fp_cc134, fp_M0_arr fp_cc134 (by decide)])) hG
  refine fp_putFv (v := .ref (B + 134)) (ty := (.array .int)) E hG fp_u12 tyX12 tyX12_ok nmX12 (by omega) fp_nf_at rfl 28 (by decide) twc_833 rfl hin rfl (by decide +kernel) rfl rfl (Nat.le_of_ble_eq_true rfl) dX12_init_119 (fun H locs hG => ?_)
  replace hG := fp_HV_congr (V' := (fp_nf G B V 120 (.inr (12, [.int 0, .int 0, .int 0, .ref (B + 121), .ref (B + 122), .ref (B + 123), .int 0, .int 0, .ref (B + 124), .int 0, .int (-1 : Int32), .int 0, .int 0, .int 0, .int 0, .ref (B + 125), .int 0, .ref (B + 126), .ref (B + 127), .int 0, .ref (B + 128), .ref (B + 129), .ref (B + 130), .int 0, .ref (B + 131), .ref (B + 132), .ref (B + 133), .int 0, .ref (B + 134), .null, .int 0, .null, .null, .null, .null])))) (fp_nf_put (n := _)) hG
  refine lv_aload_n hx hb dX12_init_122 rfl (lv_at hl 0 rfl) ?_
  refine lv_bipush (v := (nI 6)) hx hb dX12_init_123 (by decide) ?_
  refine fp_newa_z (N' := 6) E hG (by decide) tw_ar_boolean (Nat.le_of_ble_eq_true rfl) (Nat.le_of_ble_eq_true rfl) dX12_init_125 (fun H hG => ?_)
  replace hG := fp_HV_congr (fp_nf_push (by omega) (by rw [fp_a32 fp_cc135, fp_M0_arr fp_cc135 (by decide)])) hG
  refine fp_putFv (v := .ref (B + 135)) (ty := (.array .boolean)) E hG fp_u12 tyX12 tyX12_ok nmX12 (by omega) fp_nf_at rfl 29 (by decide) twc_834 rfl hin rfl (by decide +kernel) rfl rfl (Nat.le_of_ble_eq_true rfl) dX12_init_127 (fun H locs hG => ?_)
  replace hG := fp_HV_congr (V' := (fp_nf G B V 120 (.inr (12, [.int 0, .int 0, .int 0, .ref (B + 121), .ref (B + 122), .ref (B + 123), .int 0, .int 0, .ref (B + 124), .int 0, .int (-1 : Int32), .int 0, .int 0, .int 0, .int 0, .ref (B + 125), .int 0, .ref (B + 126), .ref (B + 127), .int 0, .ref (B + 128), .ref (B + 129), .ref (B + 130), .int 0, .ref (B + 131), .ref (B + 132), .ref (B + 133), .int 0, .ref (B + 134), .ref (B + 135), .int 0, .null, .null, .null, .null])))) (fp_nf_put (n := _)) hG
  refine lv_aload_n hx hb dX12_init_130 rfl (lv_at hl 0 rfl) ?_
  refine lv_bipush (v := (nI 15)) hx hb dX12_init_131 (by decide) ?_
  refine fp_newa_i (N' := 15) E hG (by decide) tw_ar_int (Nat.le_of_ble_eq_true rfl) (Nat.le_of_ble_eq_true rfl) dX12_init_133 (fun H hG => ?_)
  replace hG := fp_HV_congr (fp_nf_push (by omega) (by rw [fp_a23 fp_cc136, fp_M0_arr fp_cc136 (by decide)])) hG
  refine fp_putFv (v := .ref (B + 136)) (ty := (.array .int)) E hG fp_u12 tyX12 tyX12_ok nmX12 (by omega) fp_nf_at rfl 31 (by decide) twc_836 rfl hin rfl (by decide +kernel) rfl rfl (Nat.le_of_ble_eq_true rfl) dX12_init_135 (fun H locs hG => ?_)
  replace hG := fp_HV_congr (V' := (fp_nf G B V 120 (.inr (12, [.int 0, .int 0, .int 0, .ref (B + 121), .ref (B + 122), .ref (B + 123), .int 0, .int 0, .ref (B + 124), .int 0, .int (-1 : Int32), .int 0, .int 0, .int 0, .int 0, .ref (B + 125), .int 0, .ref (B + 126), .ref (B + 127), .int 0, .ref (B + 128), .ref (B + 129), .ref (B + 130), .int 0, .ref (B + 131), .ref (B + 132), .ref (B + 133), .int 0, .ref (B + 134), .ref (B + 135), .int 0, .ref (B + 136), .null, .null, .null])))) (fp_nf_put (n := _)) hG
  refine lv_aload_n hx hb dX12_init_138 rfl (lv_at hl 0 rfl) ?_
  refine lv_bipush (v := (nI 15)) hx hb dX12_init_139 (by decide) ?_
  refine fp_newa_i (N' := 15) E hG (by decide) tw_ar_int (Nat.le_of_ble_eq_true rfl) (Nat.le_of_ble_eq_true rfl) dX12_init_141 (fun H hG => ?_)
  replace hG := fp_HV_congr (fp_nf_push (by omega) (by rw [fp_a23 fp_cc137, fp_M0_arr fp_cc137 (by decide)])) hG
  refine fp_putFv (v := .ref (B + 137)) (ty := (.array .int)) E hG fp_u12 tyX12 tyX12_ok nmX12 (by omega) fp_nf_at rfl 32 (by decide) twc_837 rfl hin rfl (by decide +kernel) rfl rfl (Nat.le_of_ble_eq_true rfl) dX12_init_143 (fun H locs hG => ?_)
  replace hG := fp_HV_congr (V' := (fp_nf G B V 120 (.inr (12, [.int 0, .int 0, .int 0, .ref (B + 121), .ref (B + 122), .ref (B + 123), .int 0, .int 0, .ref (B + 124), .int 0, .int (-1 : Int32), .int 0, .int 0, .int 0, .int 0, .ref (B + 125), .int 0, .ref (B + 126), .ref (B + 127), .int 0, .ref (B + 128), .ref (B + 129), .ref (B + 130), .int 0, .ref (B + 131), .ref (B + 132), .ref (B + 133), .int 0, .ref (B + 134), .ref (B + 135), .int 0, .ref (B + 136), .ref (B + 137), .null, .null])))) (fp_nf_put (n := _)) hG
  refine lv_aload_n hx hb dX12_init_146 rfl (lv_at hl 0 rfl) ?_
  refine lv_bipush (v := (nI 52)) hx hb dX12_init_147 (by decide) ?_
  refine fp_newa_i (N' := 52) E hG (by decide) tw_ar_int (Nat.le_of_ble_eq_true rfl) (Nat.le_of_ble_eq_true rfl) dX12_init_149 (fun H hG => ?_)
  replace hG := fp_HV_congr (fp_nf_push (by omega) (by rw [fp_a33 fp_cc138, fp_M0_arr fp_cc138 (by decide)])) hG
  refine fp_putFv (v := .ref (B + 138)) (ty := (.array .int)) E hG fp_u12 tyX12 tyX12_ok nmX12 (by omega) fp_nf_at rfl 33 (by decide) twc_838 rfl hin rfl (by decide +kernel) rfl rfl (Nat.le_of_ble_eq_true rfl) dX12_init_151 (fun H locs hG => ?_)
  replace hG := fp_HV_congr (V' := (fp_nf G B V 120 (.inr (12, [.int 0, .int 0, .int 0, .ref (B + 121), .ref (B + 122), .ref (B + 123), .int 0, .int 0, .ref (B + 124), .int 0, .int (-1 : Int32), .int 0, .int 0, .int 0, .int 0, .ref (B + 125), .int 0, .ref (B + 126), .ref (B + 127), .int 0, .ref (B + 128), .ref (B + 129), .ref (B + 130), .int 0, .ref (B + 131), .ref (B + 132), .ref (B + 133), .int 0, .ref (B + 134), .ref (B + 135), .int 0, .ref (B + 136), .ref (B + 137), .ref (B + 138), .null])))) (fp_nf_put (n := _)) hG
  refine lv_aload_n hx hb dX12_init_154 rfl (lv_at hl 0 rfl) ?_
  refine lv_iconst (v := (nI 2)) hx hb dX12_init_155 (by decide) ?_
  refine fp_newa_z (N' := 2) E hG (by decide) tw_ar_boolean (Nat.le_of_ble_eq_true rfl) (Nat.le_of_ble_eq_true rfl) dX12_init_156 (fun H hG => ?_)
  replace hG := fp_HV_congr (fp_nf_push (by omega) (by rw [fp_a27 fp_cc139, fp_M0_arr fp_cc139 (by decide)])) hG
  refine fp_putFv (v := .ref (B + 139)) (ty := (.array .boolean)) E hG fp_u12 tyX12 tyX12_ok nmX12 (by omega) fp_nf_at rfl 34 (by decide) twc_839 rfl hin rfl (by decide +kernel) rfl rfl (Nat.le_of_ble_eq_true rfl) dX12_init_158 (fun H locs hG => ?_)
  replace hG := fp_HV_congr (V' := (fp_nf G B V 120 (.inr (12, [.int 0, .int 0, .int 0, .ref (B + 121), .ref (B + 122), .ref (B + 123), .int 0, .int 0, .ref (B + 124), .int 0, .int (-1 : Int32), .int 0, .int 0, .int 0, .int 0, .ref (B + 125), .int 0, .ref (B + 126), .ref (B + 127), .int 0, .ref (B + 128), .ref (B + 129), .ref (B + 130), .int 0, .ref (B + 131), .ref (B + 132), .ref (B + 133), .int 0, .ref (B + 134), .ref (B + 135), .int 0, .ref (B + 136), .ref (B + 137), .ref (B + 138), .ref (B + 139)])))) (fp_nf_put (n := _)) hG
  refine lv_aload_n hx hb dX12_init_161 rfl (lv_at hl 0 rfl) ?_
  refine lv_iconst (v := (nI 0)) hx hb dX12_init_162 (by decide) ?_
  refine fp_putv (v := .int (nI 0)) (ty := .boolean) E hG fp_u12 tyX12 tyX12_ok nmX12 (by omega) fp_nf_at rfl 7 (by decide) twc_812 rfl (by decide +kernel) rfl rfl (Nat.le_of_ble_eq_true rfl) dX12_init_163 (fun H locs hG => ?_)
  replace hG := fp_HV_congr (V' := (fp_nf G B V 120 (.inr (12, [.int 0, .int 0, .int 0, .ref (B + 121), .ref (B + 122), .ref (B + 123), .int 0, .int (nI 0), .ref (B + 124), .int 0, .int (-1 : Int32), .int 0, .int 0, .int 0, .int 0, .ref (B + 125), .int 0, .ref (B + 126), .ref (B + 127), .int 0, .ref (B + 128), .ref (B + 129), .ref (B + 130), .int 0, .ref (B + 131), .ref (B + 132), .ref (B + 133), .int 0, .ref (B + 134), .ref (B + 135), .int 0, .ref (B + 136), .ref (B + 137), .ref (B + 138), .ref (B + 139)])))) (fp_nf_put (n := _)) hG
  exact fp_retc E hN hG (fp_nf_end rfl) dX12_init_166

theorem twc_278 : Cond.code yX4_init cX4_init 2 none ∈ fp_T := fp_T_of 278 (by decide +kernel) rfl
theorem twc_11 : Cond.initialized "FreePlace$History" ∈ fp_T := fp_T_of 11 (by decide +kernel) rfl
theorem twc_286 : Cond.fieldLink "FreePlace$History" 11 "FreePlace$History" "states" "[LFreePlace$State;" ∈ fp_T := fp_T_of 286 (by decide +kernel) rfl
theorem twc_280 : Cond.classLink "FreePlace$History" 9 "FreePlace$State" ∈ fp_T := fp_T_of 280 (by decide +kernel) rfl
theorem twc_279 : Cond.methodLink "FreePlace$History" 3 Lib.objectInit ∈ fp_T := fp_T_of 279 (by decide +kernel) rfl
theorem twc_298 : Cond.code yX5_init cX5_init 2 none ∈ fp_T := fp_T_of 298 (by decide +kernel) rfl
theorem twc_12 : Cond.initialized "FreePlace$Images" ∈ fp_T := fp_T_of 12 (by decide +kernel) rfl
theorem twc_302 : Cond.fieldLink "FreePlace$Images" 11 "FreePlace$Images" "states" "[LFreePlace$State;" ∈ fp_T := fp_T_of 302 (by decide +kernel) rfl
theorem twc_300 : Cond.classLink "FreePlace$Images" 9 "FreePlace$State" ∈ fp_T := fp_T_of 300 (by decide +kernel) rfl
theorem twc_299 : Cond.methodLink "FreePlace$Images" 3 Lib.objectInit ∈ fp_T := fp_T_of 299 (by decide +kernel) rfl
theorem twc_303 : Cond.fieldLink "FreePlace$Images" 17 "FreePlace$Images" "seeds" "[I" ∈ fp_T := fp_T_of 303 (by decide +kernel) rfl
theorem twc_304 : Cond.fieldLink "FreePlace$Images" 21 "FreePlace$Images" "kept" "[Z" ∈ fp_T := fp_T_of 304 (by decide +kernel) rfl
theorem twc_21 : Cond.methodLink "FreePlace" 1 Lib.objectInit ∈ fp_T := fp_T_of 21 (by decide +kernel) rfl
theorem twc_24 : Cond.classLink "FreePlace" 7 "FreePlace$Reader" ∈ fp_T := fp_T_of 24 (by decide +kernel) rfl
theorem twc_25 : Cond.instantiable "FreePlace$Reader" 7 ∈ fp_T := fp_T_of 25 (by decide +kernel) rfl
theorem twc_27 : Cond.instanceMethod yX6_init ∈ fp_T := fp_T_of 27 (by decide +kernel) rfl
theorem twc_313 : Cond.fieldLink "FreePlace" 10 "FreePlace" "reader" "LFreePlace$Reader;" ∈ fp_T := fp_T_of 313 (by decide +kernel) rfl
theorem twc_113 : Cond.classLink "FreePlace" 16 "FreePlace$Realm" ∈ fp_T := fp_T_of 113 (by decide +kernel) rfl
theorem twc_314 : Cond.fieldLink "FreePlace" 19 "FreePlace" "realm" "LFreePlace$Realm;" ∈ fp_T := fp_T_of 314 (by decide +kernel) rfl
theorem twc_115 : Cond.classLink "FreePlace" 23 "FreePlace$State" ∈ fp_T := fp_T_of 115 (by decide +kernel) rfl
theorem twc_315 : Cond.fieldLink "FreePlace" 26 "FreePlace" "now" "LFreePlace$State;" ∈ fp_T := fp_T_of 315 (by decide +kernel) rfl
theorem twc_168 : Cond.classLink "FreePlace" 30 "FreePlace$Chains" ∈ fp_T := fp_T_of 168 (by decide +kernel) rfl
theorem twc_316 : Cond.fieldLink "FreePlace" 33 "FreePlace" "chains" "LFreePlace$Chains;" ∈ fp_T := fp_T_of 316 (by decide +kernel) rfl
theorem twc_191 : Cond.classLink "FreePlace" 37 "FreePlace$Acts" ∈ fp_T := fp_T_of 191 (by decide +kernel) rfl
theorem twc_317 : Cond.fieldLink "FreePlace" 40 "FreePlace" "acts" "LFreePlace$Acts;" ∈ fp_T := fp_T_of 317 (by decide +kernel) rfl
theorem twc_203 : Cond.classLink "FreePlace" 44 "FreePlace$Trials" ∈ fp_T := fp_T_of 203 (by decide +kernel) rfl
theorem twc_204 : Cond.instantiable "FreePlace$Trials" 4 ∈ fp_T := fp_T_of 204 (by decide +kernel) rfl
theorem twc_206 : Cond.instanceMethod yX10_init ∈ fp_T := fp_T_of 206 (by decide +kernel) rfl
theorem twc_318 : Cond.fieldLink "FreePlace" 47 "FreePlace" "trials" "LFreePlace$Trials;" ∈ fp_T := fp_T_of 318 (by decide +kernel) rfl
theorem twc_228 : Cond.classLink "FreePlace" 51 "FreePlace$Sights" ∈ fp_T := fp_T_of 228 (by decide +kernel) rfl
theorem twc_229 : Cond.instantiable "FreePlace$Sights" 3 ∈ fp_T := fp_T_of 229 (by decide +kernel) rfl
theorem twc_231 : Cond.instanceMethod yX8_init ∈ fp_T := fp_T_of 231 (by decide +kernel) rfl
theorem twc_319 : Cond.fieldLink "FreePlace" 54 "FreePlace" "sights" "LFreePlace$Sights;" ∈ fp_T := fp_T_of 319 (by decide +kernel) rfl
theorem twc_245 : Cond.classLink "FreePlace" 58 "FreePlace$Book" ∈ fp_T := fp_T_of 245 (by decide +kernel) rfl
theorem twc_246 : Cond.instantiable "FreePlace$Book" 3 ∈ fp_T := fp_T_of 246 (by decide +kernel) rfl
theorem twc_248 : Cond.instanceMethod yX1_init ∈ fp_T := fp_T_of 248 (by decide +kernel) rfl
theorem twc_320 : Cond.fieldLink "FreePlace" 61 "FreePlace" "book" "LFreePlace$Book;" ∈ fp_T := fp_T_of 320 (by decide +kernel) rfl
theorem twc_262 : Cond.classLink "FreePlace" 65 "FreePlace$Draws" ∈ fp_T := fp_T_of 262 (by decide +kernel) rfl
theorem twc_263 : Cond.instantiable "FreePlace$Draws" 1 ∈ fp_T := fp_T_of 263 (by decide +kernel) rfl
theorem twc_265 : Cond.instanceMethod yX3_init ∈ fp_T := fp_T_of 265 (by decide +kernel) rfl
theorem twc_321 : Cond.fieldLink "FreePlace" 68 "FreePlace" "draws" "LFreePlace$Draws;" ∈ fp_T := fp_T_of 321 (by decide +kernel) rfl
theorem twc_274 : Cond.classLink "FreePlace" 72 "FreePlace$History" ∈ fp_T := fp_T_of 274 (by decide +kernel) rfl
theorem twc_275 : Cond.instantiable "FreePlace$History" 3 ∈ fp_T := fp_T_of 275 (by decide +kernel) rfl
theorem twc_276 : Cond.methodLink "FreePlace" 74 yX4_init ∈ fp_T := fp_T_of 276 (by decide +kernel) rfl
theorem twc_277 : Cond.instanceMethod yX4_init ∈ fp_T := fp_T_of 277 (by decide +kernel) rfl
theorem twc_322 : Cond.fieldLink "FreePlace" 75 "FreePlace" "history" "LFreePlace$History;" ∈ fp_T := fp_T_of 322 (by decide +kernel) rfl
theorem twc_294 : Cond.classLink "FreePlace" 79 "FreePlace$Images" ∈ fp_T := fp_T_of 294 (by decide +kernel) rfl
theorem twc_295 : Cond.instantiable "FreePlace$Images" 3 ∈ fp_T := fp_T_of 295 (by decide +kernel) rfl
theorem twc_296 : Cond.methodLink "FreePlace" 81 yX5_init ∈ fp_T := fp_T_of 296 (by decide +kernel) rfl
theorem twc_297 : Cond.instanceMethod yX5_init ∈ fp_T := fp_T_of 297 (by decide +kernel) rfl
theorem twc_323 : Cond.fieldLink "FreePlace" 82 "FreePlace" "images" "LFreePlace$Images;" ∈ fp_T := fp_T_of 323 (by decide +kernel) rfl
theorem twc_20 : Cond.code yX11_init cX11_init 1 none ∈ fp_T := fp_T_of 20 (by decide +kernel) rfl
theorem twc_1 : Cond.initialized "FreePlace" ∈ fp_T := fp_T_of 1 (by decide +kernel) rfl
/-- an object at k and its row at k + 1 in the making -/
def fp_n2 (G : Nat → ClassId) (B : Nat) (V : Nat → va_E) (k : Nat) (e r : va_E) : Nat → va_E := fun q => if q < k then V q else if q = k then e else if q = k + 1 then r else fp_e G B fp_M0 q
section N2
variable {G : Nat → ClassId} {B k n : Nat} {V : Nat → va_E} {e e' r r' r'' cell : va_E}
theorem fp_n2_row : ∀ q, q < k + 1 + 1 → va_up (fp_nf G B V k e) (k + 1) r q = fp_n2 G B V k e r q := by
  intro q hq
  by_cases h : q = k + 1
  · subst h
    have h1 : ¬ k + 1 < k := by omega
    simp [va_up, fp_n2, h1]
  · by_cases h2 : q < k
    · simp [va_up, fp_n2, fp_nf, h, h2]
    · have h3 : q = k := by omega
      subst h3
      simp [va_up, fp_n2, fp_nf]
theorem fp_n2_push (hk : k + 1 < n) (he : cell = fp_e G B fp_M0 n) : ∀ q, q < n + 1 → va_up (fp_n2 G B V k e r) n cell q = fp_n2 G B V k e r q := by
  intro q _
  by_cases h : q = n
  · subst h
    have h1 : ¬ q < k := by omega
    have h2 : q ≠ k := by omega
    have h3 : q ≠ k + 1 := by omega
    simp [va_up, fp_n2, he, h1, h2, h3]
  · simp [va_up, h]
theorem fp_n2_call {n' : Nat} (hk : k + 1 < n) : ∀ q, q < n' → fp_mix G B (va_up (fp_n2 G B V k e r) n cell) n q = fp_n2 G B V k e r q := by
  intro q _
  by_cases h : q < n
  · simp [fp_mix, h, va_up, Nat.ne_of_lt h]
  · have h1 : ¬ q < k := by omega
    have h2 : q ≠ k := by omega
    have h3 : q ≠ k + 1 := by omega
    simp [fp_mix, h, fp_n2, h1, h2, h3]
theorem fp_n2_put : ∀ q, q < n → va_up (fp_n2 G B V k e r) k e' q = fp_n2 G B V k e' r q := by
  intro q _
  by_cases h : q = k
  · subst h
    simp [va_up, fp_n2]
  · simp [va_up, fp_n2, h]
theorem fp_n2_putr (h : r'' = r') : ∀ q, q < n → va_up (fp_n2 G B V k e r) (k + 1) r'' q = fp_n2 G B V k e r' q := by
  subst h
  intro q _
  by_cases h : q = k + 1
  · subst h
    have h1 : ¬ k + 1 < k := by omega
    simp [va_up, fp_n2, h1]
  · simp [va_up, fp_n2, h]
theorem fp_n2_end (h : e = fp_e G B fp_M0 k) (hr : r = fp_e G B fp_M0 (k + 1)) : ∀ q, q < n → fp_n2 G B V k e r q = fp_mix G B V k q := by
  intro q _
  by_cases h1 : q < k
  · simp [fp_n2, fp_mix, h1]
  · by_cases h2 : q = k
    · subst h2
      simp [fp_n2, fp_mix, h]
    · by_cases h3 : q = k + 1
      · subst h3
        simp [fp_n2, fp_mix, h1, hr]
      · simp [fp_n2, fp_mix, h1, h2, h3]
theorem fp_n2_at : fp_n2 G B V k e r k = e := by simp [fp_n2]
theorem fp_n2_atr : fp_n2 G B V k e r (k + 1) = r := by
  have h1 : ¬ k + 1 < k := by omega
  simp [fp_n2, h1]
theorem fp_n2_hi (h : k + 1 < n) : fp_n2 G B V k e r n = fp_e G B fp_M0 n := by
  have h1 : ¬ n < k := by omega
  have h2 : n ≠ k := by omega
  have h3 : n ≠ k + 1 := by omega
  simp [fp_n2, h1, h2, h3]
end N2
/-- a row of states, i of them made, from the cell b on -/
def fp_rw (G : Nat → ClassId) (B L b i : Nat) : va_E := .inl (G 3, (L, .inr (.inr (.inr (.inr (fun j => if j < i then some (B + (b + 3 * j)) else none))))))
theorem fp_rw_0 {G : Nat → ClassId} {B L b : Nat} : (.inl (G 3, (L, .inr (.inr (.inr (.inr (fun _ => none)))))) : va_E) = fp_rw G B L b 0 := by
  simp [fp_rw]
theorem fp_rw_s {G : Nat → ClassId} {B L b i : Nat} : (.inl (G 3, (L, .inr (.inr (.inr (.inr (va_up (fun j => if j < i then some (B + (b + 3 * j)) else none) i (some (B + (b + 3 * i)))))))) ) : va_E) = fp_rw G B L b (i + 1) := by
  unfold fp_rw
  congr 7
  funext j
  by_cases h : j = i
  · subst h
    simp [va_up]
  · by_cases h2 : j < i
    · have h3 : j < i + 1 := by omega
      simp [va_up, h, h2, h3]
    · have h3 : ¬ j < i + 1 := by omega
      simp [va_up, h, h2, h3]
abbrev rm_X4_init : Room := { frames := 2, cells := 61, slots := 560, locals := 36 }
theorem cv_X4_init : fp_CV yX4_init cX4_init 2 none 0 := ⟨twc_278, twc_11, by decide, by decide +kernel⟩
set_option maxHeartbeats 4000000 in
theorem l_X4_init {p : Program} {l : Launch} {e : Env} {s : State} {m : MethodId} {args : Array Value} {below : List Frame} {meth : Method} {c : Code} {D : va_G} {G : Nat → ClassId} {B : Nat} {V : Nat → va_E} (E : fp_EV p s m args meth c cX4_init 2 RX4 none D G) (hN : fp_NW s) :
    ∀ (d i : Nat), i + d = 20 → ∀ {H : Heap} {locs : List Loc} {ls : Array Slot}, fp_HV D B s (50 + 3 * i) (fp_n2 G B V 48 (.inr (4, [.int 0, .int 0, .ref (B + 49)])) (fp_rw G B 20 50 i)) H locs → lv_has ls 2 [(0, .ref (B + 48)), (1, .int (nI i))] → W p l e rm_X4_init s m args below meth c H locs (1 + 3 * i) (20 + 27 * i) (MQ below (fp_Qc D G B 110 (fp_mix G B V 48)) args s 61 560 (fp_A B)) (F0 m 15 ls []) := by
  have hx := E.1
  have hb := E.2.1
  have hown := E.2.2.2.1
  intro d
  induction d with
  | zero =>
    intro i hi H locs ls hG hl
    obtain rfl : i = 20 := by omega
    refine lv_iload_n hx hb dX4_init_15 rfl (lv_at hl 1 rfl) ?_
    refine lv_bipush (v := nI 20) hx hb dX4_init_16 (by decide) ?_
    refine lv_icmp_ge (tgt := 40) hx hb dX4_init_18 (by decide) (fun q => ?_) (fun q => absurd (nI_le (Nat.le_refl _) (by decide)) q)
    refine W.widen (k := 61) (n := 560) (by decide) (by decide) ?_
    exact fp_retc E hN hG (fp_n2_end rfl rfl) dX4_init_40
  | succ d ih =>
    intro i hi H locs ls hG hl
    have hiL : i < 20 := by omega
    refine lv_iload_n hx hb dX4_init_15 rfl (lv_at hl 1 rfl) ?_
    refine lv_bipush (v := nI 20) hx hb dX4_init_16 (by decide) ?_
    refine lv_icmp_ge (tgt := 40) hx hb dX4_init_18 (by decide) (fun q => absurd q (nI_ge hiL (by decide))) (fun q => ?_)
    refine lv_aload_n hx hb dX4_init_21 rfl (lv_at hl 0 rfl) ?_
    refine fp_getv (k := 48) (ci := 4) (C := RX4) (T := TX4) (N := 3) (v := .ref (B + 49)) E hG fp_u4 (by omega) fp_n2_at rfl 2 (by decide) twc_286 rfl dX4_init_22 ?_
    refine lv_iload_n hx hb dX4_init_25 rfl (lv_at hl 1 rfl) ?_
    refine fp_new (ci := 9) (N := 9) (C := RX9) (T := TX9) (fs := [.null, .null, .int 0, .int 0, .int 0, .int 0, .int 0, .int 0, .int 0]) E hG fp_u9 tyX9 tyX9_ok twc_280 twc_116 twc_4 rfl (fun j hj => by rcases (show j = 0 ∨ j = 1 ∨ j = 2 ∨ j = 3 ∨ j = 4 ∨ j = 5 ∨ j = 6 ∨ j = 7 ∨ j = 8 by omega) with rfl | rfl | rfl | rfl | rfl | rfl | rfl | rfl | rfl <;> rfl) (by show _ ≤ 61; omega) (by show _ ≤ 560; omega) dX4_init_26 (fun H hG => ?_)
    refine lv_dup hx hb dX4_init_29 rfl ?_
    refine fp_callIN (host := "FreePlace") (k := 50 + 3 * i) (n1 := 50 + 3 * i + 3) E hG (c_X9_init l D G B _ (fp_is9_h hiL) (by simp [va_up])) hN cv_X9_init (by decide +kernel) twc_118 rfl ⟨rfl, rfl⟩ ⟨Nat.le_of_ble_eq_true rfl, Nat.le_of_ble_eq_true rfl⟩ (Nat.le_of_ble_eq_true rfl) hl.1 dX4_init_30 ⟨by show _ ≤ 61; omega, by show _ ≤ 560; omega⟩ (fun H locs hG => ?_)
    replace hG := fp_HV_congr (fp_n2_call (by omega)) hG
    refine fp_astq (k := 49) (v := 50 + 3 * i) (L := 20) E hG (by omega) fp_n2_atr (by omega) (by rw [fp_n2_hi (by omega), fp_o9 (fp_is9_h hiL).1]) hiL (by decide) dX4_init_33 (fun H locs hG => ?_)
    replace hG := fp_HV_congr (fp_n2_putr (k := 48) fp_rw_s) hG
    refine lv_iinc (v := nI (i + 1)) (lv' := [(1, .int (nI (i + 1))), (0, .ref (B + 48))]) hx hb dX4_init_34 hl (k := 1) rfl (nI_1 i) (by decide) rfl (fun ls hl => ?_)
    refine lv_goto (tgt := 15) hx hb dX4_init_37 (by decide) ?_
    refine W.widen (k := 1 + 3 * (i + 1)) (n := 20 + 27 * (i + 1)) (by show 1 + 3 * i + 1 + 2 ≤ _; omega) (by show 20 + 27 * i + 9 + 18 ≤ _; omega) ?_
    exact ih (i + 1) (by omega) hG (lv_sub hl [1, 0] rfl)
set_option maxHeartbeats 4000000 in
theorem c_X4_init (l : Launch) (D : va_G) (G : Nat → ClassId) (B : Nat) (V : Nat → va_E) (hV : V 48 = .inr (4, [.int 0, .int 0, .null])) : Met l yX4_init (Cond.code yX4_init cX4_init 2 none :: fp_T) rm_X4_init (va_Pc [.ref (B + 48)] (fp_GV D G B (48 + 1) V)) (fp_Qc D G B 110 (fp_mix G B V 48)) 61 560 (fp_A B) := by
  refine fp_metv (own := RX4) (by decide) rfl (Nat.le_of_ble_eq_true rfl) rfl (fun {p e s m args below meth c ls} E hG hN hin hl => ?_)
  have hx := E.1
  have hb := E.2.1
  have hown := E.2.2.2.1
  have hl : lv_has ls 2 [(0, .ref (B + 48))] := hl
  replace hG := fp_HV_congr (fp_nf_start (G := G) (B := B) hV) hG
  refine lv_aload_n hx hb dX4_init_0 rfl (lv_at hl 0 rfl) ?_
  refine W.objInit hx hb hown (fp_tabs E twc_279) (fp_tabs E twc_22) (fp_tabs E tw_oc) rfl (by rw [E.2.2.1]; exact hl.1) rfl dX4_init_1 (Nat.le_of_ble_eq_true rfl) (Nat.le_of_ble_eq_true rfl) ?_
  refine W.eq (g2 := F0 m 4 ls []) rfl ?_
  refine lv_aload_n hx hb dX4_init_4 rfl (lv_at hl 0 rfl) ?_
  refine lv_bipush (v := nI 20) hx hb dX4_init_5 (by decide) ?_
  refine fp_newa_q (N' := 20) E hG (by decide) twc_280 hN (Nat.le_of_ble_eq_true rfl) (Nat.le_of_ble_eq_true rfl) dX4_init_7 (fun H hG => ?_)
  rw [fp_rw_0 (b := 50)] at hG
  replace hG := fp_HV_congr (fp_n2_row (k := 48)) hG
  refine fp_putFv (k := 48) (v := .ref (B + 49)) (ty := (.array (.object "FreePlace$State"))) E hG fp_u4 tyX4 tyX4_ok nmX4 (by omega) fp_n2_at rfl 2 (by decide) twc_286 rfl hin rfl (by decide +kernel) rfl rfl (Nat.le_of_ble_eq_true rfl) dX4_init_10 (fun H locs hG => ?_)
  replace hG := fp_HV_congr (V' := fp_n2 G B V 48 (.inr (4, [.int 0, .int 0, .ref (B + 49)])) (fp_rw G B 20 50 0)) (fp_n2_put (n := _)) hG
  refine lv_iconst (v := nI 0) hx hb dX4_init_13 (by decide) ?_
  refine lv_istore_n (lv' := [(1, .int (nI 0)), (0, .ref (B + 48))]) hx hb dX4_init_14 rfl hl (by decide) rfl (fun ls hl => ?_)
  exact l_X4_init E hN 20 0 rfl hG (lv_sub hl [1, 0] rfl)
abbrev rm_X5_init : Room := { frames := 2, cells := 9, slots := 60, locals := 36 }
theorem cv_X5_init : fp_CV yX5_init cX5_init 2 none 0 := ⟨twc_298, twc_12, by decide, by decide +kernel⟩
set_option maxHeartbeats 4000000 in
theorem l_X5_init {p : Program} {l : Launch} {e : Env} {s : State} {m : MethodId} {args : Array Value} {below : List Frame} {meth : Method} {c : Code} {D : va_G} {G : Nat → ClassId} {B : Nat} {V : Nat → va_E} (E : fp_EV p s m args meth c cX5_init 2 RX5 none D G) (hN : fp_NW s) :
    ∀ (d i : Nat), i + d = 2 → ∀ {H : Heap} {locs : List Loc} {ls : Array Slot}, fp_HV D B s (114 + 3 * i) (fp_n2 G B V 110 (.inr (5, [.ref (B + 111), .ref (B + 112), .ref (B + 113)])) (fp_rw G B 2 114 i)) H locs → lv_has ls 2 [(0, .ref (B + 110)), (1, .int (nI i))] → W p l e rm_X5_init s m args below meth c H locs (3 + 3 * i) (6 + 27 * i) (MQ below (fp_Qc D G B 120 (fp_mix G B V 110)) args s 9 60 (fp_A B)) (F0 m 28 ls []) := by
  have hx := E.1
  have hb := E.2.1
  have hown := E.2.2.2.1
  intro d
  induction d with
  | zero =>
    intro i hi H locs ls hG hl
    obtain rfl : i = 2 := by omega
    refine lv_iload_n hx hb dX5_init_28 rfl (lv_at hl 1 rfl) ?_
    refine lv_iconst (v := nI 2) hx hb dX5_init_29 (by decide) ?_
    refine lv_icmp_ge (tgt := 52) hx hb dX5_init_30 (by decide) (fun q => ?_) (fun q => absurd (nI_le (Nat.le_refl _) (by decide)) q)
    refine W.widen (k := 9) (n := 60) (by decide) (by decide) ?_
    exact fp_retc E hN hG (fp_n2_end rfl rfl) dX5_init_52
  | succ d ih =>
    intro i hi H locs ls hG hl
    have hiL : i < 2 := by omega
    refine lv_iload_n hx hb dX5_init_28 rfl (lv_at hl 1 rfl) ?_
    refine lv_iconst (v := nI 2) hx hb dX5_init_29 (by decide) ?_
    refine lv_icmp_ge (tgt := 52) hx hb dX5_init_30 (by decide) (fun q => absurd q (nI_ge hiL (by decide))) (fun q => ?_)
    refine lv_aload_n hx hb dX5_init_33 rfl (lv_at hl 0 rfl) ?_
    refine fp_getv (k := 110) (ci := 5) (C := RX5) (T := TX5) (N := 3) (v := .ref (B + 111)) E hG fp_u5 (by omega) fp_n2_at rfl 0 (by decide) twc_302 rfl dX5_init_34 ?_
    refine lv_iload_n hx hb dX5_init_37 rfl (lv_at hl 1 rfl) ?_
    refine fp_new (ci := 9) (N := 9) (C := RX9) (T := TX9) (fs := [.null, .null, .int 0, .int 0, .int 0, .int 0, .int 0, .int 0, .int 0]) E hG fp_u9 tyX9 tyX9_ok twc_300 twc_116 twc_4 rfl (fun j hj => by rcases (show j = 0 ∨ j = 1 ∨ j = 2 ∨ j = 3 ∨ j = 4 ∨ j = 5 ∨ j = 6 ∨ j = 7 ∨ j = 8 by omega) with rfl | rfl | rfl | rfl | rfl | rfl | rfl | rfl | rfl <;> rfl) (by show _ ≤ 9; omega) (by show _ ≤ 60; omega) dX5_init_38 (fun H hG => ?_)
    refine lv_dup hx hb dX5_init_41 rfl ?_
    refine fp_callIN (host := "FreePlace") (k := 114 + 3 * i) (n1 := 114 + 3 * i + 3) E hG (c_X9_init l D G B _ (fp_is9_i hiL) (by simp [va_up])) hN cv_X9_init (by decide +kernel) twc_118 rfl ⟨rfl, rfl⟩ ⟨Nat.le_of_ble_eq_true rfl, Nat.le_of_ble_eq_true rfl⟩ (Nat.le_of_ble_eq_true rfl) hl.1 dX5_init_42 ⟨by show _ ≤ 9; omega, by show _ ≤ 60; omega⟩ (fun H locs hG => ?_)
    replace hG := fp_HV_congr (fp_n2_call (by omega)) hG
    refine fp_astq (k := 111) (v := 114 + 3 * i) (L := 2) E hG (by omega) fp_n2_atr (by omega) (by rw [fp_n2_hi (by omega), fp_o9 (fp_is9_i hiL).1]) hiL (by decide) dX5_init_45 (fun H locs hG => ?_)
    replace hG := fp_HV_congr (fp_n2_putr (k := 110) fp_rw_s) hG
    refine lv_iinc (v := nI (i + 1)) (lv' := [(1, .int (nI (i + 1))), (0, .ref (B + 110))]) hx hb dX5_init_46 hl (k := 1) rfl (nI_1 i) (by decide) rfl (fun ls hl => ?_)
    refine lv_goto (tgt := 28) hx hb dX5_init_49 (by decide) ?_
    refine W.widen (k := 3 + 3 * (i + 1)) (n := 6 + 27 * (i + 1)) (by show 3 + 3 * i + 1 + 2 ≤ _; omega) (by show 6 + 27 * i + 9 + 18 ≤ _; omega) ?_
    exact ih (i + 1) (by omega) hG (lv_sub hl [1, 0] rfl)
set_option maxHeartbeats 4000000 in
theorem c_X5_init (l : Launch) (D : va_G) (G : Nat → ClassId) (B : Nat) (V : Nat → va_E) (hV : V 110 = .inr (5, [.null, .null, .null])) : Met l yX5_init (Cond.code yX5_init cX5_init 2 none :: fp_T) rm_X5_init (va_Pc [.ref (B + 110)] (fp_GV D G B (110 + 1) V)) (fp_Qc D G B 120 (fp_mix G B V 110)) 9 60 (fp_A B) := by
  refine fp_metv (own := RX5) (by decide) rfl (Nat.le_of_ble_eq_true rfl) rfl (fun {p e s m args below meth c ls} E hG hN hin hl => ?_)
  have hx := E.1
  have hb := E.2.1
  have hown := E.2.2.2.1
  have hl : lv_has ls 2 [(0, .ref (B + 110))] := hl
  replace hG := fp_HV_congr (fp_nf_start (G := G) (B := B) hV) hG
  refine lv_aload_n hx hb dX5_init_0 rfl (lv_at hl 0 rfl) ?_
  refine W.objInit hx hb hown (fp_tabs E twc_299) (fp_tabs E twc_22) (fp_tabs E tw_oc) rfl (by rw [E.2.2.1]; exact hl.1) rfl dX5_init_1 (Nat.le_of_ble_eq_true rfl) (Nat.le_of_ble_eq_true rfl) ?_
  refine W.eq (g2 := F0 m 4 ls []) rfl ?_
  refine lv_aload_n hx hb dX5_init_4 rfl (lv_at hl 0 rfl) ?_
  refine lv_iconst (v := nI 2) hx hb dX5_init_5 (by decide) ?_
  refine fp_newa_q (N' := 2) E hG (by decide) twc_300 hN (Nat.le_of_ble_eq_true rfl) (Nat.le_of_ble_eq_true rfl) dX5_init_6 (fun H hG => ?_)
  rw [fp_rw_0 (b := 114)] at hG
  replace hG := fp_HV_congr (fp_n2_row (k := 110)) hG
  refine fp_putFv (k := 110) (v := .ref (B + 111)) (ty := (.array (.object "FreePlace$State"))) E hG fp_u5 tyX5 tyX5_ok nmX5 (by omega) fp_n2_at rfl 0 (by decide) twc_302 rfl hin rfl (by decide +kernel) rfl rfl (Nat.le_of_ble_eq_true rfl) dX5_init_9 (fun H locs hG => ?_)
  replace hG := fp_HV_congr (V' := fp_n2 G B V 110 (.inr (5, [.ref (B + 111), .null, .null])) (fp_rw G B 2 114 0)) (fp_n2_put (n := _)) hG
  refine lv_aload_n hx hb dX5_init_12 rfl (lv_at hl 0 rfl) ?_
  refine lv_iconst (v := nI 2) hx hb dX5_init_13 (by decide) ?_
  refine fp_newa_i (N' := 2) E hG (by decide) tw_ar_int (Nat.le_of_ble_eq_true rfl) (Nat.le_of_ble_eq_true rfl) dX5_init_14 (fun H hG => ?_)
  replace hG := fp_HV_congr (fp_n2_push (by omega) (by rw [fp_a26 fp_cc112, fp_M0_arr fp_cc112 (by decide)])) hG
  refine fp_putFv (k := 110) (v := .ref (B + 112)) (ty := (.array .int)) E hG fp_u5 tyX5 tyX5_ok nmX5 (by omega) fp_n2_at rfl 1 (by decide) twc_303 rfl hin rfl (by decide +kernel) rfl rfl (Nat.le_of_ble_eq_true rfl) dX5_init_16 (fun H locs hG => ?_)
  replace hG := fp_HV_congr (V' := fp_n2 G B V 110 (.inr (5, [.ref (B + 111), .ref (B + 112), .null])) (fp_rw G B 2 114 0)) (fp_n2_put (n := _)) hG
  refine lv_aload_n hx hb dX5_init_19 rfl (lv_at hl 0 rfl) ?_
  refine lv_iconst (v := nI 2) hx hb dX5_init_20 (by decide) ?_
  refine fp_newa_z (N' := 2) E hG (by decide) tw_ar_boolean (Nat.le_of_ble_eq_true rfl) (Nat.le_of_ble_eq_true rfl) dX5_init_21 (fun H hG => ?_)
  replace hG := fp_HV_congr (fp_n2_push (by omega) (by rw [fp_a27 fp_cc113, fp_M0_arr fp_cc113 (by decide)])) hG
  refine fp_putFv (k := 110) (v := .ref (B + 113)) (ty := (.array .boolean)) E hG fp_u5 tyX5 tyX5_ok nmX5 (by omega) fp_n2_at rfl 2 (by decide) twc_304 rfl hin rfl (by decide +kernel) rfl rfl (Nat.le_of_ble_eq_true rfl) dX5_init_23 (fun H locs hG => ?_)
  replace hG := fp_HV_congr (V' := fp_n2 G B V 110 (.inr (5, [.ref (B + 111), .ref (B + 112), .ref (B + 113)])) (fp_rw G B 2 114 0)) (fp_n2_put (n := _)) hG
  refine lv_iconst (v := nI 0) hx hb dX5_init_26 (by decide) ?_
  refine lv_istore_n (lv' := [(1, .int (nI 0)), (0, .ref (B + 110))]) hx hb dX5_init_27 rfl hl (by decide) rfl (fun ls hl => ?_)
  exact l_X5_init E hN 2 0 rfl hG (lv_sub hl [1, 0] rfl)
abbrev rm_X11_init : Room := { frames := 4, cells := 119, slots := 1253, locals := 76 }
theorem cv_X11_init : fp_CV yX11_init cX11_init 1 none 0 := ⟨twc_20, twc_1, by decide, by decide +kernel⟩
set_option maxHeartbeats 4000000 in
theorem c_X11_init (l : Launch) (D : va_G) (G : Nat → ClassId) (B : Nat) (V : Nat → va_E) (hV : V 0 = .inr (11, [.null, .null, .null, .null, .null, .null, .null, .null, .null, .null, .null])) : Met l yX11_init (Cond.code yX11_init cX11_init 1 none :: fp_T) rm_X11_init (va_Pc [.ref (B + 0)] (fp_GV D G B (0 + 1) V)) (fp_Qc D G B 120 (fp_mix G B V 0)) 119 1253 (fp_A B) := by
  refine fp_metv (own := RX11) (by decide) rfl (Nat.le_of_ble_eq_true rfl) rfl (fun {p e s m args below meth c ls} E hG hN hin hl => ?_)
  have hx := E.1
  have hb := E.2.1
  have hown := E.2.2.2.1
  have hl : lv_has ls 1 [(0, .ref (B + 0))] := hl
  replace hG := fp_HV_congr (fp_nf_start (G := G) (B := B) hV) hG
  refine lv_aload_n hx hb dX11_init_0 rfl (lv_at hl 0 rfl) ?_
  refine W.objInit hx hb hown (fp_tabs E twc_21) (fp_tabs E twc_22) (fp_tabs E tw_oc) rfl (by rw [E.2.2.1]; exact hl.1) rfl dX11_init_1 (Nat.le_of_ble_eq_true rfl) (Nat.le_of_ble_eq_true rfl) ?_
  refine W.eq (g2 := F0 m 4 ls []) rfl ?_
  refine lv_aload_n hx hb dX11_init_4 rfl (lv_at hl 0 rfl) ?_
  refine fp_new (ci := 6) (N := 7) (C := RX6) (T := TX6) (fs := [.null, .null, .int 0, .int 0, .int 0, .int 0, .int 0]) E hG fp_u6 tyX6 tyX6_ok twc_24 twc_25 twc_2 rfl (fun j hj => by rcases (show j = 0 ∨ j = 1 ∨ j = 2 ∨ j = 3 ∨ j = 4 ∨ j = 5 ∨ j = 6 by omega) with rfl | rfl | rfl | rfl | rfl | rfl | rfl <;> rfl) (Nat.le_of_ble_eq_true rfl) (Nat.le_of_ble_eq_true rfl) dX11_init_5 (fun H hG => ?_)
  refine lv_dup hx hb dX11_init_8 rfl ?_
  refine fp_callIN (host := "FreePlace") (k := 1) (n1 := 8) E hG (c_X6_init l D G B _ (by simp [va_up])) hN cv_X6_init (by decide +kernel) twc_27 rfl ⟨rfl, rfl⟩ ⟨Nat.le_of_ble_eq_true rfl, Nat.le_of_ble_eq_true rfl⟩ (Nat.le_of_ble_eq_true rfl) hl.1 dX11_init_9 ⟨Nat.le_of_ble_eq_true rfl, Nat.le_of_ble_eq_true rfl⟩ (fun H locs hG => ?_)
  replace hG := fp_HV_congr (fp_nf_call (by omega)) hG
  refine fp_putFv (v := .ref (B + 1)) (ty := (.object "FreePlace$Reader")) E hG fp_u11 tyX11 tyX11_ok nmX11 (by omega) fp_nf_at rfl 0 (by decide) twc_313 rfl hin rfl (by decide +kernel) rfl rfl (Nat.le_of_ble_eq_true rfl) dX11_init_12 (fun H locs hG => ?_)
  replace hG := fp_HV_congr (V' := (fp_nf G B V 0 (.inr (11, [.ref (B + 1), .null, .null, .null, .null, .null, .null, .null, .null, .null, .null])))) (fp_nf_put (n := _)) hG
  refine lv_aload_n hx hb dX11_init_15 rfl (lv_at hl 0 rfl) ?_
  refine fp_new (ci := 7) (N := 9) (C := RX7) (T := TX7) (fs := [.int 0, .int 0, .int 0, .int 0, .int 0, .null, .null, .null, .null]) E hG fp_u7 tyX7 tyX7_ok twc_113 twc_31 twc_3 rfl (fun j hj => by rcases (show j = 0 ∨ j = 1 ∨ j = 2 ∨ j = 3 ∨ j = 4 ∨ j = 5 ∨ j = 6 ∨ j = 7 ∨ j = 8 by omega) with rfl | rfl | rfl | rfl | rfl | rfl | rfl | rfl | rfl <;> rfl) (Nat.le_of_ble_eq_true rfl) (Nat.le_of_ble_eq_true rfl) dX11_init_16 (fun H hG => ?_)
  refine lv_dup hx hb dX11_init_19 rfl ?_
  refine fp_callIN (host := "FreePlace") (k := 8) (n1 := 13) E hG (c_X7_init l D G B _ fp_is7_8 (by simp [va_up])) hN cv_X7_init (by decide +kernel) twc_33 rfl ⟨rfl, rfl⟩ ⟨Nat.le_of_ble_eq_true rfl, Nat.le_of_ble_eq_true rfl⟩ (Nat.le_of_ble_eq_true rfl) hl.1 dX11_init_20 ⟨Nat.le_of_ble_eq_true rfl, Nat.le_of_ble_eq_true rfl⟩ (fun H locs hG => ?_)
  replace hG := fp_HV_congr (fp_nf_call (by omega)) hG
  refine fp_putFv (v := .ref (B + 8)) (ty := (.object "FreePlace$Realm")) E hG fp_u11 tyX11 tyX11_ok nmX11 (by omega) fp_nf_at rfl 1 (by decide) twc_314 rfl hin rfl (by decide +kernel) rfl rfl (Nat.le_of_ble_eq_true rfl) dX11_init_23 (fun H locs hG => ?_)
  replace hG := fp_HV_congr (V' := (fp_nf G B V 0 (.inr (11, [.ref (B + 1), .ref (B + 8), .null, .null, .null, .null, .null, .null, .null, .null, .null])))) (fp_nf_put (n := _)) hG
  refine lv_aload_n hx hb dX11_init_26 rfl (lv_at hl 0 rfl) ?_
  refine fp_new (ci := 9) (N := 9) (C := RX9) (T := TX9) (fs := [.null, .null, .int 0, .int 0, .int 0, .int 0, .int 0, .int 0, .int 0]) E hG fp_u9 tyX9 tyX9_ok twc_115 twc_116 twc_4 rfl (fun j hj => by rcases (show j = 0 ∨ j = 1 ∨ j = 2 ∨ j = 3 ∨ j = 4 ∨ j = 5 ∨ j = 6 ∨ j = 7 ∨ j = 8 by omega) with rfl | rfl | rfl | rfl | rfl | rfl | rfl | rfl | rfl <;> rfl) (Nat.le_of_ble_eq_true rfl) (Nat.le_of_ble_eq_true rfl) dX11_init_27 (fun H hG => ?_)
  refine lv_dup hx hb dX11_init_30 rfl ?_
  refine fp_callIN (host := "FreePlace") (k := 13) (n1 := 16) E hG (c_X9_init l D G B _ fp_is9_13 (by simp [va_up])) hN cv_X9_init (by decide +kernel) twc_118 rfl ⟨rfl, rfl⟩ ⟨Nat.le_of_ble_eq_true rfl, Nat.le_of_ble_eq_true rfl⟩ (Nat.le_of_ble_eq_true rfl) hl.1 dX11_init_31 ⟨Nat.le_of_ble_eq_true rfl, Nat.le_of_ble_eq_true rfl⟩ (fun H locs hG => ?_)
  replace hG := fp_HV_congr (fp_nf_call (by omega)) hG
  refine fp_putFv (v := .ref (B + 13)) (ty := (.object "FreePlace$State")) E hG fp_u11 tyX11 tyX11_ok nmX11 (by omega) fp_nf_at rfl 2 (by decide) twc_315 rfl hin rfl (by decide +kernel) rfl rfl (Nat.le_of_ble_eq_true rfl) dX11_init_34 (fun H locs hG => ?_)
  replace hG := fp_HV_congr (V' := (fp_nf G B V 0 (.inr (11, [.ref (B + 1), .ref (B + 8), .ref (B + 13), .null, .null, .null, .null, .null, .null, .null, .null])))) (fp_nf_put (n := _)) hG
  refine lv_aload_n hx hb dX11_init_37 rfl (lv_at hl 0 rfl) ?_
  refine fp_new (ci := 2) (N := 5) (C := RX2) (T := TX2) (fs := [.int 0, .null, .null, .null, .null]) E hG fp_u2 tyX2 tyX2_ok twc_168 twc_169 twc_5 rfl (fun j hj => by rcases (show j = 0 ∨ j = 1 ∨ j = 2 ∨ j = 3 ∨ j = 4 by omega) with rfl | rfl | rfl | rfl | rfl <;> rfl) (Nat.le_of_ble_eq_true rfl) (Nat.le_of_ble_eq_true rfl) dX11_init_38 (fun H hG => ?_)
  refine lv_dup hx hb dX11_init_41 rfl ?_
  refine fp_callIN (host := "FreePlace") (k := 16) (n1 := 21) E hG (c_X2_init l D G B _ fp_is2_16 (by simp [va_up])) hN cv_X2_init (by decide +kernel) twc_171 rfl ⟨rfl, rfl⟩ ⟨Nat.le_of_ble_eq_true rfl, Nat.le_of_ble_eq_true rfl⟩ (Nat.le_of_ble_eq_true rfl) hl.1 dX11_init_42 ⟨Nat.le_of_ble_eq_true rfl, Nat.le_of_ble_eq_true rfl⟩ (fun H locs hG => ?_)
  replace hG := fp_HV_congr (fp_nf_call (by omega)) hG
  refine fp_putFv (v := .ref (B + 16)) (ty := (.object "FreePlace$Chains")) E hG fp_u11 tyX11 tyX11_ok nmX11 (by omega) fp_nf_at rfl 3 (by decide) twc_316 rfl hin rfl (by decide +kernel) rfl rfl (Nat.le_of_ble_eq_true rfl) dX11_init_45 (fun H locs hG => ?_)
  replace hG := fp_HV_congr (V' := (fp_nf G B V 0 (.inr (11, [.ref (B + 1), .ref (B + 8), .ref (B + 13), .ref (B + 16), .null, .null, .null, .null, .null, .null, .null])))) (fp_nf_put (n := _)) hG
  refine lv_aload_n hx hb dX11_init_48 rfl (lv_at hl 0 rfl) ?_
  refine fp_new (ci := 0) (N := 1) (C := RX0) (T := TX0) (fs := [.null]) E hG fp_u0 tyX0 tyX0_ok twc_191 twc_192 twc_6 rfl (fun j hj => by rcases (show j = 0 by omega) with rfl <;> rfl) (Nat.le_of_ble_eq_true rfl) (Nat.le_of_ble_eq_true rfl) dX11_init_49 (fun H hG => ?_)
  refine lv_dup hx hb dX11_init_52 rfl ?_
  refine fp_callIN (host := "FreePlace") (k := 21) (n1 := 27) E hG (c_X0_init l D G B _ fp_is0_21 (by simp [va_up])) hN cv_X0_init (by decide +kernel) twc_194 rfl ⟨rfl, rfl⟩ ⟨Nat.le_of_ble_eq_true rfl, Nat.le_of_ble_eq_true rfl⟩ (Nat.le_of_ble_eq_true rfl) hl.1 dX11_init_53 ⟨Nat.le_of_ble_eq_true rfl, Nat.le_of_ble_eq_true rfl⟩ (fun H locs hG => ?_)
  replace hG := fp_HV_congr (fp_nf_call (by omega)) hG
  refine fp_putFv (v := .ref (B + 21)) (ty := (.object "FreePlace$Acts")) E hG fp_u11 tyX11 tyX11_ok nmX11 (by omega) fp_nf_at rfl 4 (by decide) twc_317 rfl hin rfl (by decide +kernel) rfl rfl (Nat.le_of_ble_eq_true rfl) dX11_init_56 (fun H locs hG => ?_)
  replace hG := fp_HV_congr (V' := (fp_nf G B V 0 (.inr (11, [.ref (B + 1), .ref (B + 8), .ref (B + 13), .ref (B + 16), .ref (B + 21), .null, .null, .null, .null, .null, .null])))) (fp_nf_put (n := _)) hG
  refine lv_aload_n hx hb dX11_init_59 rfl (lv_at hl 0 rfl) ?_
  refine fp_new (ci := 10) (N := 4) (C := RX10) (T := TX10) (fs := [.null, .null, .null, .null]) E hG fp_u10 tyX10 tyX10_ok twc_203 twc_204 twc_7 rfl (fun j hj => by rcases (show j = 0 ∨ j = 1 ∨ j = 2 ∨ j = 3 by omega) with rfl | rfl | rfl | rfl <;> rfl) (Nat.le_of_ble_eq_true rfl) (Nat.le_of_ble_eq_true rfl) dX11_init_60 (fun H hG => ?_)
  refine lv_dup hx hb dX11_init_63 rfl ?_
  refine fp_callIN (host := "FreePlace") (k := 27) (n1 := 43) E hG (c_X10_init l D G B _ (by simp [va_up])) hN cv_X10_init (by decide +kernel) twc_206 rfl ⟨rfl, rfl⟩ ⟨Nat.le_of_ble_eq_true rfl, Nat.le_of_ble_eq_true rfl⟩ (Nat.le_of_ble_eq_true rfl) hl.1 dX11_init_64 ⟨Nat.le_of_ble_eq_true rfl, Nat.le_of_ble_eq_true rfl⟩ (fun H locs hG => ?_)
  replace hG := fp_HV_congr (fp_nf_call (by omega)) hG
  refine fp_putFv (v := .ref (B + 27)) (ty := (.object "FreePlace$Trials")) E hG fp_u11 tyX11 tyX11_ok nmX11 (by omega) fp_nf_at rfl 5 (by decide) twc_318 rfl hin rfl (by decide +kernel) rfl rfl (Nat.le_of_ble_eq_true rfl) dX11_init_67 (fun H locs hG => ?_)
  replace hG := fp_HV_congr (V' := (fp_nf G B V 0 (.inr (11, [.ref (B + 1), .ref (B + 8), .ref (B + 13), .ref (B + 16), .ref (B + 21), .ref (B + 27), .null, .null, .null, .null, .null])))) (fp_nf_put (n := _)) hG
  refine lv_aload_n hx hb dX11_init_70 rfl (lv_at hl 0 rfl) ?_
  refine fp_new (ci := 8) (N := 3) (C := RX8) (T := TX8) (fs := [.int 0, .int 0, .int 0]) E hG fp_u8 tyX8 tyX8_ok twc_228 twc_229 twc_8 rfl (fun j hj => by rcases (show j = 0 ∨ j = 1 ∨ j = 2 by omega) with rfl | rfl | rfl <;> rfl) (Nat.le_of_ble_eq_true rfl) (Nat.le_of_ble_eq_true rfl) dX11_init_71 (fun H hG => ?_)
  refine lv_dup hx hb dX11_init_74 rfl ?_
  refine fp_callIN (host := "FreePlace") (k := 43) (n1 := 44) E hG (c_X8_init l D G B _ (by simp [va_up])) hN cv_X8_init (by decide +kernel) twc_231 rfl ⟨rfl, rfl⟩ ⟨Nat.le_of_ble_eq_true rfl, Nat.le_of_ble_eq_true rfl⟩ (Nat.le_of_ble_eq_true rfl) hl.1 dX11_init_75 ⟨Nat.le_of_ble_eq_true rfl, Nat.le_of_ble_eq_true rfl⟩ (fun H locs hG => ?_)
  replace hG := fp_HV_congr (fp_nf_call (by omega)) hG
  refine fp_putFv (v := .ref (B + 43)) (ty := (.object "FreePlace$Sights")) E hG fp_u11 tyX11 tyX11_ok nmX11 (by omega) fp_nf_at rfl 6 (by decide) twc_319 rfl hin rfl (by decide +kernel) rfl rfl (Nat.le_of_ble_eq_true rfl) dX11_init_78 (fun H locs hG => ?_)
  replace hG := fp_HV_congr (V' := (fp_nf G B V 0 (.inr (11, [.ref (B + 1), .ref (B + 8), .ref (B + 13), .ref (B + 16), .ref (B + 21), .ref (B + 27), .ref (B + 43), .null, .null, .null, .null])))) (fp_nf_put (n := _)) hG
  refine lv_aload_n hx hb dX11_init_81 rfl (lv_at hl 0 rfl) ?_
  refine fp_new (ci := 1) (N := 3) (C := RX1) (T := TX1) (fs := [.int 0, .null, .null]) E hG fp_u1 tyX1 tyX1_ok twc_245 twc_246 twc_9 rfl (fun j hj => by rcases (show j = 0 ∨ j = 1 ∨ j = 2 by omega) with rfl | rfl | rfl <;> rfl) (Nat.le_of_ble_eq_true rfl) (Nat.le_of_ble_eq_true rfl) dX11_init_82 (fun H hG => ?_)
  refine lv_dup hx hb dX11_init_85 rfl ?_
  refine fp_callIN (host := "FreePlace") (k := 44) (n1 := 47) E hG (c_X1_init l D G B _ (by simp [va_up])) hN cv_X1_init (by decide +kernel) twc_248 rfl ⟨rfl, rfl⟩ ⟨Nat.le_of_ble_eq_true rfl, Nat.le_of_ble_eq_true rfl⟩ (Nat.le_of_ble_eq_true rfl) hl.1 dX11_init_86 ⟨Nat.le_of_ble_eq_true rfl, Nat.le_of_ble_eq_true rfl⟩ (fun H locs hG => ?_)
  replace hG := fp_HV_congr (fp_nf_call (by omega)) hG
  refine fp_putFv (v := .ref (B + 44)) (ty := (.object "FreePlace$Book")) E hG fp_u11 tyX11 tyX11_ok nmX11 (by omega) fp_nf_at rfl 7 (by decide) twc_320 rfl hin rfl (by decide +kernel) rfl rfl (Nat.le_of_ble_eq_true rfl) dX11_init_89 (fun H locs hG => ?_)
  replace hG := fp_HV_congr (V' := (fp_nf G B V 0 (.inr (11, [.ref (B + 1), .ref (B + 8), .ref (B + 13), .ref (B + 16), .ref (B + 21), .ref (B + 27), .ref (B + 43), .ref (B + 44), .null, .null, .null])))) (fp_nf_put (n := _)) hG
  refine lv_aload_n hx hb dX11_init_92 rfl (lv_at hl 0 rfl) ?_
  refine fp_new (ci := 3) (N := 1) (C := RX3) (T := TX3) (fs := [.int 0]) E hG fp_u3 tyX3 tyX3_ok twc_262 twc_263 twc_10 rfl (fun j hj => by rcases (show j = 0 by omega) with rfl <;> rfl) (Nat.le_of_ble_eq_true rfl) (Nat.le_of_ble_eq_true rfl) dX11_init_93 (fun H hG => ?_)
  refine lv_dup hx hb dX11_init_96 rfl ?_
  refine fp_callIN (host := "FreePlace") (k := 47) (n1 := 48) E hG (c_X3_init l D G B _ (by simp [va_up])) hN cv_X3_init (by decide +kernel) twc_265 rfl ⟨rfl, rfl⟩ ⟨Nat.le_of_ble_eq_true rfl, Nat.le_of_ble_eq_true rfl⟩ (Nat.le_of_ble_eq_true rfl) hl.1 dX11_init_97 ⟨Nat.le_of_ble_eq_true rfl, Nat.le_of_ble_eq_true rfl⟩ (fun H locs hG => ?_)
  replace hG := fp_HV_congr (fp_nf_call (by omega)) hG
  refine fp_putFv (v := .ref (B + 47)) (ty := (.object "FreePlace$Draws")) E hG fp_u11 tyX11 tyX11_ok nmX11 (by omega) fp_nf_at rfl 8 (by decide) twc_321 rfl hin rfl (by decide +kernel) rfl rfl (Nat.le_of_ble_eq_true rfl) dX11_init_100 (fun H locs hG => ?_)
  replace hG := fp_HV_congr (V' := (fp_nf G B V 0 (.inr (11, [.ref (B + 1), .ref (B + 8), .ref (B + 13), .ref (B + 16), .ref (B + 21), .ref (B + 27), .ref (B + 43), .ref (B + 44), .ref (B + 47), .null, .null])))) (fp_nf_put (n := _)) hG
  refine lv_aload_n hx hb dX11_init_103 rfl (lv_at hl 0 rfl) ?_
  refine fp_new (ci := 4) (N := 3) (C := RX4) (T := TX4) (fs := [.int 0, .int 0, .null]) E hG fp_u4 tyX4 tyX4_ok twc_274 twc_275 twc_11 rfl (fun j hj => by rcases (show j = 0 ∨ j = 1 ∨ j = 2 by omega) with rfl | rfl | rfl <;> rfl) (Nat.le_of_ble_eq_true rfl) (Nat.le_of_ble_eq_true rfl) dX11_init_104 (fun H hG => ?_)
  refine lv_dup hx hb dX11_init_107 rfl ?_
  refine fp_callI (host := "") (k := 48) (n1 := 110) E hG (c_X4_init l D G B _ (by simp [va_up])) hN cv_X4_init twc_276 twc_277 rfl ⟨rfl, rfl⟩ ⟨Nat.le_of_ble_eq_true rfl, Nat.le_of_ble_eq_true rfl⟩ (Nat.le_of_ble_eq_true rfl) hl.1 dX11_init_108 ⟨Nat.le_of_ble_eq_true rfl, Nat.le_of_ble_eq_true rfl⟩ (fun H locs hG => ?_)
  replace hG := fp_HV_congr (fp_nf_call (by omega)) hG
  refine fp_putFv (v := .ref (B + 48)) (ty := (.object "FreePlace$History")) E hG fp_u11 tyX11 tyX11_ok nmX11 (by omega) fp_nf_at rfl 9 (by decide) twc_322 rfl hin rfl (by decide +kernel) rfl rfl (Nat.le_of_ble_eq_true rfl) dX11_init_111 (fun H locs hG => ?_)
  replace hG := fp_HV_congr (V' := (fp_nf G B V 0 (.inr (11, [.ref (B + 1), .ref (B + 8), .ref (B + 13), .ref (B + 16), .ref (B + 21), .ref (B + 27), .ref (B + 43), .ref (B + 44), .ref (B + 47), .ref (B + 48), .null])))) (fp_nf_put (n := _)) hG
  refine lv_aload_n hx hb dX11_init_114 rfl (lv_at hl 0 rfl) ?_
  refine fp_new (ci := 5) (N := 3) (C := RX5) (T := TX5) (fs := [.null, .null, .null]) E hG fp_u5 tyX5 tyX5_ok twc_294 twc_295 twc_12 rfl (fun j hj => by rcases (show j = 0 ∨ j = 1 ∨ j = 2 by omega) with rfl | rfl | rfl <;> rfl) (Nat.le_of_ble_eq_true rfl) (Nat.le_of_ble_eq_true rfl) dX11_init_115 (fun H hG => ?_)
  refine lv_dup hx hb dX11_init_118 rfl ?_
  refine fp_callI (host := "") (k := 110) (n1 := 120) E hG (c_X5_init l D G B _ (by simp [va_up])) hN cv_X5_init twc_296 twc_297 rfl ⟨rfl, rfl⟩ ⟨Nat.le_of_ble_eq_true rfl, Nat.le_of_ble_eq_true rfl⟩ (Nat.le_of_ble_eq_true rfl) hl.1 dX11_init_119 ⟨Nat.le_of_ble_eq_true rfl, Nat.le_of_ble_eq_true rfl⟩ (fun H locs hG => ?_)
  replace hG := fp_HV_congr (fp_nf_call (by omega)) hG
  refine fp_putFv (v := .ref (B + 110)) (ty := (.object "FreePlace$Images")) E hG fp_u11 tyX11 tyX11_ok nmX11 (by omega) fp_nf_at rfl 10 (by decide) twc_323 rfl hin rfl (by decide +kernel) rfl rfl (Nat.le_of_ble_eq_true rfl) dX11_init_122 (fun H locs hG => ?_)
  replace hG := fp_HV_congr (V' := (fp_nf G B V 0 (.inr (11, [.ref (B + 1), .ref (B + 8), .ref (B + 13), .ref (B + 16), .ref (B + 21), .ref (B + 27), .ref (B + 43), .ref (B + 44), .ref (B + 47), .ref (B + 48), .ref (B + 110)])))) (fp_nf_put (n := _)) hG
  exact fp_retc E hN hG (fp_nf_end rfl) dX11_init_125

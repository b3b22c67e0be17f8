-- its head is the printed skeleton's (a starting text)
/-! THE CLAIM OUT OF ONE WALK OF THE LAW'S BODY. Your part is whole_start (and what it stands on); all else here is the same for every law, but numbers. -/
def R_law : String := "FreePlaceLaw"
def lw_P (b : Addr) (xs : List Int32) (args : Array Value) (s : State) : Prop := args = #[.ref b] ∧ s.IntsAt b xs ∧ xs.length ≤ 2048 ∧ (Jvm.Cond.and given_1 narrow_1).before args s = true
def lw_Q (_ : Array Value) (s : State) (o : Outcome) (t : State) : Prop := o = .returned (some (.int 1)) ∧ Framed s o t [] 600000 7302250
def lw_Z (below : List Frame) (a : Array Value) (s : State) : State → Prop := fun t => ∃ o, t.status = .running ∧ Ended t below o ∧ lw_Q a s o t
/-- the law's own end, with 1 on the stack, nothing written that was there before, its room as the claim has it -/
theorem lw_ret {p : Program} {l : Launch} {e : Env} {s : State} {m : MethodId} {below : List Frame} {meth : Method} {c : Code} {b : Nat} (hx : p.tables.exec = Jvm.exec) (hb : c.code = code) (hr : meth.sig.returnType = ret) (hlocks : meth.locks = false) {pc : Nat} {H : Heap} {ls : Array Slot} (hdg : decode code pc = .ok (.ireturn, 1)) : W p l e room_1 s m #[Value.ref b] below meth c H [] 600000 7302250 (lw_Z below #[Value.ref b] s) (F0 m pc ls [.int 1]) := by
  intro T hT X
  obtain ⟨fs, hret, hrun, hended, hW, hframe⟩ := X.leave (v := some (.int 1)) (hlocks := hlocks) (fun h => by rw [hr] at h; cases h)
  have hmeth' : T.vm.method? m = some meth := X.method'
  refine ⟨T.setFrames fs, ?_, .returned (some (.int 1)), hrun, hended, rfl, ⟨_, rfl⟩, hW, hframe⟩
  jvm_step X.here [X.here.top, hx, hb, hdg, hmeth', hr, ret, narrow_b1]
  (try refine ⟨rfl, ?_⟩); (try refine ⟨rfl, ?_⟩)
  first | (intro acts; rw [hret _ acts rfl rfl rfl]) | rw [hret _ _ rfl rfl rfl]
  exact Steps.refl _
/-- what holds at the law's entry: the machine, the code, the tables' words (any of lw_tbl by 'hts w (by decide +kernel)'), the script of L ints xs at the cell b, what the Statement gives of the start (any of its parts by flat_of_before) -/
def lw_At (p : Program) (s : State) (m : MethodId) (meth : Method) (c : Code) (b L : Nat) (xs : Nat → Int32) : Prop :=
  p.tables.exec = Jvm.exec ∧ c.code = code ∧ meth.sig.returnType = ret ∧ c.maxLocals = 4 ∧ s.vm.findClass R_law = some m.cls ∧ (∀ w ∈ lw_tbl, w.before #[Value.ref b] s = true) ∧ va_X b L xs s s.heap ∧ b < s.heap.size ∧ meth.locks = false ∧ (Jvm.Cond.and given_1 narrow_1).before #[Value.ref b] s = true

set_option maxHeartbeats 4000000 in
theorem fl_loop {p : Program} {e : Env} {s : State} {m : MethodId} {below : List Frame} {meth : Method} {c : Code} {l : Launch} {D : va_G} {G : Nat → ClassId} {B b L : Nat} {xs : Nat → Int32} (hL : L ≤ 2048) (hB : B = s.heap.size) (E : fp_EV p s m #[Value.ref b] meth c code 4 RL ret D G) (hX : va_X b L xs s s.heap) (hbl : b < s.heap.size) (hbA : ¬ fp_A B b) :
    ∀ (d j : Nat), 4 * j ≤ 2048 → 2052 - 4 * j < d → ∀ {M : fp_Mem} {H : Heap} {locs : List Loc} {ls : Array Slot}, fp_Inv M → fp_H D G B s M H locs → lv_has ls 4 [(3, .int (nI (4 * j))), (0, .ref b), (1, .ref (B + 0)), (2, .ref (B + 120))] → W p l e room_1 s m #[Value.ref b] below meth c H locs 140 2279 (lw_Z below #[Value.ref b] s) (F0 m 18 ls []) := by
  have hx := E.1
  have hb := E.2.1
  intro d
  induction d with
  | zero => intro j _ h; omega
  | succ d ih =>
    intro j hj hd M H locs ls hI hG hl
    refine lv_iload_n hx hb dL_law_18 rfl (lv_at hl 0 rfl) ?_
    refine lv_aload_n hx hb dL_law_19 rfl (lv_at hl 1 rfl) ?_
    refine va_slen hx hb hX hbl hbA hG.2 dL_law_20 ?_
    refine lv_iconst (v := nI 4) hx hb dL_law_21 (by decide) ?_
    refine lv_isub hx hb dL_law_22 ?_
    refine lv_icmp_gt (tgt := 909) hx hb dL_law_23 (by decide) (fun q => ?_) (fun q => ?_)
    · refine lv_iconst (v := 1) hx hb dL_law_909 (by decide) ?_
      refine va_forget (fun q hq => by have h9 := hG.2.2.2 q hq; rw [← hB]; exact h9) ?_
      refine W.widen (k := 600000) (n := 7302250) (by decide) (by decide) ?_
      exact lw_ret hx hb E.2.2.2.2.2.2.1 E.2.2.2.2.2.2.2 dL_law_910
    · have hle : 4 * j + 4 ≤ L := by
        have h1 : ¬ (nI L - nI 4 < nI (4 * j)) := q
        rw [Int32.lt_iff_toInt_lt, pk_sub_toInt (by omega) (by decide), nI_toInt (by omega)] at h1
        omega
      have hin : ∀ k, k < 4 → vp_in (nI (4 * j) + nI k) L := by
        intro k hk
        rw [nI_add]
        exact vp_in_nI (by omega) (by omega)
      have hin0 : vp_in (nI (4 * j)) L := vp_in_nI (by omega) (by omega)
      refine lv_aload_n hx hb dL_law_26 rfl (lv_at hl 1 rfl) ?_
      refine lv_iload_n hx hb dL_law_27 rfl (lv_at hl 0 rfl) ?_
      refine va_sld hx hb hX hbl hbA hG.2 hin0 dL_law_28 ?_
      refine lv_bipush (v := nI 31) hx hb dL_law_29 (by decide) ?_
      refine lv_iand hx hb dL_law_31 ?_
      refine lv_topi (fun opc eopc => ?_)
      have back : ∀ {M : fp_Mem} {H : Heap} {locs : List Loc} {ls : Array Slot}, fp_Inv M → fp_H D G B s M H locs → lv_has ls 4 [(3, .int (nI (4 * j))), (0, .ref b), (1, .ref (B + 0)), (2, .ref (B + 120))] → W p l e room_1 s m #[Value.ref b] below meth c H locs 140 2279 (lw_Z below #[Value.ref b] s) (F0 m 903 ls []) := by
        intro M H locs ls hI hG hl
        refine lv_iinc (v := nI (4 * (j + 1))) (lv' := [(3, .int (nI (4 * (j + 1)))), (0, .ref b), (1, .ref (B + 0)), (2, .ref (B + 120))]) hx hb dL_law_903 hl (k := 0) rfl (by rw [show 4 * (j + 1) = 4 * j + 4 by omega]; exact nI_add (4 * j) 4) (by decide) rfl (fun ls hl => ?_)
        refine lv_goto (tgt := 18) hx hb dL_law_906 (by decide) ?_
        exact ih (j + 1) (by omega) (by omega) hI hG hl
      by_cases q0 : opc = nI 0
      · refine lv_tableIn (off := 132) (tgt := 164) hx hb dL_law_32 (by rw [q0]; decide) (by rw [q0]; decide) (by rw [q0]; rfl) (by decide) ?_
        exact fl_feed E hX hbl hbA j hin back hI hG hl
      by_cases q1 : opc = nI 1
      · refine lv_tableIn (off := 155) (tgt := 187) hx hb dL_law_32 (by rw [q1]; decide) (by rw [q1]; decide) (by rw [q1]; rfl) (by decide) ?_
        exact fl_realm E hX hbl hbA j hin back hI hG hl
      by_cases q2 : opc = nI 2
      · refine lv_tableIn (off := 168) (tgt := 200) hx hb dL_law_32 (by rw [q2]; decide) (by rw [q2]; decide) (by rw [q2]; rfl) (by decide) ?_
        exact fl_fault E hX hbl hbA j hin back hI hG hl
      by_cases q3 : opc = nI 3
      · refine lv_tableIn (off := 181) (tgt := 213) hx hb dL_law_32 (by rw [q3]; decide) (by rw [q3]; decide) (by rw [q3]; rfl) (by decide) ?_
        exact fl_told E hX hbl hbA j hin back hI hG hl
      by_cases q4 : opc = nI 4
      · refine lv_tableIn (off := 204) (tgt := 236) hx hb dL_law_32 (by rw [q4]; decide) (by rw [q4]; decide) (by rw [q4]; rfl) (by decide) ?_
        exact fl_table E hX hbl hbA j hin back hI hG hl
      by_cases q5 : opc = nI 5
      · refine lv_tableIn (off := 237) (tgt := 269) hx hb dL_law_32 (by rw [q5]; decide) (by rw [q5]; decide) (by rw [q5]; rfl) (by decide) ?_
        exact fl_way E hX hbl hbA j hin back hI hG hl
      by_cases q6 : opc = nI 6
      · refine lv_tableIn (off := 270) (tgt := 302) hx hb dL_law_32 (by rw [q6]; decide) (by rw [q6]; decide) (by rw [q6]; rfl) (by decide) ?_
        exact fl_come E hX hbl hbA j hin back hI hG hl
      by_cases q7 : opc = nI 7
      · refine lv_tableIn (off := 293) (tgt := 325) hx hb dL_law_32 (by rw [q7]; decide) (by rw [q7]; decide) (by rw [q7]; rfl) (by decide) ?_
        exact fl_go E hX hbl hbA j hin back hI hG hl
      by_cases q8 : opc = nI 8
      · refine lv_tableIn (off := 316) (tgt := 348) hx hb dL_law_32 (by rw [q8]; decide) (by rw [q8]; decide) (by rw [q8]; rfl) (by decide) ?_
        exact fl_build E hX hbl hbA j hin back hI hG hl
      by_cases q9 : opc = nI 9
      · refine lv_tableIn (off := 339) (tgt := 371) hx hb dL_law_32 (by rw [q9]; decide) (by rw [q9]; decide) (by rw [q9]; rfl) (by decide) ?_
        exact fl_breakOne E hX hbl hbA j hin back hI hG hl
      by_cases q10 : opc = nI 10
      · refine lv_tableIn (off := 362) (tgt := 394) hx hb dL_law_32 (by rw [q10]; decide) (by rw [q10]; decide) (by rw [q10]; rfl) (by decide) ?_
        exact fl_shut E hX hbl hbA j hin back hI hG hl
      by_cases q11 : opc = nI 11
      · refine lv_tableIn (off := 411) (tgt := 443) hx hb dL_law_32 (by rw [q11]; decide) (by rw [q11]; decide) (by rw [q11]; rfl) (by decide) ?_
        exact fl_drift E hX hbl hbA j hin back hI hG hl
      by_cases q12 : opc = nI 12
      · refine lv_tableIn (off := 434) (tgt := 466) hx hb dL_law_32 (by rw [q12]; decide) (by rw [q12]; decide) (by rw [q12]; rfl) (by decide) ?_
        exact fl_undo E hX hbl hbA j hin back hI hG hl
      by_cases q13 : opc = nI 13
      · refine lv_tableIn (off := 447) (tgt := 479) hx hb dL_law_32 (by rw [q13]; decide) (by rw [q13]; decide) (by rw [q13]; rfl) (by decide) ?_
        exact fl_chain E hX hbl hbA j hin back hI hG hl
      by_cases q14 : opc = nI 14
      · refine lv_tableIn (off := 480) (tgt := 512) hx hb dL_law_32 (by rw [q14]; decide) (by rw [q14]; decide) (by rw [q14]; rfl) (by decide) ?_
        exact fl_more E hX hbl hbA j hin back hI hG hl
      by_cases q15 : opc = nI 15
      · refine lv_tableIn (off := 503) (tgt := 535) hx hb dL_law_32 (by rw [q15]; decide) (by rw [q15]; decide) (by rw [q15]; rfl) (by decide) ?_
        exact fl_far E hX hbl hbA j hin back hI hG hl
      by_cases q16 : opc = nI 16
      · refine lv_tableIn (off := 526) (tgt := 558) hx hb dL_law_32 (by rw [q16]; decide) (by rw [q16]; decide) (by rw [q16]; rfl) (by decide) ?_
        exact fl_two E hX hbl hbA j hin back hI hG hl
      by_cases q17 : opc = nI 17
      · refine lv_tableIn (off := 569) (tgt := 601) hx hb dL_law_32 (by rw [q17]; decide) (by rw [q17]; decide) (by rw [q17]; rfl) (by decide) ?_
        exact fl_chairs E hX hbl hbA j hin back hI hG hl
      by_cases q18 : opc = nI 18
      · refine lv_tableIn (off := 612) (tgt := 644) hx hb dL_law_32 (by rw [q18]; decide) (by rw [q18]; decide) (by rw [q18]; rfl) (by decide) ?_
        exact fl_spread E hX hbl hbA j hin back hI hG hl
      by_cases q19 : opc = nI 19
      · refine lv_tableIn (off := 635) (tgt := 667) hx hb dL_law_32 (by rw [q19]; decide) (by rw [q19]; decide) (by rw [q19]; rfl) (by decide) ?_
        exact fl_quiet E hX hbl hbA j hin back hI hG hl
      by_cases q20 : opc = nI 20
      · refine lv_tableIn (off := 668) (tgt := 700) hx hb dL_law_32 (by rw [q20]; decide) (by rw [q20]; decide) (by rw [q20]; rfl) (by decide) ?_
        exact fl_see E hX hbl hbA j hin back hI hG hl
      by_cases q21 : opc = nI 21
      · refine lv_tableIn (off := 717) (tgt := 749) hx hb dL_law_32 (by rw [q21]; decide) (by rw [q21]; decide) (by rw [q21]; rfl) (by decide) ?_
        exact fl_came E hX hbl hbA j hin back hI hG hl
      by_cases q22 : opc = nI 22
      · refine lv_tableIn (off := 730) (tgt := 762) hx hb dL_law_32 (by rw [q22]; decide) (by rw [q22]; decide) (by rw [q22]; rfl) (by decide) ?_
        exact fl_look E hX hbl hbA j hin back hI hG hl
      by_cases q23 : opc = nI 23
      · refine lv_tableIn (off := 743) (tgt := 775) hx hb dL_law_32 (by rw [q23]; decide) (by rw [q23]; decide) (by rw [q23]; rfl) (by decide) ?_
        exact fl_write E hX hbl hbA j hin back hI hG hl
      by_cases q24 : opc = nI 24
      · refine lv_tableIn (off := 776) (tgt := 808) hx hb dL_law_32 (by rw [q24]; decide) (by rw [q24]; decide) (by rw [q24]; rfl) (by decide) ?_
        exact fl_tear E hX hbl hbA j hin back hI hG hl
      by_cases q25 : opc = nI 25
      · refine lv_tableIn (off := 789) (tgt := 821) hx hb dL_law_32 (by rw [q25]; decide) (by rw [q25]; decide) (by rw [q25]; rfl) (by decide) ?_
        exact fl_judge E hX hbl hbA j hin back hI hG hl
      by_cases q26 : opc = nI 26
      · refine lv_tableIn (off := 802) (tgt := 834) hx hb dL_law_32 (by rw [q26]; decide) (by rw [q26]; decide) (by rw [q26]; rfl) (by decide) ?_
        exact fl_seed E hX hbl hbA j hin back hI hG hl
      by_cases q27 : opc = nI 27
      · refine lv_tableIn (off := 825) (tgt := 857) hx hb dL_law_32 (by rw [q27]; decide) (by rw [q27]; decide) (by rw [q27]; rfl) (by decide) ?_
        exact fl_keep E hX hbl hbA j hin back hI hG hl
      by_cases q28 : opc = nI 28
      · refine lv_tableIn (off := 848) (tgt := 880) hx hb dL_law_32 (by rw [q28]; decide) (by rw [q28]; decide) (by rw [q28]; rfl) (by decide) ?_
        exact fl_goBack E hX hbl hbA j hin back hI hG hl
      refine lv_tableOut (tgt := 903) hx hb dL_law_32 (by have e0 := lv_neT (a := 0) q0 rfl; have e1 := lv_neT (a := 1) q1 rfl; have e2 := lv_neT (a := 2) q2 rfl; have e3 := lv_neT (a := 3) q3 rfl; have e4 := lv_neT (a := 4) q4 rfl; have e5 := lv_neT (a := 5) q5 rfl; have e6 := lv_neT (a := 6) q6 rfl; have e7 := lv_neT (a := 7) q7 rfl; have e8 := lv_neT (a := 8) q8 rfl; have e9 := lv_neT (a := 9) q9 rfl; have e10 := lv_neT (a := 10) q10 rfl; have e11 := lv_neT (a := 11) q11 rfl; have e12 := lv_neT (a := 12) q12 rfl; have e13 := lv_neT (a := 13) q13 rfl; have e14 := lv_neT (a := 14) q14 rfl; have e15 := lv_neT (a := 15) q15 rfl; have e16 := lv_neT (a := 16) q16 rfl; have e17 := lv_neT (a := 17) q17 rfl; have e18 := lv_neT (a := 18) q18 rfl; have e19 := lv_neT (a := 19) q19 rfl; have e20 := lv_neT (a := 20) q20 rfl; have e21 := lv_neT (a := 21) q21 rfl; have e22 := lv_neT (a := 22) q22 rfl; have e23 := lv_neT (a := 23) q23 rfl; have e24 := lv_neT (a := 24) q24 rfl; have e25 := lv_neT (a := 25) q25 rfl; have e26 := lv_neT (a := 26) q26 rfl; have e27 := lv_neT (a := 27) q27 rfl; have e28 := lv_neT (a := 28) q28 rfl; have h1 := opc.toInt_lt; omega) (by decide) ?_
      exact back hI hG hl

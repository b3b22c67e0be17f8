/-! while the constructors run: n cells from B on, each as V has it -/
def fp_M0 : fp_Mem := fun q j => if (q = 1 ∧ j = 6) ∨ (q = 120 ∧ j = 10) then -1 else 0
theorem fp_M0_arr {q d : Nat} (h : fp_c q d) (hd : 20 ≤ d) : fp_M0 q = fun _ => 0 := by
  have h1 : q ≠ 1 := by rintro rfl; have := h.2; have h2 : fp_kd 1 = 6 := by decide +kernel
                        omega
  have h3 : q ≠ 120 := by rintro rfl; have := h.2; have h2 : fp_kd 120 = 12 := by decide +kernel
                          omega
  funext j
  simp [fp_M0, h1, h3]
theorem fp_M0_obj {q d : Nat} (h : fp_c q d) (h6 : d ≠ 6) (h12 : d ≠ 12) : fp_M0 q = fun _ => 0 := by
  have h1 : q ≠ 1 := by rintro rfl; have := h.2; have h2 : fp_kd 1 = 6 := by decide +kernel
                        omega
  have h3 : q ≠ 120 := by rintro rfl; have := h.2; have h2 : fp_kd 120 = 12 := by decide +kernel
                          omega
  funext j
  simp [fp_M0, h1, h3]
def fp_gv (B n : Nat) (V : Nat → va_E) : va_W := (List.range n).map (fun k => (B + k, V k))
theorem fp_gv_get {B n k : Nat} {V : Nat → va_E} (hk : k < n) : (fp_gv B n V)[k]? = some (B + k, V k) := by simp [fp_gv, hk]
theorem fp_gv_len {B n : Nat} {V : Nat → va_E} : (fp_gv B n V).length = n := by simp [fp_gv]
theorem fp_gv_out {B n k : Nat} {V : Nat → va_E} {q : Nat × va_E} (h : (fp_gv B n V)[k]? = some q) : k < n ∧ q = (B + k, V k) := by
  have h1 := (List.getElem?_eq_some_iff.mp h).1
  rw [fp_gv_len] at h1
  rw [fp_gv_get h1] at h
  exact ⟨h1, (Option.some.inj h).symm⟩
theorem fp_gv_congr {B n : Nat} {V V' : Nat → va_E} (h : ∀ q, q < n → V q = V' q) : fp_gv B n V = fp_gv B n V' := by
  unfold fp_gv
  apply List.map_congr_left
  intro q hq
  rw [h q (List.mem_range.mp hq)]
theorem fp_gv_push {B n : Nat} {V : Nat → va_E} {e : va_E} : fp_gv B n V ++ [(B + n, e)] = fp_gv B (n + 1) (va_up V n e) := by
  unfold fp_gv
  rw [List.range_succ, List.map_append]
  congr 1
  · apply List.map_congr_left
    intro q hq
    have := List.mem_range.mp hq
    simp [va_up, Nat.ne_of_lt this]
  · simp [va_up]
theorem fp_gv_set {B n k : Nat} {V : Nat → va_E} {e : va_E} : (fp_gv B n V).set k (B + k, e) = fp_gv B n (va_up V k e) := by
  apply List.ext_getElem?
  intro i
  by_cases hi : i < n
  · rw [fp_gv_get hi]
    by_cases hik : i = k
    · subst hik
      rw [List.getElem?_set_self (by rw [fp_gv_len]; exact hi)]
      simp [va_up]
    · rw [List.getElem?_set_ne (fun h => hik h.symm), fp_gv_get hi]
      simp [va_up, hik]
  · rw [List.getElem?_eq_none (by rw [List.length_set, fp_gv_len]; omega), List.getElem?_eq_none (by rw [fp_gv_len]; omega)]
theorem fp_gv_D {B n : Nat} {V : Nat → va_E} : va_D (fp_A B) (fp_gv B n V) := by
  refine ⟨fun i j x y hi hj hxy => ?_, fun k q hk => ?_⟩
  · obtain ⟨-, rfl⟩ := fp_gv_out hi
    obtain ⟨-, rfl⟩ := fp_gv_out hj
    exact Nat.add_left_cancel hxy
  · obtain ⟨-, rfl⟩ := fp_gv_out hk
    exact Nat.le_add_right B k
def fp_nests : List (String × Nat × MethodName × String) := [("FreePlace", 9, yX6_init, "FreePlace"), ("FreePlace$Reader", 11, yX7_init, "FreePlace"), ("FreePlace", 18, yX7_init, "FreePlace"), ("FreePlace", 25, yX9_init, "FreePlace"), ("FreePlace", 32, yX2_init, "FreePlace"), ("FreePlace", 39, yX0_init, "FreePlace"), ("FreePlace$Acts", 11, yX2_init, "FreePlace"), ("FreePlace", 46, yX10_init, "FreePlace"), ("FreePlace$Trials", 11, yX2_init, "FreePlace"), ("FreePlace$Trials", 20, yX0_init, "FreePlace"), ("FreePlace$Trials", 27, yX9_init, "FreePlace"), ("FreePlace", 53, yX8_init, "FreePlace"), ("FreePlace", 60, yX1_init, "FreePlace"), ("FreePlace", 67, yX3_init, "FreePlace"), ("FreePlace$History", 17, yX9_init, "FreePlace"), ("FreePlace$Images", 25, yX9_init, "FreePlace")]
/-- the tables' words that no call hands on by itself: the nest mates' links, the row of states -/
def fp_NW (U : State) : Prop := (∀ q ∈ fp_nests, va_Nw (.methodLinkNest q.1 q.2.1 q.2.2.1 q.2.2.2) U) ∧ va_AO "FreePlace$State" U
theorem fp_NW_warm {s U : State} (hW : s.WarmedH U.vm) (h : fp_NW s) : fp_NW U := ⟨fun q hq => va_Nw.warmM hW (h.1 q hq), h.2.moved hW.alike⟩
theorem fp_NW_call {U : State} (h : fp_NW U) (a : Array Value) (g : JFrame) (mk : MethodId) : fp_NW (U.calling g mk a) := ⟨fun q hq => va_Nw.same rfl rfl (h.1 q hq), h.2.moved (Vm.Alike.refl U.vm)⟩
def fp_GV (D : va_G) (G : Nat → ClassId) (B n : Nat) (V : Nat → va_E) (U : State) : Prop := va_P D vwCl (fp_gv B n V) U.heap ∧ va_K D vwCl (fp_tys G) U ∧ U.heap.size = B + n ∧ fp_NW U
def fp_HV (D : va_G) (B : Nat) (s : State) (n : Nat) (V : Nat → va_E) (H : Heap) (locs : List Loc) : Prop := va_P D vwCl (fp_gv B n V) H ∧ va_S (fp_A B) s.heap H locs ∧ H.size = B + n ∧ B ≤ s.heap.size
theorem fp_HV_congr {D : va_G} {B n : Nat} {s : State} {V V' : Nat → va_E} {H : Heap} {locs : List Loc} (h : ∀ q, q < n → V q = V' q) (hG : fp_HV D B s n V H locs) : fp_HV D B s n V' H locs := ⟨by rw [← fp_gv_congr h]; exact hG.1, hG.2⟩
/-- one object at k in the making, all behind it as it shall be -/
def fp_nf (G : Nat → ClassId) (B : Nat) (V : Nat → va_E) (k : Nat) (e : va_E) : Nat → va_E := fun q => if q < k then V q else if q = k then e else fp_e G B fp_M0 q
def fp_mix (G : Nat → ClassId) (B : Nat) (V : Nat → va_E) (k : Nat) : Nat → va_E := fun q => if q < k then V q else fp_e G B fp_M0 q
section NF
variable {G : Nat → ClassId} {B k n : Nat} {V : Nat → va_E} {e e' cell : va_E}
theorem fp_nf_push (hk : k < n) (he : cell = fp_e G B fp_M0 n) : ∀ q, q < n + 1 → va_up (fp_nf G B V k e) n cell q = fp_nf G B V k e q := by
  intro q _
  by_cases h : q = n
  · subst h
    simp [va_up, fp_nf, he, Nat.not_lt_of_lt hk, Nat.ne_of_gt hk]
  · simp [va_up, h]
theorem fp_nf_call {n' : Nat} (hk : k < n) : ∀ q, q < n' → fp_mix G B (va_up (fp_nf G B V k e) n cell) n q = fp_nf G B V k e q := by
  intro q _
  by_cases h : q < n
  · simp [fp_mix, h, va_up, Nat.ne_of_lt h]
  · have h1 : ¬ q < k := by omega
    have h2 : q ≠ k := by omega
    simp [fp_mix, h, fp_nf, h1, h2]
theorem fp_nf_put : ∀ q, q < n → va_up (fp_nf G B V k e) k e' q = fp_nf G B V k e' q := by
  intro q _
  by_cases h : q = k
  · subst h
    simp [va_up, fp_nf]
  · simp [va_up, fp_nf, h]
theorem fp_nf_start (h : V k = e) : ∀ q, q < k + 1 → V q = fp_nf G B V k e q := by
  intro q hq
  by_cases h1 : q < k
  · simp [fp_nf, h1]
  · have : q = k := by omega
    subst this
    simp [fp_nf, h]
theorem fp_nf_end (h : e = fp_e G B fp_M0 k) : ∀ q, q < n → fp_nf G B V k e q = fp_mix G B V k q := by
  intro q _
  by_cases h1 : q < k
  · simp [fp_nf, fp_mix, h1]
  · by_cases h2 : q = k
    · subst h2
      simp [fp_nf, fp_mix, h]
    · simp [fp_nf, fp_mix, h1, h2]
theorem fp_nf_at : fp_nf G B V k e k = e := by simp [fp_nf]
theorem fp_nf_hi (h : k < n) : fp_nf G B V k e n = fp_e G B fp_M0 n := by
  have h1 : ¬ n < k := by omega
  have h2 : n ≠ k := by omega
  simp [fp_nf, h1, h2]
end NF
section FPC
variable {p : Program} {l : Launch} {e : Env} {R : Room} {s : State} {m : MethodId} {args : Array Value} {below : List Frame} {meth : Method} {c : Code} {H : Heap} {locs : List Loc} {cells slots : Nat} {Q : State → Prop}
variable {cc : ByteArray} {nL : Nat} {own : String} {rt : Option FieldType} {D : va_G} {G : Nat → ClassId} {B : Nat} {M : fp_Mem} {pc : Nat} {ls : Array Slot} {rest : List Value} {k idx n : Nat} {V : Nat → va_E}

theorem fp_new (E : fp_EV p s m args meth c cc nL own rt D G) (hG : fp_HV D B s n V H locs) {ci N : Nat} {C : String} {T : u_T} {fs : List Value} (hin : ∀ w ∈ u_ws C T N, w ∈ fp_T) (ty : Nat → FieldType) (hty : ∀ k, k < N → parseFieldDescriptor (T k).2.2.1 = some (ty k)) (hcl : Cond.classLink own idx C ∈ fp_T) (hinst : Cond.instantiable C N ∈ fp_T) (hini : Cond.initialized C ∈ fp_T) (hc : vwCl[ci]? = some (C, T, N)) (hfs : ∀ j, j < N → defaultValue (ty j) = vp_V fs j) (hcells : cells + 1 ≤ R.cells) (hslots : slots + N ≤ R.slots) (hdg : decode cc pc = .ok (.new idx, 3))
    (kk : ∀ (H : Heap), fp_HV D B s (n + 1) (va_up V n (.inr (ci, fs))) H locs → W p l e R s m args below meth c H locs (cells + 1) (slots + N) Q (F0 m (pc + 3) ls (.ref (B + n) :: rest))) : W p l e R s m args below meth c H locs cells slots Q (F0 m pc ls rest) := by
  have hKn := E.2.2.2.2.2.1.1 ci _ hc
  refine W.newcK E.1 E.2.1 E.2.2.2.1 (fp_tabs E hcl) (fp_tabs E hinst) (fp_tabs E hini) rfl hdg hcells hslots hKn.2.1 hG.2.2.1 fun H1 kC hkC e1 z1 o1 => ?_
  have hk : ∀ (k : Nat) (x : Nat × va_E), (fp_gv B n V)[k]? = some x → H1[x.1]? = H[x.1]? := fun k x hx => o1 x.1 (by rw [← hG.2.2.1]; exact (hG.1 k x hx).lt)
  refine kk H1 ⟨?_, ⟨Nat.le_trans hG.2.1.1 (by rw [z1, hG.2.2.1]; omega), fun x h1 h2 => (o1 x (by have := hG.2.1.1; rw [hG.2.2.1] at this; omega)).trans (hG.2.1.2.1 x h1 h2), hG.2.1.2.2⟩, by rw [z1]; omega, hG.2.2.2⟩
  rw [← fp_gv_push]
  refine (hG.1.kept hk).app (fun j x hx => ?_)
  have hz : j < 1 := (List.getElem?_eq_some_iff.mp hx).1
  rw [show j = 0 by omega] at hx
  cases hx
  exact ⟨_, hc, (u_born ty E.2.2.2.2.1 hin hKn hkC e1 hty).to hfs⟩
theorem fp_newa_i (E : fp_EV p s m args meth c cc nL own rt D G) (hG : fp_HV D B s n V H locs) {N' : Nat} (hN' : N' ≤ 1000) (harr : Cond.arrayClass .int ∈ fp_T) (hcells : cells + 1 ≤ R.cells) (hslots : slots + N' ≤ R.slots) (hdg : decode cc pc = .ok (.newarray .int, 2))
    (kk : ∀ (H : Heap), fp_HV D B s (n + 1) (va_up V n (.inl (G 0, (N', .inl (fun _ => 0))))) H locs → W p l e R s m args below meth c H locs (cells + 1) (slots + N') Q (F0 m (pc + 2) ls (.ref (B + n) :: rest))) : W p l e R s m args below meth c H locs cells slots Q (F0 m pc ls (.int (nI N') :: rest)) := by
  refine va_newaK (atype := .int) E.1 E.2.1 (fp_tabs E harr) rfl hdg rfl (nI_pos (by omega)) (nI_clamp (by omega)) (by show N' * 4 ≤ _; omega) hcells hslots hG.2.2.1 fun H1 cA e1 z1 o1 hAr hNm => ?_
  have hcA : cA = G 0 := Option.some.inj (hNm.symm.trans ((E.2.2.2.2.2.1.2 0 _ rfl).2))
  subst hcA
  have hk : ∀ (k : Nat) (x : Nat × va_E), (fp_gv B n V)[k]? = some x → H1[x.1]? = H[x.1]? := fun k x hx => o1 x.1 (by rw [← hG.2.2.1]; exact (hG.1 k x hx).lt)
  refine kk H1 ⟨?_, ⟨Nat.le_trans hG.2.1.1 (by rw [z1, hG.2.2.1]; omega), fun x h1 h2 => (o1 x (by have := hG.2.1.1; rw [hG.2.2.1] at this; omega)).trans (hG.2.1.2.1 x h1 h2), hG.2.1.2.2⟩, by rw [z1]; omega, hG.2.2.2⟩
  rw [← fp_gv_push]
  refine (hG.1.kept hk).app (fun j x hx => ?_)
  have hz : j < 1 := (List.getElem?_eq_some_iff.mp hx).1
  rw [show j = 0 by omega] at hx
  cases hx
  exact e1
theorem fp_newa_c (E : fp_EV p s m args meth c cc nL own rt D G) (hG : fp_HV D B s n V H locs) {N' : Nat} (hN' : N' ≤ 1000) (harr : Cond.arrayClass .char ∈ fp_T) (hcells : cells + 1 ≤ R.cells) (hslots : slots + N' ≤ R.slots) (hdg : decode cc pc = .ok (.newarray .char, 2))
    (kk : ∀ (H : Heap), fp_HV D B s (n + 1) (va_up V n (.inl (G 1, (N', .inl (fun _ => 0))))) H locs → W p l e R s m args below meth c H locs (cells + 1) (slots + N') Q (F0 m (pc + 2) ls (.ref (B + n) :: rest))) : W p l e R s m args below meth c H locs cells slots Q (F0 m pc ls (.int (nI N') :: rest)) := by
  refine va_newaK (atype := .char) E.1 E.2.1 (fp_tabs E harr) rfl hdg rfl (nI_pos (by omega)) (nI_clamp (by omega)) (by show N' * 2 ≤ _; omega) hcells hslots hG.2.2.1 fun H1 cA e1 z1 o1 hAr hNm => ?_
  have hcA : cA = G 1 := Option.some.inj (hNm.symm.trans ((E.2.2.2.2.2.1.2 1 _ rfl).2))
  subst hcA
  have hk : ∀ (k : Nat) (x : Nat × va_E), (fp_gv B n V)[k]? = some x → H1[x.1]? = H[x.1]? := fun k x hx => o1 x.1 (by rw [← hG.2.2.1]; exact (hG.1 k x hx).lt)
  refine kk H1 ⟨?_, ⟨Nat.le_trans hG.2.1.1 (by rw [z1, hG.2.2.1]; omega), fun x h1 h2 => (o1 x (by have := hG.2.1.1; rw [hG.2.2.1] at this; omega)).trans (hG.2.1.2.1 x h1 h2), hG.2.1.2.2⟩, by rw [z1]; omega, hG.2.2.2⟩
  rw [← fp_gv_push]
  refine (hG.1.kept hk).app (fun j x hx => ?_)
  have hz : j < 1 := (List.getElem?_eq_some_iff.mp hx).1
  rw [show j = 0 by omega] at hx
  cases hx
  exact e1
theorem fp_newa_z (E : fp_EV p s m args meth c cc nL own rt D G) (hG : fp_HV D B s n V H locs) {N' : Nat} (hN' : N' ≤ 1000) (harr : Cond.arrayClass .boolean ∈ fp_T) (hcells : cells + 1 ≤ R.cells) (hslots : slots + N' ≤ R.slots) (hdg : decode cc pc = .ok (.newarray .boolean, 2))
    (kk : ∀ (H : Heap), fp_HV D B s (n + 1) (va_up V n (.inl (G 2, (N', .inl (fun _ => 0))))) H locs → W p l e R s m args below meth c H locs (cells + 1) (slots + N') Q (F0 m (pc + 2) ls (.ref (B + n) :: rest))) : W p l e R s m args below meth c H locs cells slots Q (F0 m pc ls (.int (nI N') :: rest)) := by
  refine va_newaK (atype := .boolean) E.1 E.2.1 (fp_tabs E harr) rfl hdg rfl (nI_pos (by omega)) (nI_clamp (by omega)) (by show N' * 1 ≤ _; omega) hcells hslots hG.2.2.1 fun H1 cA e1 z1 o1 hAr hNm => ?_
  have hcA : cA = G 2 := Option.some.inj (hNm.symm.trans ((E.2.2.2.2.2.1.2 2 _ rfl).2))
  subst hcA
  have hk : ∀ (k : Nat) (x : Nat × va_E), (fp_gv B n V)[k]? = some x → H1[x.1]? = H[x.1]? := fun k x hx => o1 x.1 (by rw [← hG.2.2.1]; exact (hG.1 k x hx).lt)
  refine kk H1 ⟨?_, ⟨Nat.le_trans hG.2.1.1 (by rw [z1, hG.2.2.1]; omega), fun x h1 h2 => (o1 x (by have := hG.2.1.1; rw [hG.2.2.1] at this; omega)).trans (hG.2.1.2.1 x h1 h2), hG.2.1.2.2⟩, by rw [z1]; omega, hG.2.2.2⟩
  rw [← fp_gv_push]
  refine (hG.1.kept hk).app (fun j x hx => ?_)
  have hz : j < 1 := (List.getElem?_eq_some_iff.mp hx).1
  rw [show j = 0 by omega] at hx
  cases hx
  exact e1
theorem fp_newa_q (E : fp_EV p s m args meth c cc nL own rt D G) (hG : fp_HV D B s n V H locs) {N' : Nat} (hN' : N' ≤ 1000) (hcl : Cond.classLink own idx "FreePlace$State" ∈ fp_T) (hov : fp_NW s) (hcells : cells + 1 ≤ R.cells) (hslots : slots + N' ≤ R.slots) (hdg : decode cc pc = .ok (.anewarray idx, 3))
    (kk : ∀ (H : Heap), fp_HV D B s (n + 1) (va_up V n (.inl (G 3, (N', .inr (.inr (.inr (.inr (fun _ => none)))))))) H locs → W p l e R s m args below meth c H locs (cells + 1) (slots + N') Q (F0 m (pc + 3) ls (.ref (B + n) :: rest))) : W p l e R s m args below meth c H locs cells slots Q (F0 m pc ls (.int (nI N') :: rest)) := by
  have hcl2 : (nI N').toNatClampNeg = N' := nI_clamp (by omega)
  refine W.anew E.1 E.2.1 E.2.2.2.1 (fp_tabs E hcl) (va_AO.use hov.2) rfl hdg rfl (nI_pos (by omega)) (by rw [hcl2]; omega) hcells (by rw [hcl2]; exact hslots) fun cA kA comp f1 f2 f3 f4 => ?_
  have hcA : cA = G 3 := by
    obtain ⟨kA', comp', g1, g2, g3, g4⟩ := (E.2.2.2.2.2.1.2 3 _ rfl).2
    exact Option.some.inj (f1.symm.trans g4)
  subst hcA
  rw [hcl2]
  generalize hH1 : H.push ({ cls := G 3, slots := Array.replicate N' .null, vm := .none } : Cell) = H1
  have z1 : H1.size = H.size + 1 := by rw [← hH1, Array.size_push]
  have e1 : H1[H.size]? = some (arrV (G 3) N' (fun _ => .null)) := by rw [← hH1, Array.getElem?_push_size, ← arrV_new]
  have o1 : ∀ q : Nat, q < H.size → H1[q]? = H[q]? := fun q hq => by rw [← hH1, Array.getElem?_push, if_neg (Nat.ne_of_lt hq)]
  have hk : ∀ (k : Nat) (x : Nat × va_E), (fp_gv B n V)[k]? = some x → H1[x.1]? = H[x.1]? := fun k x hx => o1 x.1 ((hG.1 k x hx).lt)
  rw [show H.size = B + n from hG.2.2.1] at e1 z1 ⊢
  refine kk H1 ⟨?_, ⟨Nat.le_trans hG.2.1.1 (by rw [z1, hG.2.2.1]; omega), fun x h1 h2 => (o1 x (Nat.lt_of_lt_of_le h1 hG.2.1.1)).trans (hG.2.1.2.1 x h1 h2), hG.2.1.2.2⟩, by rw [z1]; omega, hG.2.2.2⟩
  rw [← fp_gv_push]
  refine (hG.1.kept hk).app (fun j x hx => ?_)
  have hz : j < 1 := (List.getElem?_eq_some_iff.mp hx).1
  rw [show j = 0 by omega] at hx
  cases hx
  show H1[B + n]? = some (vp_cell _ _)
  rw [vp_cell_q]
  exact e1
theorem fp_putFv (E : fp_EV p s m args meth c cc nL own rt D G) (hG : fp_HV D B s n V H locs) {ci N : Nat} {C : String} {T : u_T} {fs : List Value} (hin : ∀ w ∈ u_ws C T N, w ∈ fp_T) (ty0 : Nat → FieldType) (hty : ∀ k, k < N → parseFieldDescriptor (T k).2.2.1 = some (ty0 k)) (hnm : ∀ a, a < N → ∀ b, b < N → a ≠ b → (T a).2.1 ≠ (T b).2.1) (hk : k < n) (he : V k = .inr (ci, fs)) (hc : vwCl[ci]? = some (C, T, N)) (j : Nat) (hj : j < N) (hl : Cond.fieldLink own idx (T j).1 (T j).2.1 (T j).2.2.1 ∈ fp_T) (hfin : (T j).2.2.2 = true) (hin2 : meth.name = "<init>") (hdecl : (T j).1 = own) {ty : FieldType} {v : Value} (hd : parseFieldDescriptor (T j).2.2.1 = some ty) (hn : narrow ty v = v) (hfit : fits ty v = true) (hlen : j < fs.length) (hdg : decode cc pc = .ok (.putfield idx, 3))
    (kk : ∀ (H : Heap) (locs : List Loc), fp_HV D B s n (va_up V k (.inr (ci, fs.set j v))) H locs → W p l e R s m args below meth c H locs cells slots Q (F0 m (pc + 3) ls rest)) : W p l e R s m args below meth c H locs cells slots Q (F0 m pc ls (v :: .ref (B + k) :: rest)) := by
  have hap := va_apart (own := own) E.2.2.2.2.1 hin ty0 hty hnm E.2.2.2.2.2.1 hc
  have hat := hG.1 k _ (by rw [fp_gv_get hk, he])
  obtain ⟨r, h1, cell, q1, q2, q3, q4⟩ := hat
  obtain rfl : r = (C, T, N) := Option.some.inj (h1.symm.trans hc)
  obtain ⟨hSl, hfc, kC, hkC, hkind⟩ := E.2.2.2.2.2.1.1 ci _ hc
  obtain ⟨cf, kf, fi, f, hi, hsl⟩ := hSl j hj
  have hw := E.2.2.2.2.1 _ (hin _ (u_in_lay hj))
  unfold u_lay at hw
  rw [if_pos hfin] at hw
  have hcf : m.cls = cf := by
    obtain ⟨_, _, c', _, _, _, -, -, hf', -, -, -, hown2, -⟩ := Cond.laysFinal_spec hw
    have e1 : c' = cf := by have h2 := hi.symm.trans hf'; simp at h2; exact h2.1.symm
    rw [hdecl] at hown2
    rw [← e1]
    exact Option.some.inj (E.2.2.2.1.symm.trans hown2)
  have h6 := u_fits hfc hkC hkind (Or.inr hw) hi hd hn hfit
  refine W.putFinK E.1 E.2.1 E.2.2.2.1 (fp_tabs E hl) hi (u_facts hfc hkC (u_lays E.2.2.2.2.1 hin hj) hi).1 hcf hin2 (by rw [q2]; exact h6) q1 q3 (by rw [hsl]; exact k2_hasslot (q4 j hj)) rfl rfl hdg fun H1 e1 e2 e3 => ?_
  rw [hsl] at e1 ⊢
  refine kk H1 _ ⟨?_, hG.2.1.put e2 e3 (Nat.le_add_right B k), by rw [e2]; exact hG.2.2.1, hG.2.2.2⟩
  rw [← fp_gv_set]
  exact hG.1.set fp_gv_D (by rw [fp_gv_get hk, he]) ⟨_, hc, t_OB.to (V := updV (vp_V fs) j v) ⟨_, e1, q2, q3, t_set q4 hap hj v⟩ (fun i _ => vp_updV_set hlen v i)⟩ e3
theorem fp_putv (E : fp_EV p s m args meth c cc nL own rt D G) (hG : fp_HV D B s n V H locs) {ci N : Nat} {C : String} {T : u_T} {fs : List Value} (hin : ∀ w ∈ u_ws C T N, w ∈ fp_T) (ty0 : Nat → FieldType) (hty : ∀ k, k < N → parseFieldDescriptor (T k).2.2.1 = some (ty0 k)) (hnm : ∀ a, a < N → ∀ b, b < N → a ≠ b → (T a).2.1 ≠ (T b).2.1) (hk : k < n) (he : V k = .inr (ci, fs)) (hc : vwCl[ci]? = some (C, T, N)) (j : Nat) (hj : j < N) (hl : Cond.fieldLink own idx (T j).1 (T j).2.1 (T j).2.2.1 ∈ fp_T) (hfin : (T j).2.2.2 = false) {ty : FieldType} {v : Value} (hd : parseFieldDescriptor (T j).2.2.1 = some ty) (hn : narrow ty v = v) (hfit : fits ty v = true) (hlen : j < fs.length) (hdg : decode cc pc = .ok (.putfield idx, 3))
    (kk : ∀ (H : Heap) (locs : List Loc), fp_HV D B s n (va_up V k (.inr (ci, fs.set j v))) H locs → W p l e R s m args below meth c H locs cells slots Q (F0 m (pc + 3) ls rest)) : W p l e R s m args below meth c H locs cells slots Q (F0 m pc ls (v :: .ref (B + k) :: rest)) := by
  have hap := va_apart (own := own) E.2.2.2.2.1 hin ty0 hty hnm E.2.2.2.2.2.1 hc
  have hat := hG.1 k _ (by rw [fp_gv_get hk, he])
  obtain ⟨r, h1, cell, q1, q2, q3, q4⟩ := hat
  obtain rfl : r = (C, T, N) := Option.some.inj (h1.symm.trans hc)
  obtain ⟨hSl, hfc, kC, hkC, hkind⟩ := E.2.2.2.2.2.1.1 ci _ hc
  obtain ⟨cf, kf, fi, f, hi, hsl⟩ := hSl j hj
  have hw := E.2.2.2.2.1 _ (hin _ (u_in_lay hj))
  unfold u_lay at hw
  rw [if_neg (by rw [hfin]; decide)] at hw
  have h6 := u_store hfc hkC hkind hw hi hd hn hfit
  refine W.putK E.1 E.2.1 (f := f) ⟨E.2.2.2.1, fp_tabs E hl, ⟨_, _, _, hi⟩, (u_facts hfc hkC (u_lays E.2.2.2.2.1 hin hj) hi).1⟩ (by rw [q2]; exact h6) q1 q3 (by rw [hsl]; exact k2_hasslot (q4 j hj)) rfl rfl hdg fun H1 e1 e2 e3 => ?_
  rw [hsl] at e1 ⊢
  refine kk H1 _ ⟨?_, hG.2.1.put e2 e3 (Nat.le_add_right B k), by rw [e2]; exact hG.2.2.1, hG.2.2.2⟩
  rw [← fp_gv_set]
  exact hG.1.set fp_gv_D (by rw [fp_gv_get hk, he]) ⟨_, hc, t_OB.to (V := updV (vp_V fs) j v) ⟨_, e1, q2, q3, t_set q4 hap hj v⟩ (fun i _ => vp_updV_set hlen v i)⟩ e3
theorem fp_getv (E : fp_EV p s m args meth c cc nL own rt D G) (hG : fp_HV D B s n V H locs) {ci N : Nat} {C : String} {T : u_T} {fs : List Value} (hin : ∀ w ∈ u_ws C T N, w ∈ fp_T) (hk : k < n) (he : V k = .inr (ci, fs)) (hc : vwCl[ci]? = some (C, T, N)) (j : Nat) (hj : j < N) (hl : Cond.fieldLink own idx (T j).1 (T j).2.1 (T j).2.2.1 ∈ fp_T) {v : Value} (hv : fs[j]? = some v) (hdg : decode cc pc = .ok (.getfield idx, 3)) (kk : W p l e R s m args below meth c H locs cells slots Q (F0 m (pc + 3) ls (v :: rest))) : W p l e R s m args below meth c H locs cells slots Q (F0 m pc ls (.ref (B + k) :: rest)) :=
  va_get (ref := (T j).1) (D := D) (ci := ci) (v := v) (C := C) (T := T) (N := N) E.1 E.2.1 E.2.2.2.2.1 hin E.2.2.2.1 E.2.2.2.2.2.1 hG.1 k (by rw [fp_gv_get hk, he]) hc j hj (fp_tabs E hl) (fun _ h => h) hv hdg kk
theorem fp_metv {y : MethodName} {rm : Room} {av : List Value} {Qc : Array Value → State → Outcome → State → Prop} {mc ms : Nat} (hy : plainName y.cls = true) (hown : y.cls = own) (hav : (lg_sl av).length ≤ nL) (hn0 : y.name = "<init>")
    (body : ∀ {p : Program} {e : Env} {s : State} {m : MethodId} {args : Array Value} {below : List Frame} {meth : Method} {c : Code} {ls : Array Slot}, fp_EV p s m args meth c cc nL own rt D G → fp_HV D B s n V s.heap [] → fp_NW s → meth.name = "<init>" → lv_has ls nL (lv_args 0 av) → W p l e rm s m args below meth c s.heap [] 0 0 (MQ below Qc args s mc ms (fp_A B)) (F0 m 0 ls [])) :
    Met l y (Cond.code y cc nL rt :: fp_T) rm (va_Pc av (fp_GV D G B n V)) Qc mc ms (fp_A B) := by
  refine Met.ofW (cc := cc) (maxL := nL) (ret := rt) hy rfl ?_
  intro p e s m args below meth c s₁ Bd hml hv
  obtain ⟨rfl, hP, hK, hz, hN⟩ := hv
  have hts := atoms_spec (ws := Cond.code y cc nL rt :: fp_T) Bd.pre
  have hl := lv_entry av (n := nL) hav
  rw [lg_entry_eq]
  subst hown
  exact body ⟨Bd.exec, Bd.bytes, hml, findClass_of_methodNamed Bd.named, fun w hw => hts w (List.mem_cons_of_mem _ hw), hK, Bd.returns, Bd.notSynchronized⟩ ⟨hP, va_S.rf, hz, by rw [hz]; omega⟩ hN ((name_of_methodNamed Bd.named Bd.method).1.trans hn0) hl
abbrev fp_Qc (D : va_G) (G : Nat → ClassId) (B n : Nat) (V : Nat → va_E) : Array Value → State → Outcome → State → Prop := va_Qv (fun (_ : Unit) => True) (fun _ t => fp_GV D G B n V t) (fp_A B)
theorem fp_retc (E : fp_EV p s m args meth c cc nL own none D G) (hN : fp_NW s) {V' : Nat → va_E} (hG : fp_HV D B s n V H locs) (hV : ∀ q, q < n → V q = V' q) (hdg : decode cc pc = .ok (.return_, 1)) : W p l e R s m args below meth c H locs cells slots (MQ below (fp_Qc D G B n V') args s cells slots (fp_A B)) (F0 m pc ls []) :=
  W.vret E.1 E.2.1 E.2.2.2.2.2.2.1 (fun t ht hW => ⟨⟨(), rfl, trivial, ⟨by rw [ht, ← fp_gv_congr hV]; exact hG.1, va_K.moved hW.alike E.2.2.2.2.2.1, by rw [ht]; exact hG.2.2.1, fp_NW_warm hW hN⟩⟩, hG.2.1.F ht⟩) hG.2.1.2.2 hdg E.2.2.2.2.2.2.2
theorem fp_blindv {av : List Value} : FrameBlind (va_Pc av (fp_GV D G B n V)) := fun a U g mk q => ⟨q.1, q.2.1, va_K.moved (u := U) (U := U.calling g mk a) (Vm.Alike.refl U.vm) q.2.2.1, q.2.2.2.1, fp_NW_call q.2.2.2.2 a g mk⟩
theorem fp_callIN (E : fp_EV p s m args meth c cc nL own rt D G) (hG : fp_HV D B s n V H locs) {y : MethodName} {host : String} {b : ByteArray} {n' n1 mc ms : Nat} {rm : Room} {V1 : Nat → va_E}
    (hM : Met l y (Cond.code y b n' none :: fp_T) rm (va_Pc [.ref (B + k)] (fp_GV D G B n V)) (fp_Qc D G B n1 V1) mc ms (fp_A B)) (hN : fp_NW s) (hcv : fp_CV y b n' none 0) (hl : (own, idx, y, host) ∈ fp_nests) (hin : Cond.instanceMethod y ∈ fp_T) (hy : y.name = "<init>") (hrc : rm.cells = mc ∧ rm.slots = ms) (hr : rm.frames + 1 ≤ R.frames ∧ 8 + (n' + 11) + rm.locals ≤ R.locals)
    (hw : (rest.map fun v => v.category).sum ≤ 8) (hls : ls.size = nL) (hdg : decode cc pc = .ok (.invokespecial idx, 3)) (hcs : cells + mc ≤ R.cells ∧ slots + ms ≤ R.slots)
    (kk : ∀ (H : Heap) (locs : List Loc), fp_HV D B s n1 V1 H locs → W p l e R s m args below meth c H locs (cells + mc) (slots + ms) Q (F0 m (pc + 3) ls rest)) : W p l e R s m args below meth c H locs cells slots Q (F0 m pc ls (.ref (B + k) :: rest)) := by
  have hpay : ∀ w ∈ (Cond.code y b n' none :: fp_T), ∀ (a' : Array Value) (U : State), s.WarmedH U.vm → w.before a' U = true := by
    intro w hw a' U hW
    rcases List.mem_cons.mp hw with rfl | hw
    · exact word_at hW (fp_T_good hcv.1) (fp_tabs E hcv.1)
    · exact word_at hW (fp_T_good hw) (fp_tabs E hw)
  have har : ∀ sig, parseMethodDescriptor y.desc = some sig → 0 = sig.parameters.length := by
    intro sig h
    have h2 := hcv.2.2.2
    rw [h] at h2
    exact (Option.some.inj h2).symm
  exact va_callv (va_runIN (As := []) (rest := rest) ⟨E.1, E.2.1, E.2.2.1, E.2.2.2.1, E.2.2.2.2.1⟩ hM ⟨⟨⟨hrc.1, hrc.2, hr.1, hr.2, hpay, List.mem_cons_self⟩, fp_tabs E hcv.1, fp_tabs E hcv.2.1, hcv.2.2.1, har, va_Nw.use rfl (hN.1 _ hl)⟩, hy, fp_tabs E hin⟩ ⟨fp_blindv, fun U hU hW => ⟨rfl, by rw [hU]; exact hG.1, va_K.moved hW.alike E.2.2.2.2.2.1, by rw [hU]; exact hG.2.2.1, fp_NW_warm hW hN⟩⟩ rfl rfl hls rfl (lv_room hw) hdg hcs) hG.2.1 (fun q _ h => h) (fun q h => h) (fun u t H1 locs1 ht hvm hp hB hz hk1 hS => kk H1 locs1 ⟨by rw [← ht]; exact hB.1, hS, by rw [← ht]; exact hB.2.2.1, hG.2.2.2⟩)
theorem fp_callI (E : fp_EV p s m args meth c cc nL own rt D G) (hG : fp_HV D B s n V H locs) {y : MethodName} {host : String} {b : ByteArray} {n' n1 mc ms : Nat} {rm : Room} {V1 : Nat → va_E}
    (hM : Met l y (Cond.code y b n' none :: fp_T) rm (va_Pc [.ref (B + k)] (fp_GV D G B n V)) (fp_Qc D G B n1 V1) mc ms (fp_A B)) (hN : fp_NW s) (hcv : fp_CV y b n' none 0) (hl : Cond.methodLink own idx y ∈ fp_T) (hin : Cond.instanceMethod y ∈ fp_T) (hy : y.name = "<init>") (hrc : rm.cells = mc ∧ rm.slots = ms) (hr : rm.frames + 1 ≤ R.frames ∧ 8 + (n' + 11) + rm.locals ≤ R.locals)
    (hw : (rest.map fun v => v.category).sum ≤ 8) (hls : ls.size = nL) (hdg : decode cc pc = .ok (.invokespecial idx, 3)) (hcs : cells + mc ≤ R.cells ∧ slots + ms ≤ R.slots)
    (kk : ∀ (H : Heap) (locs : List Loc), fp_HV D B s n1 V1 H locs → W p l e R s m args below meth c H locs (cells + mc) (slots + ms) Q (F0 m (pc + 3) ls rest)) : W p l e R s m args below meth c H locs cells slots Q (F0 m pc ls (.ref (B + k) :: rest)) := by
  have hpay : ∀ w ∈ (Cond.code y b n' none :: fp_T), ∀ (a' : Array Value) (U : State), s.WarmedH U.vm → w.before a' U = true := by
    intro w hw a' U hW
    rcases List.mem_cons.mp hw with rfl | hw
    · exact word_at hW (fp_T_good hcv.1) (fp_tabs E hcv.1)
    · exact word_at hW (fp_T_good hw) (fp_tabs E hw)
  have har : ∀ sig, parseMethodDescriptor y.desc = some sig → 0 = sig.parameters.length := by
    intro sig h
    have h2 := hcv.2.2.2
    rw [h] at h2
    exact (Option.some.inj h2).symm
  exact va_callv (va_runI (As := []) (rest := rest) ⟨E.1, E.2.1, E.2.2.1, E.2.2.2.1, E.2.2.2.2.1⟩ hM ⟨⟨hrc.1, hrc.2, hr.1, hr.2, hpay, List.mem_cons_self, fp_tabs E hcv.1, fp_tabs E hcv.2.1, hcv.2.2.1, har, fp_tabs E hl⟩, hy, fp_tabs E hin⟩ ⟨fp_blindv, fun U hU hW => ⟨rfl, by rw [hU]; exact hG.1, va_K.moved hW.alike E.2.2.2.2.2.1, by rw [hU]; exact hG.2.2.1, fp_NW_warm hW hN⟩⟩ rfl rfl hls rfl (lv_room hw) hdg hcs) hG.2.1 (fun q _ h => h) (fun q h => h) (fun u t H1 locs1 ht hvm hp hB hz hk1 hS => kk H1 locs1 ⟨by rw [← ht]; exact hB.1, hS, by rw [← ht]; exact hB.2.2.1, hG.2.2.2⟩)
theorem fp_astq (E : fp_EV p s m args meth c cc nL own rt D G) (hG : fp_HV D B s n V H locs) {L v : Nat} {vs : List Value} {f : Nat → Option Nat} (hk : k < n) (he : V k = .inl (G 3, (L, .inr (.inr (.inr (.inr f)))))) (hv : v < n) (hev : V v = .inr (9, vs)) {i : Nat} (hi : i < L) (hL : L < 1000) (hdg : decode cc pc = .ok (.aastore, 1))
    (kk : ∀ (H : Heap) (locs : List Loc), fp_HV D B s n (va_up V k (.inl (G 3, (L, .inr (.inr (.inr (.inr (va_up f i (some (B + v)))))))))) H locs → W p l e R s m args below meth c H locs cells slots Q (F0 m (pc + 1) ls rest)) : W p l e R s m args below meth c H locs cells slots Q (F0 m pc ls (.ref (B + v) :: .int (nI i) :: .ref (B + k) :: rest)) := by
  have ha : (fp_gv B n V)[k]? = some (B + k, .inl (G 3, (L, .inr (.inr (.inr (.inr f)))))) := by rw [fp_gv_get hk, he]
  obtain ⟨r', hr', cellV, g1, g2, g3, -⟩ := hG.1 v _ (by rw [fp_gv_get hv, hev])
  have hcls := (E.2.2.2.2.2.1.1 9 _ rfl).2
  obtain ⟨kA, comp, k1, k2, k3, -⟩ := (E.2.2.2.2.2.1.2 3 _ rfl).2
  obtain rfl : comp = D.1 9 := Option.some.inj (k3.symm.trans hcls.1)
  obtain ⟨kC, hkC, -⟩ := hcls.2
  refine W.aast E.1 E.2.1 (hG.1 k _ ha) (fun q h => by cases h) (fun h => by cases h) k1 k2 rfl hkC ⟨nI_pos (by omega), by show _ < (arrV _ _ _).slots.size; rw [arrV_size, nI_clamp (by omega)]; exact hi⟩ g1 (fun q h => by rw [g3] at h; cases h) (by rw [g2]; exact hkC) (by rw [g2]; exact va_assign hcls) rfl rfl hdg fun H1 e z oq => ?_
  refine kk H1 _ ⟨?_, hG.2.1.put z oq (Nat.le_add_right B k), by rw [z]; exact hG.2.2.1, hG.2.2.2⟩
  rw [← fp_gv_set]
  refine hG.1.set fp_gv_D ha ?_ oq
  show H1[B + k]? = some (vp_cell _ _)
  rw [e, vp_cell_q, vp_cell_q, nI_clamp (by omega), arrV_store]
  congr 2
  funext q
  by_cases hq : q = i
  · subst hq
    simp [updV, va_up, va_rf]
  · simp [updV, va_up, hq]
end FPC

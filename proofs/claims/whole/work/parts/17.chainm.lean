/-! the model's chains: joined, findAway, nextOf, lastOf, movers -/
def MR (M : fp_Mem) (nt nw : Nat) (fa fb : Nat → Nat) : Prop := nt ≤ 9 ∧ nw ≤ 14 ∧ M 120 1 = nI nt ∧ M 120 2 = nI nw ∧ ∀ w, w < nw → M 121 w = nI (fa w) ∧ M 122 w = nI (fb w) ∧ fa w < nt ∧ fb w < nt ∧ fa w ≠ fb w
theorem m_has_sh (M : fp_Mem) (sh : Int32) {w : Nat} (hw : w < 14) : m_X12_has M sh (nI w) = some (if opn sh w = true then nI 0 else nI 1) := by
  rw [m_X12_has]
  cases ho : opn sh w with
  | true =>
    rw [opn_t ho, if_neg (by decide), m_X12_has_14]
    rfl
  | false =>
    rw [(q_bit01 sh hw).resolve_left (opn_f ho), if_pos rfl, m_X12_has_14]
    rfl
theorem m_joined {M : fp_Mem} {nt nw : Nat} {fa fb : Nat → Nat} (hR : MR M nt nw fa fb) {t : Nat} (ht : t < 9) : ∃ x, m_X12_joined M (nI t) = some x ∧ isM x (adjN (M 123 19) fa fb nw t) := by
  obtain ⟨h9, h14, hr1, hr2, hw⟩ := hR
  obtain ⟨n1, s1, hI, he⟩ := loopI (fun n i s => m_X12_joined_4 M (nI t) n s (nI i)) nw (fun i s => isM s (adjN (M 123 19) fa fb i t)) (by
    intro n i s hi hI
    obtain ⟨a1, a2, b1, b2, b3⟩ := hw i hi
    have hh := m_has_sh M (M 123 19) (w := i) (by omega)
    cases ho : opn (M 123 19) i with
    | false =>
      refine ⟨s, isM_adj_f hI ho, ?_⟩
      show m_X12_joined_4 M (nI t) (n + 1) s (nI i) = _
      rw [m_X12_joined_4, hr2, if_neg (nI_ge hi (by omega)), fp_inN (show 19 < 25 by decide) (by decide), fp_gdt, q_cl (by decide), hh, ho, fp_b1t]
      rw [if_neg (by decide), m_X12_joined_31, if_pos (by decide), m_X12_joined_60, m_X12_joined_61, fp_ltt, if_pos (by decide), m_X12_joined_90, m_X12_joined_91, fp_ltt, fp_ltt, nI_add, or_0, or_0]
    | true =>
      by_cases c1 : fa i = t
      · have c2 : ¬ fb i = t := fun e => b3 (c1.trans e.symm)
        refine ⟨_, isM_congr (isM_or hI (isM_bit (t := fb i) (by omega))) (fun u _ => ?_), ?_⟩
        · have d1 : (fa i == t) = true := by simp [c1]
          have d2 : (fb i == t) = false := by simp [c2]
          have d3 : (u == fb i) = (fb i == u) := by rw [Bool.beq_comm]
          simp [adjN, ho, d1, d2, d3]
        · show m_X12_joined_4 M (nI t) (n + 1) s (nI i) = _
          rw [m_X12_joined_4, hr2, if_neg (nI_ge hi (by omega)), fp_inN (show 19 < 25 by decide) (by decide), fp_gdt, q_cl (by decide), hh, ho, fp_b1t]
          rw [if_pos (by decide), m_X12_joined_31, if_neg (by decide), fp_inN (show i < 14 by omega) (by decide), fp_gdt, q_cl (by omega), a1, c1, if_pos rfl, fp_gdt, m_X12_joined_61, fp_ltt, if_neg (by decide), fp_inN (show i < 14 by omega) (by decide), fp_gdt, q_cl (by omega), a2, if_neg (fun e => c2 ((nI_eq (by omega) (by omega)).mp e)), m_X12_joined_90, m_X12_joined_91, fp_ltt, fp_ltt, nI_add, or_0]
      · by_cases c2 : fb i = t
        · refine ⟨_, isM_congr (isM_or hI (isM_bit (t := fa i) (by omega))) (fun u _ => ?_), ?_⟩
          · have d1 : (fa i == t) = false := by simp [c1]
            have d2 : (fb i == t) = true := by simp [c2]
            have d3 : (u == fa i) = (fa i == u) := by rw [Bool.beq_comm]
            simp [adjN, ho, d1, d2, d3]
          · show m_X12_joined_4 M (nI t) (n + 1) s (nI i) = _
            rw [m_X12_joined_4, hr2, if_neg (nI_ge hi (by omega)), fp_inN (show 19 < 25 by decide) (by decide), fp_gdt, q_cl (by decide), hh, ho, fp_b1t]
            rw [if_pos (by decide), m_X12_joined_31, if_neg (by decide), fp_inN (show i < 14 by omega) (by decide), fp_gdt, q_cl (by omega), a1, if_neg (fun e => c1 ((nI_eq (by omega) (by omega)).mp e)), m_X12_joined_60, m_X12_joined_61, fp_ltt, if_neg (by decide), fp_inN (show i < 14 by omega) (by decide), fp_gdt, q_cl (by omega), a2, if_pos (by rw [c2]), fp_gdt, a1, m_X12_joined_91, fp_ltt, fp_ltt, nI_add, or_0]
        · refine ⟨s, isM_congr hI (fun u _ => ?_), ?_⟩
          · have d1 : (fa i == t) = false := by simp [c1]
            have d2 : (fb i == t) = false := by simp [c2]
            simp [adjN, d1, d2]
          · show m_X12_joined_4 M (nI t) (n + 1) s (nI i) = _
            rw [m_X12_joined_4, hr2, if_neg (nI_ge hi (by omega)), fp_inN (show 19 < 25 by decide) (by decide), fp_gdt, q_cl (by decide), hh, ho, fp_b1t]
            rw [if_pos (by decide), m_X12_joined_31, if_neg (by decide), fp_inN (show i < 14 by omega) (by decide), fp_gdt, q_cl (by omega), a1, if_neg (fun e => c1 ((nI_eq (by omega) (by omega)).mp e)), m_X12_joined_60, m_X12_joined_61, fp_ltt, if_neg (by decide), fp_inN (show i < 14 by omega) (by decide), fp_gdt, q_cl (by omega), a2, if_neg (fun e => c2 ((nI_eq (by omega) (by omega)).mp e)), m_X12_joined_90, m_X12_joined_91, fp_ltt, fp_ltt, nI_add, or_0, or_0]) nw 0 fp_fu (nI 0) (by omega) (fu_lt (by omega)) isM_0
  refine ⟨s1, ?_, hI⟩
  rw [m_X12_joined]
  refine he.trans ?_
  show m_X12_joined_4 M (nI t) (n1 + 1) s1 (nI nw) = _
  rw [m_X12_joined_4, hr2, if_pos (nI_le (Nat.le_refl _) (by omega))]
/-- how far, as the model holds it once the steps up to d are done -/
def vd (d x : Nat) : Int32 := nI (if x ≤ d then x else 1000)
theorem vd_eq {d e x : Nat} (hx : x ≤ 9) (he : e < 9) (hd : d < 9) : (vd d x = nI e) ↔ (x = e ∧ e ≤ d) := by
  unfold vd
  by_cases h : x ≤ d
  · rw [if_pos h, nI_eq (by omega) (by omega)]
    exact ⟨fun q => ⟨q, by omega⟩, fun q => q.1⟩
  · rw [if_neg h, nI_eq (by decide) (by omega)]
    exact ⟨fun q => by omega, fun q => by omega⟩
theorem MR_fr {M M' : fp_Mem} {nt nw : Nat} {fa fb : Nat → Nat} (hR : MR M nt nw fa fb) (h : fr (fun q => q = 130) M M') : MR M' nt nw fa fb := by
  obtain ⟨h9, h14, hr1, hr2, hw⟩ := hR
  refine ⟨h9, h14, by rw [h 120 (by decide)]; exact hr1, by rw [h 120 (by decide)]; exact hr2, fun w hw2 => ?_⟩
  rw [h 121 (by decide), h 122 (by decide)]
  exact hw w hw2
/-- one table's turn of the step d + 1 -/
theorem m_away_in {s : fp_Mem} {nt nw d t : Nat} {fa fb : Nat → Nat} {O : Nat → Bool} {x : Int32} (K46 : Int32 → fp_Mem → Option fp_Mem) (K54 : Int32 → Int32 → fp_Mem → Option fp_Mem) (h9 : nt ≤ 9) (h1 : s 120 1 = nI nt) (hd : d + 1 < 9) (ht : t < nt) (A : Nat → Nat → Bool) (hx : isM x (A t))
    (hs : ∀ v, v < 9 → s 130 v = if v < t then vd (d + 1) (dst nt A O v) else vd d (dst nt A O v)) :
    ∃ s', m_X12_findAway_71 K46 K54 fp_fu (nI (d + 1)) (nI t) x (nI 0) s = K54 (nI (d + 1)) (nI (t + 1)) s' ∧ fr (fun q => q = 130) s s' ∧ ∀ v, v < 9 → s' 130 v = if v < t + 1 then vd (d + 1) (dst nt A O v) else vd d (dst nt A O v) := by
  have hd9 : ∀ v, dst nt A O v ≤ 9 := fun v => dst_le9 v
  obtain ⟨n1, s1, ⟨i1, i2, i3⟩, he⟩ := loopI (fun n i s => m_X12_findAway_71 K46 K54 n (nI (d + 1)) (nI t) x (nI i) s) nt (fun u s' => fr (fun q => q = 130) s s' ∧ (∀ v, v < 9 → v ≠ t → s' 130 v = if v < t then vd (d + 1) (dst nt A O v) else vd d (dst nt A O v)) ∧ s' 130 t = nI (if dst nt A O t ≤ d then dst nt A O t else if anyT (fun u' => A t u' && decide (dst nt A O u' = d)) u then d + 1 else 1000)) (by
    rintro n u s' hu ⟨i1, i2, i3⟩
    have hs1 : s' 120 1 = nI nt := by rw [i1 120 (by decide)]; exact h1
    have hu9 : u < 9 := by omega
    have keep : ∀ (b : Bool), (A t u && decide (dst nt A O u = d)) = false → m_X12_findAway_71 K46 K54 (n + 1) (nI (d + 1)) (nI t) x (nI u) s' = m_X12_findAway_71 K46 K54 n (nI (d + 1)) (nI t) x (nI (u + 1)) (fp_set s' 130 t (s' 130 t)) → ∃ s'', (fr (fun q => q = 130) s s'' ∧ (∀ v, v < 9 → v ≠ t → s'' 130 v = if v < t then vd (d + 1) (dst nt A O v) else vd d (dst nt A O v)) ∧ s'' 130 t = nI (if dst nt A O t ≤ d then dst nt A O t else if anyT (fun u' => A t u' && decide (dst nt A O u' = d)) (u + 1) then d + 1 else 1000)) ∧ m_X12_findAway_71 K46 K54 (n + 1) (nI (d + 1)) (nI t) x (nI u) s' = m_X12_findAway_71 K46 K54 n (nI (d + 1)) (nI t) x (nI (u + 1)) s'' := by
      intro _ hf hq
      refine ⟨fp_set s' 130 t (s' 130 t), ⟨fr_tr i1 (fr_set rfl), fun v hv hvt => by rw [set_ne hvt]; exact i2 v hv hvt, ?_⟩, hq⟩
      rw [set_at, i3, anyT]
      simp only [hf, Bool.or_false]
    have hfin : m_X12_findAway_121 K46 K54 (m_X12_findAway_71 K46 K54 n) (nI (d + 1)) (nI t) x (nI u) (nI t) s' = m_X12_findAway_71 K46 K54 n (nI (d + 1)) (nI t) x (nI (u + 1)) (fp_set s' 130 t (s' 130 t)) := by
      rw [m_X12_findAway_121, fp_inN (show t < 9 by omega) (by decide), fp_gdt, m_X12_findAway_127, fp_inN (show t < 9 by omega) (by decide), fp_gdt, fp_ltt, fp_ltt, nI_add, q_cl (by omega)]
    by_cases c1 : s' 130 t ≤ nI (d + 1)
    · -- already found
      have hdone : (if dst nt A O t ≤ d then dst nt A O t else if anyT (fun u' => A t u' && decide (dst nt A O u' = d)) u then d + 1 else 1000) = (if dst nt A O t ≤ d then dst nt A O t else if anyT (fun u' => A t u' && decide (dst nt A O u' = d)) (u + 1) then d + 1 else 1000) := by
        rw [i3] at c1
        by_cases e1 : dst nt A O t ≤ d
        · rw [if_pos e1, if_pos e1]
        · rw [if_neg e1] at c1 ⊢
          rw [if_neg e1]
          by_cases e2 : anyT (fun u' => A t u' && decide (dst nt A O u' = d)) u = true
          · rw [if_pos e2, anyT, e2]
            rfl
          · rw [if_neg e2, q_le (by decide) (by omega)] at c1
            omega
      refine ⟨fp_set s' 130 t (s' 130 t), ⟨fr_tr i1 (fr_set rfl), fun v hv hvt => by rw [set_ne hvt]; exact i2 v hv hvt, by rw [set_at, i3, hdone]⟩, ?_⟩
      show m_X12_findAway_71 K46 K54 (n + 1) (nI (d + 1)) (nI t) x (nI u) s' = _
      rw [m_X12_findAway_71, hs1, if_neg (nI_ge hu (by omega)), fp_inN (show t < 9 by omega) (by decide), fp_gdt, q_cl (by omega), if_pos c1, hfin]
    · have htd : ¬ dst nt A O t ≤ d := by
        intro e1
        apply c1
        rw [i3, if_pos e1, q_le (by omega) (by omega)]
        omega
      cases ha : A t u with
      | false =>
        refine keep true (by rw [ha]; rfl) ?_
        rw [m_X12_findAway_71, hs1, if_neg (nI_ge hu (by omega)), fp_inN (show t < 9 by omega) (by decide), fp_gdt, q_cl (by omega), if_neg c1, m_has_eq hx hu9, fp_b1t, ha, if_pos (by decide), hfin]
      | true =>
        have hrd : s' 130 u = nI d ↔ dst nt A O u = d := by
          by_cases e : u = t
          · subst e
            rw [i3, if_neg htd]
            constructor
            · intro q
              by_cases e2 : anyT (fun u' => A u u' && decide (dst nt A O u' = d)) u = true
              · rw [if_pos e2, nI_eq (by omega) (by omega)] at q
                omega
              · rw [if_neg e2, nI_eq (by decide) (by omega)] at q
                omega
            · intro q
              omega
          · rw [i2 u hu9 e]
            by_cases e2 : u < t
            · rw [if_pos e2, vd_eq (hd9 u) (by omega) hd]
              exact ⟨fun q => q.1, fun q => ⟨q, by omega⟩⟩
            · rw [if_neg e2, vd_eq (hd9 u) (by omega) (by omega)]
              exact ⟨fun q => q.1, fun q => ⟨q, by omega⟩⟩
        have hpre : ∀ (y : Option fp_Mem), (fp_gd (fp_in (nI u) 9) (if s' 130 (Int32.toNatClampNeg (nI u)) = nI (d + 1) - nI 1 then m_X12_findAway_127 K46 K54 (m_X12_findAway_71 K46 K54 n) (nI (d + 1)) (nI t) x (nI u) (nI t) (nI (d + 1)) s' else m_X12_findAway_121 K46 K54 (m_X12_findAway_71 K46 K54 n) (nI (d + 1)) (nI t) x (nI u) (nI t) s')) = y → m_X12_findAway_71 K46 K54 (n + 1) (nI (d + 1)) (nI t) x (nI u) s' = y := by
          intro y hy
          rw [m_X12_findAway_71, hs1, if_neg (nI_ge hu (by omega)), fp_inN (show t < 9 by omega) (by decide), fp_gdt, q_cl (show t < 2 ^ 31 by omega), if_neg c1, m_has_eq hx hu9, fp_b1t, ha, if_neg (by decide)]
          exact hy
        by_cases hdu : dst nt A O u = d
        · refine ⟨fp_set s' 130 t (nI (d + 1)), ⟨fr_tr i1 (fr_set rfl), fun v hv hvt => by rw [set_ne hvt]; exact i2 v hv hvt, ?_⟩, ?_⟩
          · rw [set_at, if_neg htd, anyT]
            simp [ha, hdu]
          · refine hpre _ ?_
            rw [fp_inN hu9 (by decide), fp_gdt, q_cl (by omega), q_sub (by omega), Nat.add_sub_cancel, if_pos (hrd.mpr hdu), m_X12_findAway_127, fp_inN (show t < 9 by omega) (by decide), fp_gdt, fp_ltt, fp_ltt, nI_add, q_cl (by omega)]
        · refine keep true (by simp [hdu]) (hpre _ ?_)
          rw [fp_inN hu9 (by decide), fp_gdt, q_cl (by omega), q_sub (by omega), Nat.add_sub_cancel, if_neg (fun e => hdu (hrd.mp e)), hfin]) nt 0 fp_fu s (by omega) (fu_lt (by omega)) ⟨fr_rf, fun v hv _ => hs v hv, by
        rw [hs t (by omega), if_neg (Nat.lt_irrefl t), vd]
        simp [anyT]⟩
  refine ⟨s1, ?_, i1, fun v hv => ?_⟩
  · refine he.trans ?_
    show m_X12_findAway_71 K46 K54 (n1 + 1) (nI (d + 1)) (nI t) x (nI nt) s1 = _
    rw [m_X12_findAway_71, show s1 120 1 = nI nt by rw [i1 120 (by decide)]; exact h1, if_pos (nI_le (Nat.le_refl _) (by omega)), fp_ltt, nI_add]
  · by_cases e : v = t
    · subst e
      rw [if_pos (Nat.lt_succ_self v), i3, vd]
      have e := dst_s (nt := nt) (A := A) (O := O) (t := v) hd
      congr 1
      by_cases c1 : dst nt A O v ≤ d
      · rw [if_pos c1, if_pos (by omega)]
      · rw [if_neg c1]
        by_cases c2 : anyT (fun u' => A v u' && decide (dst nt A O u' = d)) nt = true
        · rw [if_pos c2]
          obtain ⟨u, hu, hp⟩ := anyT_e c2
          simp only [Bool.and_eq_true, decide_eq_true_eq] at hp
          have := e.mpr ⟨ht, c1, u, hu, hp.1, hp.2⟩
          rw [if_pos (by omega), this]
        · rw [if_neg c2, if_neg]
          intro hle
          apply c2
          obtain ⟨-, -, u, hu, ha, hdu⟩ := e.mp (by omega)
          exact anyT_y hu (by simp [ha, hdu])
    · rw [i2 v hv e]
      by_cases e2 : v < t
      · rw [if_pos e2, if_pos (by omega)]
      · rw [if_neg e2, if_neg (by omega)]
theorem m_findAway {M : fp_Mem} {nt nw : Nat} {fa fb : Nat → Nat} {se si : Nat → Nat} (hR : MR M nt nw fa fb) (hS : MS M se si) :
    ∃ M', m_X12_findAway M = some M' ∧ fr (fun q => q = 130) M M' ∧ ∀ v, v < 9 → M' 130 v = nI (dv (dst nt (adjN (M 123 19) fa fb nw) (fun t => decide (2 ≤ se t - si t)) v)) := by
  have h9 := hR.1
  generalize hA : adjN (M 123 19) fa fb nw = A
  generalize hO : (fun t => decide (2 ≤ se t - si t)) = O
  -- the start
  obtain ⟨n1, M1, ⟨f1, f2⟩, he1⟩ := loopI (fun n i s => m_X12_findAway_2 n (nI i) s) 9 (fun i s => fr (fun q => q = 130) M s ∧ ∀ v, v < i → s 130 v = vd 0 (dst nt A O v)) (by
    rintro n i s hi ⟨f1, f2⟩
    have hR' := MR_fr hR f1
    have hS' : MS s se si := fun t ht => by rw [f1 123 (by decide)]; exact hS t ht
    refine ⟨fp_set s 130 i (vd 0 (dst nt A O i)), ⟨fr_tr f1 (fr_set rfl), fun v hv => ?_⟩, ?_⟩
    · rw [set_q]
      by_cases e : v = i
      · simp [e]
      · rw [if_neg (by simp [e])]
        exact f2 v (by omega)
    · show m_X12_findAway_2 (n + 1) (nI i) s = _
      by_cases hin : i < nt
      · have e0 := dst_0 (A := A) (O := O) hin
        have h4 := (hS' i (by omega)).2.2.2
        rw [m_X12_findAway_2, if_neg (nI_ge hi (by decide)), hR'.2.2.1, if_neg (nI_ge hin (by omega)), m_free hS' (by omega), fp_b1t]
        rw [← hO] at e0
        simp only [decide_eq_true_eq] at e0
        by_cases c : 2 ≤ se i - si i
        · rw [if_neg (by rw [q_le (by omega) (by decide)]; omega), m_X12_findAway_37, fp_inN (show i < 9 by omega) (by decide), fp_gdt, fp_ltt, fp_ltt, nI_add, q_cl (by omega), vd, ← hO, e0.mpr c]
          rfl
        · have c2 : ¬ dst nt A O i ≤ 0 := fun q => c (e0.mp (by rw [hO]; omega))
          rw [if_pos (by rw [q_le (by omega) (by decide)]; omega), m_X12_findAway_34, m_X12_findAway_37, fp_inN (show i < 9 by omega) (by decide), fp_gdt, fp_ltt, fp_ltt, nI_add, q_cl (by omega), vd, if_neg c2]
      · have c2 : ¬ dst nt A O i ≤ 0 := fun q => hin (dst_lt (A := A) (O := O) (by omega))
        rw [m_X12_findAway_2, if_neg (nI_ge hi (by decide)), hR'.2.2.1, if_pos (nI_le (by omega) (by omega)), m_X12_findAway_34, m_X12_findAway_37, fp_inN (show i < 9 by omega) (by decide), fp_gdt, fp_ltt, fp_ltt, nI_add, q_cl (by omega), vd, if_neg c2]) 9 0 fp_fu M rfl (fu_lt (by decide)) ⟨fr_rf, fun v hv => absurd hv (Nat.not_lt_zero v)⟩
  -- step by step
  obtain ⟨n2, M2, ⟨g1, g2⟩, he2⟩ := loopI (fun n i s => m_X12_findAway_46 n (nI i) s) 9 (fun d s => 1 ≤ d ∧ fr (fun q => q = 130) M s ∧ ∀ v, v < 9 → s 130 v = vd (d - 1) (dst nt A O v)) (by
    rintro n d s hd ⟨d1, g1, g2⟩
    obtain ⟨c, rfl⟩ : ∃ c, d = c + 1 := ⟨d - 1, by omega⟩
    rw [Nat.add_sub_cancel] at g2
    obtain ⟨n3, M3, ⟨k1, k2⟩, he3⟩ := loopI (fun n' t s' => m_X12_findAway_54 (m_X12_findAway_46 n) n' (nI (c + 1)) (nI t) s') nt (fun t s' => fr (fun q => q = 130) M s' ∧ ∀ v, v < 9 → s' 130 v = if v < t then vd (c + 1) (dst nt A O v) else vd c (dst nt A O v)) (by
      rintro n' t s' ht ⟨k1, k2⟩
      have hR' := MR_fr hR k1
      obtain ⟨x, hx1, hx2⟩ := m_joined hR' (t := t) (by omega)
      rw [k1 123 (by decide), hA] at hx2
      obtain ⟨s'', l1, l2, l3⟩ := m_away_in (nw := nw) (fa := fa) (fb := fb) (O := O) (m_X12_findAway_46 n) (m_X12_findAway_54 (m_X12_findAway_46 n) n') h9 hR'.2.2.1 hd ht A hx2 k2
      refine ⟨s'', ⟨fr_tr k1 l2, l3⟩, ?_⟩
      show m_X12_findAway_54 (m_X12_findAway_46 n) (n' + 1) (nI (c + 1)) (nI t) s' = _
      rw [m_X12_findAway_54, hR'.2.2.1, if_neg (nI_ge ht (by omega)), hx1, fp_b1t, l1]) nt 0 fp_fu s (by omega) (fu_lt (by omega)) ⟨g1, fun v hv => by rw [if_neg (Nat.not_lt_zero v)]; exact g2 v hv⟩
    refine ⟨M3, ⟨by omega, k1, fun v hv => ?_⟩, ?_⟩
    · rw [k2 v hv, Nat.add_sub_cancel]
      by_cases e : v < nt
      · rw [if_pos e]
      · rw [if_neg e]
        have h2 : ¬ dst nt A O v ≤ c + 1 := fun q => e (dst_lt (A := A) (O := O) (by omega))
        have h3 : ¬ dst nt A O v ≤ c := by omega
        rw [vd, vd, if_neg h2, if_neg h3]
    · show m_X12_findAway_46 (n + 1) (nI (c + 1)) s = _
      rw [m_X12_findAway_46, if_neg (nI_ge hd (by decide))]
      refine he3.trans ?_
      show m_X12_findAway_54 (m_X12_findAway_46 n) (n3 + 1) (nI (c + 1)) (nI nt) M3 = _
      rw [m_X12_findAway_54, (MR_fr hR k1).2.2.1, if_pos (nI_le (Nat.le_refl _) (by omega)), fp_ltt, nI_add]) 8 1 fp_fu M1 rfl (fu_lt (by decide)) ⟨Nat.le_refl _, f1, f2⟩
  refine ⟨M2, ?_, g2.1, fun v hv => ?_⟩
  · rw [m_X12_findAway]
    refine he1.trans ?_
    show m_X12_findAway_2 (n1 + 1) (nI 9) M1 = _
    rw [m_X12_findAway_2, if_pos (nI_le (Nat.le_refl _) (by decide))]
    refine he2.trans ?_
    show m_X12_findAway_46 (n2 + 1) (nI 9) M2 = _
    rw [m_X12_findAway_46, if_pos (nI_le (Nat.le_refl _) (by decide))]
  · rw [g2.2 v hv, vd, dv]
    by_cases h : dst nt A O v < 9
    · rw [if_pos h, if_pos (show dst nt A O v ≤ 9 - 1 by omega)]
    · rw [if_neg h, if_neg (show ¬ dst nt A O v ≤ 9 - 1 by omega)]

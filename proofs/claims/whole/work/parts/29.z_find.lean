/-! chairs: the program's frame, the model's search -/
theorem c_opened {M : fp_Mem} {nt nw m : Nat} {fa fb : Nat → Nat} {se si : Nat → Nat} {X : Nat → Bool} {x : Int32} (hR : CR M 8 nt nw fa fb) (hS : CS M 13 se si) (hx : isM x X) (hm : m ≤ 8) :
    ∃ r M', m_X10_opened M 8 13 x (nI m) = some (r, M') ∧ fr (fun q => q = 28 ∨ q = 29 ∨ q = 42) M M' ∧ ((r = (-1 : Int32) ∧ ∀ j, j < 512 → ¬ cand nt (adjN (M 13 3) fa fb nw) X m se si j.testBit) ∨ ∃ B, B < 512 ∧ r = nI B ∧ cand nt (adjN (M 13 3) fa fb nw) X m se si B.testBit ∧ ∀ j, j < 512 → cand nt (adjN (M 13 3) fa fb nw) X m se si j.testBit → vv se si B.testBit ≤ vv se si j.testBit) := by
  have hn := hR.1
  have hA := okA_is hR (M 13 3)
  obtain ⟨M1, p1, J1, f1⟩ := c_join (k := 28) (sh := M 13 3) hR (by omega)
  generalize adjN (M 13 3) fa fb nw = A at hA J1 ⊢
  have r1 : M 8 3 = nI nt := hR.2.2.1
  obtain ⟨n1, s, ⟨i1, i2⟩, he⟩ := loopI (fun n i s => m_X10_opened_15 8 13 x (nI m) n (nI i) s) nt (fun i s => fr (fun q => q = 42) M1 s ∧ ∀ t, t < i → isM (s 42 t) (R0 nt A t m)) (by
    rintro n i s hi ⟨i1, i2⟩
    have J : CJ s 28 nt A := by
      unfold CJ
      rw [i1 28 (by decide), i1 (28 + 1) (by decide)]
      exact J1
    obtain ⟨y, q1, q2⟩ := c_within J hn hA hi hm
    refine ⟨fp_set s 42 i y, ⟨fr_tr i1 (fr_set rfl), fun t ht => ?_⟩, ?_⟩
    · rw [set_q]
      by_cases e : t = i
      · rw [if_pos ⟨rfl, e⟩, e]
        exact q2
      · rw [if_neg (fun z => e z.2)]
        exact i2 t (by omega)
    · show m_X10_opened_15 8 13 x (nI m) (n + 1) (nI i) s = _
      rw [m_X10_opened_15, i1 8 (by decide), f1 8 (by decide), r1, if_neg (nI_ge hi (by omega)), q1, fp_b1t, fp_inN (show i < 9 by omega) (by decide), fp_gdt, fp_ltt, fp_ltt, nI_add, q_cl (by omega)]) nt 0 fp_fu M1 (by omega) (fu_lt (by omega)) ⟨fr_rf, fun t ht => absurd ht (Nat.not_lt_zero t)⟩
  have f2 : fr (fun q => q = 28 ∨ q = 29 ∨ q = 42) M s := fr_tr (fr_mono f1 (fun q h => by omega)) (fr_mono i1 (fun q h => by omega))
  have r2 : s 8 3 = nI nt := by rw [f2 8 (by decide)]; exact r1
  have hS2 : CS s 13 se si := by
    unfold CS
    rw [f2 (13 + 1) (by decide), f2 (13 + 2) (by decide)]
    exact hS
  obtain ⟨w, w1, w2⟩ := c_wfb (b := 2) hS2 hn (by decide)
  have hall := isM_all hn
  have hopen : isM ((((nI 1) <<< (nI nt &&& 31)) - nI 1) &&& (w ^^^ (-1 : Int32))) (fun t => decide (t < nt) && decide (2 ≤ se t - si t)) := isM_congr (isM_diff hall w2) (fun t _ => by
    by_cases a : t < nt
    · by_cases b : se t - si t < 2
      · simp [a, b]
      · simp [a, b]
        omega
    · simp [a])
  obtain ⟨nc, hnc, rfl, hc⟩ := w2
  obtain ⟨r, e1, e2⟩ := c_pick hn hA r2 i2 hS2 hx hnc hc hopen (nI m)
  refine ⟨r, s, ?_, f2, e2⟩
  rw [m_X10_opened, p1, fp_b1t]
  refine he.trans ?_
  show m_X10_opened_15 8 13 x (nI m) (n1 + 1) (nI nt) s = _
  rw [m_X10_opened_15, r2, if_pos (nI_le (Nat.le_refl _) (by omega)), w1, fp_b1t, m_X7_allTables, r2, fp_b1t, fp_ltt, e1]
/-- one figure of a code: is it built, the seats then -/
def bg (nt code last : Nat) (good : Bool) : Bool := good && (decide (code % 9 ≤ last) && decide (code % 9 < nt))
def bf (nt code last : Nat) (good : Bool) (g : Nat → Nat) : Nat → Nat := fun u => if u = code % 9 ∧ bg nt code last good = true then g u + 1 else g u
def bld (nt : Nat) : Nat → Nat → Nat → Bool → (Nat → Nat) → Bool × (Nat → Nat)
  | 0, _, _, good, g => (good, g)
  | k + 1, code, last, good, g => bld nt k (code / 9) (code % 9) (bg nt code last good && decide (bf nt code last good g (code % 9) ≤ 20)) (bf nt code last good g)
theorem bld_f {nt : Nat} : ∀ (k c L : Nat) (g : Nat → Nat), (bld nt k c L false g).1 = false
  | 0, _, _, _ => rfl
  | k + 1, c, L, g => by
    rw [bld]
    have : bg nt c L false = false := rfl
    rw [this, Bool.false_and]
    exact bld_f k _ _ _
theorem bld_iff {nt : Nat} : ∀ {k c L : Nat} {g : Nat → Nat}, c < 9 ^ k → ((bld nt k c L true g).1 = true ↔ SL k c (L + 1) ∧ ∀ u, u < 9 → 0 < cntC k c u → u < nt ∧ g u + cntC k c u ≤ 20) ∧ ((bld nt k c L true g).1 = true → ∀ u, (bld nt k c L true g).2 u = g u + cntC k c u)
  | 0, c, L, g, hc => by
    have : c = 0 := by
      have : c < 1 := hc
      omega
    exact ⟨⟨fun _ => ⟨this, fun u _ h => absurd h (Nat.lt_irrefl 0)⟩, fun _ => rfl⟩, fun _ u => rfl⟩
  | k + 1, c, L, g, hc => by
    have hc' : c / 9 < 9 ^ k := by
      rw [Nat.pow_succ] at hc
      omega
    have h9 : c % 9 < 9 := Nat.mod_lt _ (by decide)
    have ct : cntC (k + 1) c (c % 9) = 1 + cntC k (c / 9) (c % 9) := by rw [cntC, if_pos rfl]
    rw [bld]
    by_cases hb : bg nt c L true = true
    · have hb2 : c % 9 ≤ L ∧ c % 9 < nt := by simpa [bg] using hb
      have hg : bf nt c L true g (c % 9) = g (c % 9) + 1 := if_pos ⟨rfl, hb⟩
      have hg2 : ∀ u, bf nt c L true g u = g u + (if c % 9 = u then 1 else 0) := by
        intro u
        unfold bf
        by_cases e : c % 9 = u
        · rw [if_pos ⟨e.symm, hb⟩, if_pos e]
        · rw [if_neg (fun z => e z.1.symm), if_neg e]
          rfl
      rw [hb, hg]
      by_cases h20 : g (c % 9) + 1 ≤ 20
      · rw [decide_eq_true h20]
        obtain ⟨ih1, ih2⟩ := bld_iff (nt := nt) (L := c % 9) (g := bf nt c L true g) hc'
        refine ⟨⟨fun h => ?_, fun h => ?_⟩, fun h u => ?_⟩
        · obtain ⟨a, b⟩ := ih1.mp h
          refine ⟨⟨by omega, a⟩, fun u hu hp => ?_⟩
          rw [cntC] at hp ⊢
          by_cases e : c % 9 = u
          · rw [if_pos e] at hp ⊢
            subst e
            refine ⟨hb2.2, ?_⟩
            by_cases z : 0 < cntC k (c / 9) (c % 9)
            · have := (b _ hu z).2
              rw [hg] at this
              omega
            · omega
          · rw [if_neg e] at hp ⊢
            have := b u hu (by omega)
            rw [hg2, if_neg e] at this
            exact ⟨this.1, by omega⟩
        · obtain ⟨⟨-, a⟩, b⟩ := h
          refine ih1.mpr ⟨a, fun u hu hp => ?_⟩
          have := b u hu (by rw [cntC]; omega)
          rw [cntC] at this
          rw [hg2]
          exact ⟨this.1, by omega⟩
        · have := ih2 h u
          rw [hg2] at this
          show (bld nt k (c / 9) (c % 9) true (bf nt c L true g)).2 u = _
          rw [this, cntC]
          omega
      · rw [decide_eq_false h20]
        have hf := bld_f (nt := nt) k (c / 9) (c % 9) (bf nt c L true g)
        refine ⟨⟨fun h => ?_, fun h => ?_⟩, fun h => ?_⟩
        · rw [Bool.true_and, hf] at h; cases h
        · have := (h.2 (c % 9) h9 (by omega)).2
          omega
        · rw [Bool.true_and, hf] at h; cases h
    · have hb' : bg nt c L true = false := by
        cases h : bg nt c L true with
        | false => rfl
        | true => exact absurd h hb
      have hf := bld_f (nt := nt) k (c / 9) (c % 9) (bf nt c L true g)
      rw [hb', Bool.false_and]
      refine ⟨⟨fun h => ?_, fun h => ?_⟩, fun h => ?_⟩
      · rw [hf] at h; cases h
      · exfalso
        apply hb
        have h1 := h.1.1
        have h2 := (h.2 (c % 9) h9 (by omega)).1
        simp [bg]
        omega
      · rw [hf] at h; cases h
section FND
variable {nt nw m : Nat} {fa fb : Nat → Nat} {A : Nat → Nat → Bool} {X : Nat → Bool} {se si : Nat → Nat}
theorem m_bld (hn : nt ≤ 9) (p1 : Int32) {many : Nat} (hmany : many ≤ 4) : ∀ (r n k code last : Nat) (good : Bool) (g : Nat → Nat) (s : fp_Mem), k + r = many → r < n → s 120 1 = nI nt → code < 10000 → last ≤ 9 → (∀ t, t < 9 → s 123 t = nI (g t) ∧ g t ≤ 21) → (good = true → ∀ t, t < 9 → g t ≤ 20) →
    ∃ s', m_X12_buildBy_12 p1 (nI many) n (nI code) (nI last) (nI (if good = true then 1 else 0)) (nI k) s = some (nI (if (bld nt r code last good g).1 = true then 1 else 0), s') ∧ fr (fun q => q = 123) s s' ∧ (∀ t, t < 9 → s' 123 t = nI ((bld nt r code last good g).2 t)) ∧ ((bld nt r code last good g).1 = true → ∀ t, t < 9 → (bld nt r code last good g).2 t ≤ 20) ∧ ∀ j, 9 ≤ j → s' 123 j = s 123 j := by
  intro r
  induction r with
  | zero =>
    intro n k code last good g s hk hn' h1 hc hl hg hgood
    obtain ⟨m, rfl⟩ : ∃ m, n = m + 1 := ⟨n - 1, by omega⟩
    obtain rfl : k = many := by omega
    refine ⟨s, ?_, fr_rf, fun t ht => (hg t ht).1, fun h => hgood h, fun j hj => rfl⟩
    rw [m_X12_buildBy_12, if_pos (nI_le (Nat.le_refl _) (by omega))]
    have : fp_zb (nI (if good = true then 1 else 0)) = true := by cases good <;> decide
    rw [this, fp_gdt]
    rfl
  | succ r ih =>
    intro n k code last good g s hk hn' h1 hc hl hg hgood
    obtain ⟨m, rfl⟩ : ∃ m, n = m + 1 := ⟨n - 1, by omega⟩
    have h9 : code % 9 < 9 := Nat.mod_lt _ (by decide)
    obtain ⟨g1, g2⟩ := hg (code % 9) h9
    -- the figure's turn
    have e55 : ∀ b : Bool, (b = true → g (code % 9) ≤ 20) → m_X12_buildBy_55 p1 (nI many) (m_X12_buildBy_12 p1 (nI many) m) (nI (code / 9)) (nI k) (nI (code % 9)) (nI (if b = true then 1 else 0)) s = m_X12_buildBy_12 p1 (nI many) m (nI (code / 9)) (nI (code % 9)) (nI (if (b && decide (g (code % 9) + (if b = true then 1 else 0) ≤ 20)) = true then 1 else 0)) (nI (k + 1)) (fp_set s 123 (code % 9) (nI (g (code % 9) + (if b = true then 1 else 0)))) := by
      intro b hb
      cases b with
      | false =>
        rw [if_neg (by decide), m_X12_buildBy_55, fp_inN (show code % 9 < 25 by omega) (by decide), fp_gdt, if_pos (by decide), m_X12_buildBy_79, fp_inN (show code % 9 < 25 by omega) (by decide), fp_gdt, q_cl (by omega), g1, nI_add, fp_ltt, if_pos (by decide), m_X12_buildBy_102, m_X12_buildBy_103, fp_ltt, nI_add]
        rfl
      | true =>
        have hb20 := hb rfl
        rw [if_pos rfl, m_X12_buildBy_55, fp_inN (show code % 9 < 25 by omega) (by decide), fp_gdt, if_neg (by decide), m_X12_buildBy_79, fp_inN (show code % 9 < 25 by omega) (by decide), fp_gdt, q_cl (by omega), g1, nI_add, fp_ltt, if_neg (by decide), fp_gdt, set_at, Bool.true_and]
        by_cases h20 : g (code % 9) + 1 ≤ 20
        · rw [if_neg (nI_nlt h20 (by decide)), m_X12_buildBy_103, fp_ltt, nI_add, decide_eq_true h20, if_pos rfl]
        · rw [if_pos (nI_lt (by omega) (by omega)), m_X12_buildBy_102, m_X12_buildBy_103, fp_ltt, nI_add, decide_eq_false h20, if_neg (by decide)]
    have est : m_X12_buildBy_12 p1 (nI many) (m + 1) (nI code) (nI last) (nI (if good = true then 1 else 0)) (nI k) s = m_X12_buildBy_55 p1 (nI many) (m_X12_buildBy_12 p1 (nI many) m) (nI (code / 9)) (nI k) (nI (code % 9)) (nI (if bg nt code last good = true then 1 else 0)) s := by
      rw [m_X12_buildBy_12, if_neg (nI_ge (show k < many by omega) (by omega)), pk_rem (by omega) (by decide) (by decide), pk_div (by omega) (by decide) (by decide), fp_ltt, fp_ltt, h1]
      cases good with
      | false => rw [if_neg (by decide : ¬ false = true), if_pos (by decide), m_X12_buildBy_54]; rfl
      | true =>
        rw [if_pos rfl, if_neg (by decide)]
        by_cases c1 : code % 9 ≤ last
        · rw [if_neg (nI_nlt c1 (by omega))]
          by_cases c2 : code % 9 < nt
          · have hb : bg nt code last true = true := by simp [bg, c1, c2]
            rw [if_neg (nI_ge c2 (by omega)), hb, if_pos rfl]
          · have hb : bg nt code last true = false := by simp [bg, c2]
            rw [if_pos (nI_le (by omega) (by omega)), m_X12_buildBy_54, hb, if_neg (by decide)]
        · have hb : bg nt code last true = false := by simp [bg, c1]
          rw [if_pos (nI_lt (by omega) (by omega)), m_X12_buildBy_54, hb, if_neg (by decide)]
    have hbg : bg nt code last good = true → good = true := by
      intro h
      cases good with
      | true => rfl
      | false => cases h
    have hbf : ∀ u, bf nt code last good g u = if u = code % 9 then g (code % 9) + (if bg nt code last good = true then 1 else 0) else g u := by
      intro u
      unfold bf
      by_cases e : u = code % 9
      · rw [if_pos e, e]
        by_cases h : bg nt code last good = true
        · rw [if_pos ⟨rfl, h⟩, if_pos h]
        · rw [if_neg (fun z => h z.2), if_neg h]
          rfl
      · rw [if_neg (fun z => e z.1), if_neg e]
    have hbt : bf nt code last good g (code % 9) = g (code % 9) + (if bg nt code last good = true then 1 else 0) := by rw [hbf, if_pos rfl]
    have hle21 : bf nt code last good g (code % 9) ≤ 21 := by
      rw [hbt]
      by_cases h : bg nt code last good = true
      · rw [if_pos h]
        have := hgood (hbg h) _ h9
        omega
      · rw [if_neg h]
        exact g2
    obtain ⟨s', k1, k2, k3, k4, k5⟩ := ih m (k + 1) (code / 9) (code % 9) (bg nt code last good && decide (bf nt code last good g (code % 9) ≤ 20)) (bf nt code last good g) (fp_set s 123 (code % 9) (nI (bf nt code last good g (code % 9)))) (by omega) (by omega) (by rw [set_off (by decide)]; exact h1) (by omega) (by omega) (fun t ht => by
      rw [set_q]
      by_cases e : t = code % 9
      · rw [if_pos ⟨rfl, e⟩, e]
        exact ⟨rfl, hle21⟩
      · rw [if_neg (fun z => e z.2), hbf t, if_neg e]
        exact hg t ht) (fun h t ht => by
      rw [Bool.and_eq_true] at h
      by_cases e : t = code % 9
      · rw [e]
        exact of_decide_eq_true h.2
      · rw [hbf t, if_neg e]
        exact hgood (hbg h.1) t ht)
    refine ⟨s', ?_, fr_tr (fr_set rfl) k2, k3, k4, fun j hj => by rw [k5 j hj, set_ne (by omega)]⟩
    rw [est, e55 _ (fun h => hgood (hbg h) _ h9), ← hbt]
    exact k1
theorem m_near {s : fp_Mem} {g : Nat → Nat} (hR : MR s nt nw fa fb) (hS : MS s g si) (hA : adjN (s 123 19) fa fb nw = A) {x : Int32} (hx : isM x X) (hm : m ≤ 8) :
    ∃ (b : Bool) (s' : fp_Mem), m_X12_allNear s x (nI m) = some (nI (if b = true then 1 else 0), s') ∧ fr (fun q => q = 130) s s' ∧ (b = true ↔ okX nt A X m (fun t => decide (2 ≤ g t - si t))) := by
  have hn := hR.1
  obtain ⟨s1, p1, f1, h1⟩ := m_findAway hR hS
  rw [hA] at h1
  generalize (fun t => decide (2 ≤ g t - si t)) = O at h1 ⊢
  have r1 : s1 120 1 = nI nt := by rw [f1 120 (by decide)]; exact hR.2.2.1
  obtain ⟨n1, v, ⟨b, e1, e2⟩, he⟩ := loopI (fun n i v => m_X12_allNear_9 x (nI m) n v (nI i) s1) nt (fun i v => ∃ b : Bool, v = nI (if b = true then 1 else 0) ∧ (b = true ↔ ∀ t, t < i → X t = true → reach nt A O m t = true)) (by
    rintro n i v hi ⟨b, rfl, e2⟩
    have e47 : ∀ z, m_X12_allNear_47 x (nI m) (m_X12_allNear_9 x (nI m) n) (nI i) z s1 = m_X12_allNear_9 x (nI m) n z (nI (i + 1)) s1 := fun z => by rw [m_X12_allNear_47, fp_ltt, nI_add]
    have hd := dst_reach (nt := nt) (A := A) (O := O) (d := m) (t := i) (by omega)
    have hd9 := dst_le9 (nt := nt) (A := A) (O := O) i
    cases b with
    | false =>
      refine ⟨nI 0, ⟨false, rfl, ⟨(fun z => nomatch z), fun z => e2.mpr (fun t ht hx => z t (by omega) hx)⟩⟩, ?_⟩
      show m_X12_allNear_9 x (nI m) (n + 1) (nI (if false = true then 1 else 0)) (nI i) s1 = _
      rw [m_X12_allNear_9, r1, if_neg (nI_ge hi (by omega)), if_neg (by decide : ¬ false = true), if_pos (by decide), m_X12_allNear_46, e47]
    | true =>
      have est : m_X12_allNear_9 x (nI m) (n + 1) (nI (if true = true then 1 else 0)) (nI i) s1 = fp_b1 (m_X12_has s1 x (nI i)) fun r_3 => if r_3 = 0 then m_X12_allNear_9 x (nI m) n (nI 1) (nI (i + 1)) s1 else if nI m < nI (dv (dst nt A O i)) then m_X12_allNear_9 x (nI m) n (nI 0) (nI (i + 1)) s1 else m_X12_allNear_9 x (nI m) n (nI 1) (nI (i + 1)) s1 := by
        rw [m_X12_allNear_9, r1, if_neg (nI_ge hi (by omega)), if_pos rfl, if_neg (by decide), fp_inN (show i < 9 by omega) (by decide)]
        simp only [fp_gdt, q_cl (show i < 2 ^ 31 by omega), m_X12_allNear_42, m_X12_allNear_46, e47, h1 i (by omega)]
      rw [m_has_eq hx (by omega), fp_b1t] at est
      cases hX : X i with
      | false =>
        rw [hX, if_neg (by decide : ¬ false = true), if_pos (by decide)] at est
        refine ⟨nI 1, ⟨true, rfl, ⟨fun _ t ht hx => ?_, fun _ => rfl⟩⟩, est⟩
        by_cases e : t = i
        · rw [e, hX] at hx; cases hx
        · exact e2.mp rfl t (by omega) hx
      | true =>
        rw [hX, if_pos rfl, if_neg (by decide)] at est
        have hdv : (m < dv (dst nt A O i)) ↔ ¬ dst nt A O i ≤ m := by
          unfold dv
          by_cases z : dst nt A O i < 9
          · rw [if_pos z]; omega
          · rw [if_neg z]; omega
        have hdl := dv_le (dst nt A O i)
        by_cases hr : reach nt A O m i = true
        · rw [if_neg (by rw [q_lt (by omega) (by omega), hdv]; exact fun z => z (hd.mpr hr))] at est
          refine ⟨nI 1, ⟨true, rfl, ⟨fun _ t ht hx => ?_, fun _ => rfl⟩⟩, est⟩
          by_cases e : t = i
          · rw [e]; exact hr
          · exact e2.mp rfl t (by omega) hx
        · rw [if_pos (by rw [q_lt (by omega) (by omega), hdv]; exact fun z => hr (hd.mp z))] at est
          exact ⟨nI 0, ⟨false, rfl, ⟨(fun z => nomatch z), fun z => absurd (z i (by omega) hX) hr⟩⟩, est⟩) nt 0 fp_fu (nI 1) (by omega) (fu_lt (by omega)) ⟨true, rfl, ⟨fun _ t ht => absurd ht (Nat.not_lt_zero t), fun _ => rfl⟩⟩
  refine ⟨b, s1, ?_, f1, e2⟩
  rw [m_X12_allNear, p1, fp_b1t]
  refine he.trans ?_
  show m_X12_allNear_9 x (nI m) (n1 + 1) v (nI nt) s1 = _
  have : fp_zb (nI (if b = true then 1 else 0)) = true := by cases b <;> decide
  rw [m_X12_allNear_9, r1, if_pos (nI_le (Nat.le_refl _) (by omega)), e1, this, fp_gdt]
end FND

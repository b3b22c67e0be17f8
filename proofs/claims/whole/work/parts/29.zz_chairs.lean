/-! chairs: one step of both -/
theorem loopQ {σ α : Type} (L : Nat → Nat → σ → α) (N : Nat) (I : Nat → σ → Prop) (Q : α → Prop) (hs : ∀ n i s, i < N → I i s → (∃ s', I (i + 1) s' ∧ L (n + 1) i s = L n (i + 1) s') ∨ Q (L (n + 1) i s)) (he : ∀ n s, I N s → Q (L (n + 1) N s)) :
    ∀ (d i n : Nat) (s : σ), i + d = N → d < n → I i s → Q (L n i s) := by
  intro d
  induction d with
  | zero =>
    intro i n s hi hn hI
    obtain ⟨m, rfl⟩ : ∃ m, n = m + 1 := ⟨n - 1, by omega⟩
    obtain rfl : i = N := by omega
    exact he m s hI
  | succ d ih =>
    intro i n s hi hn hI
    obtain ⟨m, rfl⟩ : ∃ m, n = m + 1 := ⟨n - 1, by omega⟩
    rcases hs m i s (by omega) hI with ⟨s', h1, h2⟩ | h1
    · rw [h2]
      exact ih (i + 1) m s' (by omega) (by omega) h1
    · exact h1
/-- the model's rows while it tries -/
def IV (M0 : fp_Mem) (f : Nat → Int32) (s : fp_Mem) : Prop := fr (fun q => q = 123 ∨ q = 130 ∨ q = 132 ∨ q = 133) M0 s ∧ ∀ j, j < 25 → s 123 j = f j ∧ s 132 j = f j
theorem m_back54 {s : fp_Mem} (p1 p2 : Int32) (K9 : Int32 → Int32 → fp_Mem → Option (Int32 × fp_Mem)) (K18 : Int32 → Int32 → Int32 → fp_Mem → Option (Int32 × fp_Mem)) (v3 v4 v5 v6 : Int32) :
    ∃ s', m_X12_findChairs_54 p1 p2 K9 K18 fp_fu v3 v4 v5 v6 (nI 0) s = (if v6 = 0 then K18 v3 v4 (v5 + nI 1) s' else some (v4, s')) ∧ fr (fun q => q = 123 ∨ q = 133) s s' ∧ (∀ j, j < 25 → s' 123 j = s 132 j) ∧ ∀ t, t < 9 → s' 133 t = s 123 t - s 132 t := by
  obtain ⟨n1, s1, ⟨i1, i2⟩, he⟩ := loopI (fun n i s' => m_X12_findChairs_54 p1 p2 K9 K18 n v3 v4 v5 v6 (nI i) s') 9 (fun i s' => fr (fun q => q = 133) s s' ∧ ∀ t, t < i → s' 133 t = s 123 t - s 132 t) (by
    rintro n i s' hi ⟨i1, i2⟩
    refine ⟨fp_set s' 133 i (s 123 i - s 132 i), ⟨fr_tr i1 (fr_set rfl), fun t ht => ?_⟩, ?_⟩
    · rw [set_q]
      by_cases e : t = i
      · rw [if_pos ⟨rfl, e⟩, e]
      · rw [if_neg (fun z => e z.2)]
        exact i2 t (by omega)
    · show m_X12_findChairs_54 p1 p2 K9 K18 (n + 1) v3 v4 v5 v6 (nI i) s' = _
      rw [m_X12_findChairs_54, if_neg (nI_ge hi (by decide)), fp_inN (show i < 25 by omega) (by decide), fp_inN hi (by decide), fp_gdt, fp_gdt, fp_gdt, fp_ltt, fp_ltt, nI_add, q_cl (by omega), i1 123 (by decide), i1 132 (by decide)]) 9 0 fp_fu s rfl (fu_lt (by decide)) ⟨fr_rf, fun t ht => absurd ht (Nat.not_lt_zero t)⟩
  obtain ⟨s2, p, f2, h2⟩ := m_putBack (M := s1)
  refine ⟨s2, ?_, fr_tr (fr_mono i1 (fun q h => Or.inr h)) (fr_mono f2 (fun q h => Or.inl h)), fun j hj => by rw [h2 j hj, i1 132 (by decide)], fun t ht => by rw [f2 133 (by decide)]; exact i2 t ht⟩
  refine he.trans ?_
  show m_X12_findChairs_54 p1 p2 K9 K18 (n1 + 1) v3 v4 v5 v6 (nI 9) s1 = _
  rw [m_X12_findChairs_54, if_pos (nI_le (Nat.le_refl _) (by decide)), p, fp_b1t]
  by_cases e : v6 = 0
  · rw [if_pos e, if_pos e, fp_ltt]
  · rw [if_neg e, if_neg e]
section TRY
variable {M0 : fp_Mem} {nt nw m : Nat} {fa fb : Nat → Nat} {X : Nat → Bool} {se si : Nat → Nat} {f : Nat → Int32} {x : Int32}
theorem m_try (hR : MR M0 nt nw fa fb) (hF : NR f se si) (h20 : ∀ t, t < 9 → se t ≤ 20) (hx : isM x X) (hm : m ≤ 8) (K9 : Int32 → Int32 → fp_Mem → Option (Int32 × fp_Mem)) {n k c N : Nat} {s : fp_Mem} (hk : k ≤ 4) (hc : c < 9 ^ k) (hN : c < N) (hN2 : N < 10000) (hI : IV M0 f s) :
    ∃ s', IV M0 f s' ∧ ((does nt (adjN (f 19) fa fb nw) X m se si k c ∧ m_X12_findChairs_18 x (nI m) K9 (n + 1) (nI N) (nI k) (nI c) s = some (nI k, s') ∧ ∀ t, t < 9 → s' 133 t = nI (cntC k c t)) ∨ (¬ does nt (adjN (f 19) fa fb nw) X m se si k c ∧ m_X12_findChairs_18 x (nI m) K9 (n + 1) (nI N) (nI k) (nI c) s = m_X12_findChairs_18 x (nI m) K9 n (nI N) (nI k) (nI (c + 1)) s')) := by
  obtain ⟨i1, i2⟩ := hI
  have hn := hR.1
  have r1 : s 120 1 = nI nt := by rw [i1 120 (by decide)]; exact hR.2.2.1
  obtain ⟨s1, p1, f1, g1, g2, g3⟩ := m_bld (nt := nt) hn (nI c) hk k fp_fu 0 c 9 true se s (Nat.zero_add k) (fu_lt (by omega)) r1 (by omega) (Nat.le_refl _) (fun t ht => ⟨by rw [(i2 t (by omega)).1]; exact (hF t ht).1, by have := h20 t ht; omega⟩) (fun _ => h20)
  have e132 : ∀ j, j < 25 → s1 132 j = f j := fun j hj => by rw [f1 132 (by decide)]; exact (i2 j hj).2
  obtain ⟨b1, b2⟩ := bld_iff (nt := nt) (k := k) (c := c) (L := 9) (g := se) hc
  have hd : does nt (adjN (f 19) fa fb nw) X m se si k c ↔ (bld nt k c 9 true se).1 = true ∧ okX nt (adjN (f 19) fa fb nw) X m (fun t => decide (2 ≤ se t + cntC k c t - si t)) := by
    constructor
    · intro h
      exact ⟨b1.mpr ⟨h.1, h.2.1⟩, h.2.2⟩
    · rintro ⟨h1, h2⟩
      exact ⟨(b1.mp h1).1, (b1.mp h1).2, h2⟩
  have e12 : m_X12_buildBy s (nI c) (nI k) = some (nI (if (bld nt k c 9 true se).1 = true then 1 else 0), s1) := by
    rw [m_X12_buildBy]
    exact p1
  -- nothing found: back, the next code
  have back : ∀ s2, fr (fun q => q = 123 ∨ q = 130) s s2 → ∃ s', IV M0 f s' ∧ m_X12_findChairs_48 x (nI m) K9 (m_X12_findChairs_18 x (nI m) K9 n) (nI N) (nI k) (nI c) s2 = m_X12_findChairs_18 x (nI m) K9 n (nI N) (nI k) (nI (c + 1)) s' := by
    intro s2 f2
    obtain ⟨s', q1, q2, q3, q4⟩ := m_back54 (s := s2) x (nI m) K9 (m_X12_findChairs_18 x (nI m) K9 n) (nI N) (nI k) (nI c) (nI 0)
    refine ⟨s', ⟨fr_tr i1 (fr_tr (fr_mono f2 (fun q h => by omega)) (fr_mono q2 (fun q h => by omega))), fun j hj => ?_⟩, ?_⟩
    · rw [q3 j hj, q2 132 (by decide), f2 132 (by decide)]
      exact ⟨(i2 j hj).2, (i2 j hj).2⟩
    · rw [m_X12_findChairs_48, m_X12_findChairs_49, q1, if_pos (by decide), nI_add]
  have est : m_X12_findChairs_18 x (nI m) K9 (n + 1) (nI N) (nI k) (nI c) s = (if nI (if (bld nt k c 9 true se).1 = true then 1 else 0) = 0 then m_X12_findChairs_48 x (nI m) K9 (m_X12_findChairs_18 x (nI m) K9 n) (nI N) (nI k) (nI c) s1 else fp_b2 (m_X12_allNear s1 x (nI m)) fun r_14 M_15 => if r_14 = 0 then m_X12_findChairs_48 x (nI m) K9 (m_X12_findChairs_18 x (nI m) K9 n) (nI N) (nI k) (nI c) M_15 else m_X12_findChairs_49 x (nI m) K9 (m_X12_findChairs_18 x (nI m) K9 n) (nI N) (nI k) (nI c) (nI 1) M_15) := by
    rw [m_X12_findChairs_18, if_neg (nI_ge hN (by omega)), e12, fp_b2t]
  cases hb : (bld nt k c 9 true se).1 with
  | false =>
    rw [hb, if_neg (by decide : ¬ false = true), if_pos (by decide)] at est
    obtain ⟨s', j1, j2⟩ := back s1 (fr_mono f1 (fun q h => Or.inl h))
    exact ⟨s', j1, Or.inr ⟨fun h => absurd ((hd.mp h).1.symm.trans hb) (by decide), est.trans j2⟩⟩
  | true =>
    rw [hb, if_pos rfl, if_neg (by decide)] at est
    have hv := b2 hb
    have hR1 : MR s1 nt nw fa fb := by
      unfold MR
      rw [f1 120 (by decide), f1 121 (by decide), f1 122 (by decide), i1 120 (by decide), i1 121 (by decide), i1 122 (by decide)]
      exact hR
    have hS1 : MS s1 (bld nt k c 9 true se).2 si := fun t ht => by
      obtain ⟨z1, z2, z3, z4⟩ := hF t ht
      refine ⟨g1 t ht, ?_, ?_, ?_⟩
      · rw [g3 (9 + t) (by omega), (i2 (9 + t) (by omega)).1]
        exact z2
      · rw [hv t]
        omega
      · have := g2 hb t ht
        omega
    have hA : adjN (s1 123 19) fa fb nw = adjN (f 19) fa fb nw := by rw [g3 19 (by decide), (i2 19 (by decide)).1]
    obtain ⟨b, s2, q1, q2, q3⟩ := m_near hR1 hS1 hA hx hm
    have eO : (fun t => decide (2 ≤ (bld nt k c 9 true se).2 t - si t)) = (fun t => decide (2 ≤ se t + cntC k c t - si t)) := funext fun t => by rw [hv t]
    rw [eO] at q3
    rw [q1, fp_b2t] at est
    have f12 : fr (fun q => q = 123 ∨ q = 130) s s2 := fr_tr (fr_mono f1 (fun q h => Or.inl h)) (fr_mono q2 (fun q h => Or.inr h))
    cases hb2 : b with
    | false =>
      rw [hb2] at est q3
      rw [if_neg (by decide : ¬ false = true), if_pos (by decide)] at est
      obtain ⟨s', j1, j2⟩ := back s2 f12
      exact ⟨s', j1, Or.inr ⟨fun h => absurd (q3.mpr (hd.mp h).2) (by decide), est.trans j2⟩⟩
    | true =>
      rw [hb2] at est q3
      rw [if_pos rfl, if_neg (by decide), m_X12_findChairs_49] at est
      obtain ⟨s', t1, t2, t3, t4⟩ := m_back54 (s := s2) x (nI m) K9 (m_X12_findChairs_18 x (nI m) K9 n) (nI N) (nI k) (nI c) (nI 1)
      rw [t1, if_neg (by decide)] at est
      refine ⟨s', ⟨fr_tr i1 (fr_tr (fr_mono f12 (fun q h => by omega)) (fr_mono t2 (fun q h => by omega))), fun j hj => ?_⟩, Or.inl ⟨hd.mpr ⟨hb, q3.mp rfl⟩, est, fun t ht => ?_⟩⟩
      · rw [t3 j hj, t2 132 (by decide), f12 132 (by decide)]
        exact ⟨(i2 j hj).2, (i2 j hj).2⟩
      · rw [t4 t ht, q2 123 (by decide), q2 132 (by decide), g1 t ht, e132 t (by omega), (hF t ht).1, hv t, q_sub (by omega), Nat.add_sub_cancel_left]
theorem pow9 : ∀ k, k ≤ 4 → 9 ^ k < 10000 := by decide
theorem m_level (hR : MR M0 nt nw fa fb) (hF : NR f se si) (h20 : ∀ t, t < 9 → se t ≤ 20) (hx : isM x X) (hm : m ≤ 8) (K9 : Int32 → Int32 → fp_Mem → Option (Int32 × fp_Mem)) {k : Nat} {s : fp_Mem} (hk : k ≤ 4) (hI : IV M0 f s) :
    (∃ s', IV M0 f s' ∧ (∀ c, c < 9 ^ k → ¬ does nt (adjN (f 19) fa fb nw) X m se si k c) ∧ m_X12_findChairs_18 x (nI m) K9 fp_fu (nI (9 ^ k)) (nI k) (nI 0) s = K9 (nI (9 ^ (k + 1))) (nI (k + 1)) s') ∨ (∃ c s', IV M0 f s' ∧ does nt (adjN (f 19) fa fb nw) X m se si k c ∧ (∀ c', c' < c → ¬ does nt (adjN (f 19) fa fb nw) X m se si k c') ∧ m_X12_findChairs_18 x (nI m) K9 fp_fu (nI (9 ^ k)) (nI k) (nI 0) s = some (nI k, s') ∧ ∀ t, t < 9 → s' 133 t = nI (cntC k c t)) := by
  have h9 := pow9 k hk
  exact loopQ (fun n i s => m_X12_findChairs_18 x (nI m) K9 n (nI (9 ^ k)) (nI k) (nI i) s) (9 ^ k) (fun i s => IV M0 f s ∧ ∀ c, c < i → ¬ does nt (adjN (f 19) fa fb nw) X m se si k c) (fun r => (∃ s', IV M0 f s' ∧ (∀ c, c < 9 ^ k → ¬ does nt (adjN (f 19) fa fb nw) X m se si k c) ∧ r = K9 (nI (9 ^ (k + 1))) (nI (k + 1)) s') ∨ (∃ c s', IV M0 f s' ∧ does nt (adjN (f 19) fa fb nw) X m se si k c ∧ (∀ c', c' < c → ¬ does nt (adjN (f 19) fa fb nw) X m se si k c') ∧ r = some (nI k, s') ∧ ∀ t, t < 9 → s' 133 t = nI (cntC k c t))) (by
    rintro n i s hi ⟨j1, j2⟩
    obtain ⟨s', q1, q2⟩ := m_try (n := n) hR hF h20 hx hm K9 hk hi hi h9 j1
    rcases q2 with ⟨d1, d2, d3⟩ | ⟨d1, d2⟩
    · exact Or.inr (Or.inr ⟨i, s', q1, d1, j2, d2, d3⟩)
    · refine Or.inl ⟨s', ⟨q1, fun c hc => ?_⟩, d2⟩
      by_cases e : c = i
      · rw [e]; exact d1
      · exact j2 c (by omega)) (by
    rintro n s ⟨j1, j2⟩
    refine Or.inl ⟨s, j1, j2, ?_⟩
    show m_X12_findChairs_18 x (nI m) K9 (n + 1) (nI (9 ^ k)) (nI k) (nI (9 ^ k)) s = _
    rw [m_X12_findChairs_18, if_pos (nI_le (Nat.le_refl _) (by omega)), pk_mul, nI_add, fp_ltt, fp_ltt, ← Nat.pow_succ]) (9 ^ k) 0 fp_fu s (Nat.zero_add _) (fu_lt h9) ⟨hI, fun c hc => absurd hc (Nat.not_lt_zero c)⟩
theorem m_find (hR : MR M0 nt nw fa fb) (hF : NR f se si) (h20 : ∀ t, t < 9 → se t ≤ 20) (hx : isM x X) (hm : m ≤ 8) (hf : ∀ j, j < 25 → M0 123 j = f j) :
    (∃ s', IV M0 f s' ∧ (∀ k c, k ≤ 4 → ¬ does nt (adjN (f 19) fa fb nw) X m se si k c) ∧ m_X12_findChairs M0 x (nI m) = some ((-1 : Int32), s')) ∨ (∃ k c s', k ≤ 4 ∧ IV M0 f s' ∧ does nt (adjN (f 19) fa fb nw) X m se si k c ∧ (∀ k' c', k' ≤ 4 → does nt (adjN (f 19) fa fb nw) X m se si k' c' → k < k' ∨ (k = k' ∧ c ≤ c')) ∧ m_X12_findChairs M0 x (nI m) = some (nI k, s') ∧ ∀ t, t < 9 → s' 133 t = nI (cntC k c t)) := by
  obtain ⟨s0, p0, f0, g0⟩ := m_save (M := M0)
  have hI : IV M0 f s0 := ⟨fr_mono f0 (fun q h => by omega), fun j hj => ⟨by rw [f0 123 (by decide)]; exact hf j hj, by rw [g0 j hj]; exact hf j hj⟩⟩
  rw [m_X12_findChairs, p0, fp_b1t]
  exact loopQ (fun n k s => m_X12_findChairs_9 x (nI m) n (nI (9 ^ k)) (nI k) s) 5 (fun k s => IV M0 f s ∧ ∀ k' c, k' < k → ¬ does nt (adjN (f 19) fa fb nw) X m se si k' c) (fun r => (∃ s', IV M0 f s' ∧ (∀ k c, k ≤ 4 → ¬ does nt (adjN (f 19) fa fb nw) X m se si k c) ∧ r = some ((-1 : Int32), s')) ∨ (∃ k c s', k ≤ 4 ∧ IV M0 f s' ∧ does nt (adjN (f 19) fa fb nw) X m se si k c ∧ (∀ k' c', k' ≤ 4 → does nt (adjN (f 19) fa fb nw) X m se si k' c' → k < k' ∨ (k = k' ∧ c ≤ c')) ∧ r = some (nI k, s') ∧ ∀ t, t < 9 → s' 133 t = nI (cntC k c t))) (by
    rintro n k s hk ⟨j1, j2⟩
    have est : m_X12_findChairs_9 x (nI m) (n + 1) (nI (9 ^ k)) (nI k) s = m_X12_findChairs_18 x (nI m) (m_X12_findChairs_9 x (nI m) n) fp_fu (nI (9 ^ k)) (nI k) (nI 0) s := by
      rw [m_X12_findChairs_9, if_neg (nI_ge hk (by decide))]
    rcases m_level hR hF h20 hx hm (m_X12_findChairs_9 x (nI m) n) (k := k) (by omega) j1 with ⟨s', q1, q2, q3⟩ | ⟨c, s', q1, q2, q3, q4, q5⟩
    · refine Or.inl ⟨s', ⟨q1, fun k' c hk' h => ?_⟩, est.trans q3⟩
      by_cases e : k' = k
      · rw [e] at h
        exact q2 c (SL_lt h.1) h
      · exact j2 k' c (by omega) h
    · refine Or.inr (Or.inr ⟨k, c, s', by omega, q1, q2, fun k' c' hk' h => ?_, est.trans q4, q5⟩)
      by_cases e : k' < k
      · exact absurd h (j2 k' c' e)
      · by_cases e2 : k = k'
        · refine Or.inr ⟨e2, ?_⟩
          rw [← e2] at h
          exact Nat.not_lt.mp fun z => q3 c' z h
        · exact Or.inl (by omega)) (by
    rintro n s ⟨j1, j2⟩
    refine Or.inl ⟨s, j1, fun k c hk => j2 k c (by omega), ?_⟩
    show m_X12_findChairs_9 x (nI m) (n + 1) (nI (9 ^ 5)) (nI 5) s = _
    rw [m_X12_findChairs_9, if_pos (nI_le (Nat.le_refl _) (by decide))]) 5 0 fp_fu s0 rfl (fu_lt (by decide)) ⟨hI, fun k' c hk' => absurd hk' (Nat.not_lt_zero k')⟩
end TRY
theorem nI_all (x : Int32) : ∃ n, n < 2 ^ 32 ∧ x = nI n := ⟨x.toBitVec.toNat, x.toBitVec.isLt, by
  apply Int32.toBitVec_inj.mp
  simp [nI, Int32.toBitVec_ofNat']⟩
/-- a set of tables, or not -/
theorem q_set (x : Int32) {nt : Nat} (hn : nt ≤ 9) : (∃ n, n < 2 ^ nt ∧ x = nI n ∧ (x &&& ((((nI 1) <<< (nI nt &&& 31)) - nI 1) ^^^ (-1 : Int32))) = 0) ∨ (¬ (x &&& ((((nI 1) <<< (nI nt &&& 31)) - nI 1) ^^^ (-1 : Int32))) = 0 ∧ (x < nI 0 ∨ nI (2 ^ nt - 1) < x)) := by
  obtain ⟨n, h32, rfl⟩ := nI_all x
  have h512 : 2 ^ nt ≤ 2 ^ 9 := Nat.pow_le_pow_right (by decide) hn
  have hpos : 0 < 2 ^ nt := Nat.two_pow_pos nt
  rw [q_all nt (by omega), q_m1, q_xor, q_and]
  by_cases hlt : n < 2 ^ nt
  · refine Or.inl ⟨n, hlt, rfl, ?_⟩
    have : n &&& ((2 ^ nt - 1) ^^^ (2 ^ 32 - 1)) = 0 := by
      apply Nat.eq_of_testBit_eq
      intro i
      rw [Nat.testBit_and, Nat.testBit_xor, Nat.testBit_two_pow_sub_one, Nat.testBit_two_pow_sub_one, Nat.zero_testBit]
      by_cases hi : i < nt
      · have : i < 32 := by omega
        simp [hi, this]
      · have h9 : 2 ^ nt ≤ 2 ^ i := Nat.pow_le_pow_right (by decide) (by omega)
        rw [Nat.testBit_lt_two_pow (Nat.lt_of_lt_of_le hlt h9), Bool.false_and]
    rw [this]
    rfl
  · refine Or.inr ⟨fun h => hlt ?_, ?_⟩
    · have hz : n &&& ((2 ^ nt - 1) ^^^ (2 ^ 32 - 1)) = 0 := by
        have h1 : n &&& ((2 ^ nt - 1) ^^^ (2 ^ 32 - 1)) < 2 ^ 32 := Nat.lt_of_le_of_lt Nat.and_le_left h32
        rw [← pk_tn h1, h]
        rfl
      apply Nat.lt_pow_two_of_testBit
      intro i hi
      by_cases h2 : i < 32
      · have := congrArg (fun z => z.testBit i) hz
        have this : (n &&& ((2 ^ nt - 1) ^^^ (2 ^ 32 - 1))).testBit i = (0 : Nat).testBit i := this
        rw [Nat.testBit_and, Nat.testBit_xor, Nat.testBit_two_pow_sub_one, Nat.testBit_two_pow_sub_one, Nat.zero_testBit] at this
        have h3 : ¬ i < nt := by omega
        simpa [h2, h3] using this
      · have h9 : 2 ^ 32 ≤ 2 ^ i := Nat.pow_le_pow_right (by decide) (by omega)
        exact Nat.testBit_lt_two_pow (Nat.lt_of_lt_of_le h32 h9)
    · by_cases h0 : nI n < 0
      · exact Or.inl h0
      · obtain ⟨j, hj, e⟩ := nI_of h0
        have : n = j := by
          have h1 := pk_tn h32
          rw [e, pk_tn (show j < 2 ^ 32 by omega)] at h1
          exact h1.symm
        rw [this] at hlt ⊢
        exact Or.inr (nI_lt (by omega) hj)
theorem cost_1 {se si : Nat → Nat} {Q : Nat → Bool} {t : Nat} (ht : t < 9) : costQ se si (fun i => Q i && i == t) = if Q t = true then cst se si t else 0 := by
  have key : ∀ n, nsum (fun i => if (Q i && i == t) = true then cst se si i else 0) n = if t < n then (if Q t = true then cst se si t else 0) else 0 := by
    intro n
    induction n with
    | zero => rfl
    | succ n ih =>
      rw [nsum, ih]
      by_cases e : n = t
      · subst e
        rw [if_neg (Nat.lt_irrefl _), if_pos (Nat.lt_succ_self _), beq_self_eq_true, Bool.and_true]
        omega
      · rw [show (n == t) = false from beq_eq_false_iff_ne.mpr e, Bool.and_false, if_neg (by decide : ¬ false = true)]
        by_cases e2 : t < n
        · rw [if_pos e2, if_pos (show t < n + 1 by omega)]
          rfl
        · rw [if_neg e2, if_neg (show ¬ t < n + 1 by omega)]
  rw [costQ, key, if_pos ht]
theorem st_chairs {M : fp_Mem} (hI : fp_Inv M) (a1 : Int32) (a2 : Int32) (a3 : Int32) : ok_chairs M a1 a2 a3 := by
  have hI0 := hI
  obtain ⟨nt, nw, fa, fb, hP⟩ := hI
  have hP0 := hP
  obtain ⟨h1, h2, h3, h4, h5, h6, h7, h8, h9⟩ := hP
  obtain ⟨hS, se, si, w, hN, hb, hw, hw9⟩ := id h4
  have hn := h3.1.1
  have r1 : M 8 3 = nI nt := h3.1.2.2.1
  have r2 : M 120 1 = nI nt := h3.2.1.2.2.1
  have hs : ∀ t, t < 9 → si t ≤ se t ∧ se t ≤ 20 := fun t ht => ⟨(hN t ht).2.2.1, (hb t ht).1⟩
  have ein : ∀ (M' : fp_Mem), m_X12_in M' (Int32.toInt64 a1) (lN 0) (Int32.toInt64 (((nI 1) <<< (nI nt &&& 31)) - (nI 1))) = m_X12_in M' (Int32.toInt64 a1) (Int32.toInt64 (nI 0)) (Int32.toInt64 (nI (2 ^ nt - 1))) := fun M' => by
    rw [q_all nt (by omega), show lN 0 = Int32.toInt64 (nI 0) from (nI_l (by decide)).symm]
  have hall : m_X7_hasAll M 8 a1 = m_X7_hasAll_16 M 8 a1 (if (a1 &&& ((((nI 1) <<< (nI nt &&& 31)) - nI 1) ^^^ (-1 : Int32))) = 0 then nI 1 else nI 0) := by
    rw [m_X7_hasAll, m_X7_allTables, r1, fp_b1t]
    by_cases z : (a1 &&& ((((nI 1) <<< (nI nt &&& 31)) - nI 1) ^^^ (-1 : Int32))) = 0
    · rw [if_pos z, if_pos z]
    · rw [if_neg z, if_neg z]
  have unk : ∀ {r : Int32}, m_X11_chairs M a1 a2 a3 = some (r, M) → m_X12_chairs M a1 a2 a3 = some (r, M) → ok_chairs M a1 a2 a3 := fun {r} a b => ⟨r, M, M, a, b, hI0⟩
  rcases q_set a1 hn with ⟨n, hn2, rfl, hz⟩ | ⟨hz, hout⟩
  · -- a set of tables
    have h512 : 2 ^ nt ≤ 2 ^ 9 := Nat.pow_le_pow_right (by decide) hn
    have hx : isM (nI n) n.testBit := ⟨n, by omega, rfl, fun _ _ => rfl⟩
    rw [if_pos hz] at hall
    have hall : m_X7_hasAll M 8 (nI n) = some (nI 1) := hall
    have ein1 : ∀ M' : fp_Mem, m_X12_in M' (Int32.toInt64 (nI n)) (lN 0) (Int32.toInt64 (((nI 1) <<< (nI nt &&& 31)) - (nI 1))) = some (nI 1) := fun M' => by
      rw [ein, m_in_i]
      · rw [q_lt (by omega) (by decide)]
        omega
      · rw [q_lt (by omega) (by omega)]
        omega
    by_cases h3t : a3 = (-1 : Int32) ∨ ∃ t, t < nt ∧ a3 = nI t
    · have ec : m_X11_chairs M (nI n) a2 a3 = m_X11_chairs_30 (nI n) a2 a3 M := by
        rw [m_X11_chairs, hall, fp_b1t, if_neg (by decide)]
        rcases h3t with e | ⟨t, ht, e⟩
        · rw [if_pos e]
        · have ne : ¬ a3 = (-1 : Int32) := fun z => by
            have := nI_pos (n := t) (by omega)
            rw [← e, z] at this
            exact this (by decide)
          rw [if_neg ne, e, c_hasTable_y r1 hn ht, fp_b1t, if_neg (by decide)]
      have em : ∀ M' : fp_Mem, M' 120 1 = nI nt → m_X12_chairs M' (nI n) a2 a3 = m_X12_chairs_34 (nI n) a2 a3 M' := fun M' r3 => by
        rw [m_X12_chairs, r3, ein1, fp_b1t, if_neg (by decide)]
        rcases h3t with e | ⟨t, ht, e⟩
        · rw [if_pos e]
        · have ne : ¬ a3 = (-1 : Int32) := fun z => by
            have := nI_pos (n := t) (by omega)
            rw [← e, z] at this
            exact this (by decide)
          rw [if_neg ne, e, m_isTable_y r3 hn ht, fp_b1t, if_neg (by decide)]
      rcases q_rng a2 (b := 8) (by decide) with ⟨m, hm, rfl⟩ | hout
      · obtain ⟨r, M1, p1, f1, R⟩ := c_opened h3.1 (SR_CS hS hN) hx hm
        have r3 : M1 120 1 = nI nt := by rw [f1 120 (by decide)]; exact r2
        have hMR : MR M1 nt nw fa fb := by
          unfold MR
          rw [f1 120 (by decide), f1 121 (by decide), f1 122 (by decide)]
          exact h3.2.1
        have hS1 : CS M1 13 se si := by
          unfold CS
          rw [f1 (13 + 1) (by decide), f1 (13 + 2) (by decide)]
          exact SR_CS hS hN
        have F := m_find (m := m) hMR hN (fun t ht => (hb t ht).1) hx hm (fun j _ => by rw [f1 123 (by decide)])
        rw [hS.2.2.1] at R
        have inv : ∀ s', IV M1 (M 123) s' → fp_Inv s' := fun s' hs' => InvS2 hP0 (fr_tr (fr_mono f1 (fun q h => by simp only [scr]; omega)) (fr_mono hs'.1 (fun q h => by simp only [scr]; omega))) (fun j hj => (hs'.2 j hj).1)
        have e34 : m_X12_chairs_34 (nI n) (nI m) a3 M1 = fp_b2 (m_X12_findChairs M1 (nI n) (nI m)) fun r_3 M_4 => if r_3 < 0 then m_X12_chairs_67 (nI n) (nI m) a3 r_3 M_4 else if a3 = (-1 : Int32) then m_X12_chairs_67 (nI n) (nI m) a3 r_3 M_4 else fp_gd (fp_in a3 9) <| m_X12_chairs_78 (nI n) (nI m) a3 (M_4 133 (Int32.toNatClampNeg a3)) M_4 := by
          rw [m_X12_chairs_34, q_in_y (Nat.zero_le _) hm (by decide), fp_b1t, if_neg (by decide)]
        have e30 : m_X11_chairs_30 (nI n) (nI m) a3 M = if r = (-1 : Int32) then some ((-1 : Int32), M1) else if a3 = (-1 : Int32) then fp_b1 (m_X9_chairsFor M1 13 r) fun r_6 => m_X11_chairs_100 (nI n) (nI m) a3 r_6 M1 else fp_b1 (m_X9_chairsFor M1 13 (r &&& ((nI 1) <<< (a3 &&& 31)))) fun r_4 => m_X11_chairs_100 (nI n) (nI m) a3 r_4 M1 := by
          rw [m_X11_chairs_30, if_neg (nI_pos (by omega)), if_pos (nI_le hm (by decide)), p1, fp_b2t]
        rcases R with ⟨rfl, R⟩ | ⟨B, hB, rfl, hcB, R⟩
        · rw [if_pos rfl] at e30
          rcases F with ⟨s', g1, g2, g3⟩ | ⟨k, c, s', g1, g2, g3, g4, g5, g6⟩
          · refine ⟨(-1 : Int32), M1, s', ec.trans e30, ?_, inv s' g1⟩
            rw [em M1 r3, e34, g3, fp_b2t, if_pos (by decide), m_X12_chairs_67, m_X12_chairs_78]
          · obtain ⟨Q, q1, -, -⟩ := does_cand hn hs g1 g3
            obtain ⟨j, j1, j2⟩ := bits_of Q 9 (Nat.le_refl _)
            exact absurd (cand_congr hn (fun i hi => (j2 i hi).symm) q1) (R j j1)
        · have hB1 : ¬ nI B = (-1 : Int32) := fun z => by
            have := nI_pos (n := B) (by omega)
            rw [z] at this
            exact this (by decide)
          rw [if_neg hB1] at e30
          have hmin : ∀ Q, cand nt (adjN (M 123 19) fa fb nw) n.testBit m se si Q → vv se si B.testBit ≤ vv se si Q := fun Q hQ => by
            obtain ⟨j, j1, j2⟩ := bits_of Q 9 (Nat.le_refl _)
            have := R j j1 (cand_congr hn (fun i hi => (j2 i hi).symm) hQ)
            rw [vv_congr j2] at this
            exact this
          rcases F with ⟨s', g1, g2, g3⟩ | ⟨k, c, s', g1, g2, g3, g4, g5, g6⟩
          · obtain ⟨cB, q1, -⟩ := cand_does hn hs hcB
            exact absurd q1 (g2 _ cB hcB.2.2)
          · obtain ⟨k1, k2⟩ := agree hn hs hcB hmin g1 g3 g4
            have hBM : isM (nI B) B.testBit := ⟨B, hB, rfl, fun _ _ => rfl⟩
            rcases h3t with e | ⟨t, ht, e⟩
            · rw [if_pos e, c_chairsFor hS1 hBM, fp_b1t, m_X11_chairs_100] at e30
              refine ⟨_, M1, s', ec.trans e30, ?_, inv s' g2⟩
              rw [em M1 r3, e34, g5, fp_b2t, if_neg (nI_pos (by omega)), if_pos e, m_X12_chairs_67, m_X12_chairs_78, k1]
            · have ne : ¬ a3 = (-1 : Int32) := fun z => by
                have := nI_pos (n := t) (by omega)
                rw [← e, z] at this
                exact this (by decide)
              have ht9 : t < 9 := by omega
              rw [if_neg ne, e, c_chairsFor hS1 (isM_and hBM (isM_bit ht9)), fp_b1t, m_X11_chairs_100, cost_1 ht9] at e30
              refine ⟨_, M1, s', ec.trans (by rw [e]; exact e30), ?_, inv s' g2⟩
              rw [em M1 r3, e34, g5, fp_b2t, if_neg (nI_pos (by omega)), if_neg ne, e, fp_inN ht9 (by decide), fp_gdt, q_cl (by omega), m_X12_chairs_78, g6 t ht9, k2 t ht9]
              by_cases hq : B.testBit t = true
              · rw [if_pos hq, if_pos hq, (cst_le hcB.2.2 (Nat.le_refl 4) ht9 hq).1]
              · rw [if_neg hq, if_neg hq]
      · refine unk (r := (-1000000002 : Int32)) ?_ ?_
        · rw [ec, m_X11_chairs_30]
          rcases hout with h | ⟨ha, hb⟩
          · rw [if_pos h, m_X11_chairs_40]
          · rw [if_neg ha, if_neg (Int32.not_le.mpr hb), m_X11_chairs_40]
        · rw [em M r2, m_X12_chairs_34, q_in_n hout (by decide), fp_b1t, if_pos (by decide)]
    · have ne : ¬ a3 = (-1 : Int32) := fun z => h3t (Or.inl z)
      rcases q_tab a3 (n := nt) (by omega) with ⟨t, ht, e⟩ | hno
      · exact absurd (Or.inr ⟨t, ht, e⟩) h3t
      · refine unk (r := (-1000000001 : Int32)) ?_ ?_
        · rw [m_X11_chairs, hall, fp_b1t, if_neg (by decide), if_neg ne, c_hasTable_n r1 hno, fp_b1t, if_pos (by decide), m_X11_chairs_27]
        · rw [m_X12_chairs, r2, ein1, fp_b1t, if_neg (by decide), if_neg ne, m_isTable_n r2 hn hno, fp_b1t, if_pos (by decide), m_X12_chairs_31]
  · rw [if_neg hz] at hall
    have hall : m_X7_hasAll M 8 a1 = some (nI 0) := hall
    refine unk (r := (-1000000001 : Int32)) ?_ ?_
    · rw [m_X11_chairs, hall, fp_b1t, if_pos (by decide), m_X11_chairs_27]
    · rw [m_X12_chairs, r2, ein, m_in_o _ hout, fp_b1t, if_pos (by decide), m_X12_chairs_31]

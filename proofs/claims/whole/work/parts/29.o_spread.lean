/-! spread evenly -/
theorem nsum_b {P : Nat → Bool} {g : Nat → Nat} {n : Nat} (hg : ∀ u, u < n → g u ≤ 24) : nsum (fun u => if P u = true then g u else 0) n ≤ n * 24 := nsum_le (fun i hi => by
  show (if P i = true then g i else 0) ≤ 24
  by_cases h : P i = true
  · rw [if_pos h]; exact hg i hi
  · rw [if_neg h]; exact Nat.zero_le _)
def one1 (_ : Nat) : Nat := 1
theorem one1_is (n : Nat) : one1 n = 1 := rfl
def nmin (P : Nat → Bool) (se : Nat → Nat) : Nat → Nat
  | 0 => 20
  | n + 1 => if P n = true then (if se n < nmin P se n then se n else nmin P se n) else nmin P se n
theorem nmin_le {P : Nat → Bool} {se : Nat → Nat} : ∀ n, nmin P se n ≤ 20
  | 0 => Nat.le_refl _
  | n + 1 => by
    have := nmin_le (P := P) (se := se) n
    rw [nmin]
    by_cases h : P n = true
    · rw [if_pos h]
      by_cases h2 : se n < nmin P se n
      · rw [if_pos h2]; omega
      · rw [if_neg h2]; exact this
    · rw [if_neg h]; exact this
theorem nmin_ge {P : Nat → Bool} {se : Nat → Nat} {q : Nat} : ∀ {n}, q ≤ nmin P se n ↔ q ≤ 20 ∧ ∀ u, u < n → P u = true → q ≤ se u
  | 0 => ⟨fun h => ⟨h, fun u hu => absurd hu (Nat.not_lt_zero u)⟩, fun h => h.1⟩
  | n + 1 => by
    have ih := nmin_ge (P := P) (se := se) (q := q) (n := n)
    rw [nmin]
    by_cases h : P n = true
    · rw [if_pos h]
      by_cases h2 : se n < nmin P se n
      · rw [if_pos h2]
        constructor
        · intro hq
          have := ih.mp (by omega)
          refine ⟨this.1, fun u hu hp => ?_⟩
          by_cases e : u = n
          · rw [e]; exact hq
          · exact this.2 u (by omega) hp
        · intro hq
          exact hq.2 n (by omega) h
      · rw [if_neg h2]
        constructor
        · intro hq
          have := ih.mp hq
          refine ⟨this.1, fun u hu hp => ?_⟩
          by_cases e : u = n
          · rw [e]; omega
          · exact this.2 u (by omega) hp
        · intro hq
          exact ih.mpr ⟨hq.1, fun u hu hp => hq.2 u (by omega) hp⟩
    · rw [if_neg h]
      constructor
      · intro hq
        have := ih.mp hq
        refine ⟨this.1, fun u hu hp => ?_⟩
        by_cases e : u = n
        · rw [e] at hp; exact absurd hp h
        · exact this.2 u (by omega) hp
      · intro hq
        exact ih.mpr ⟨hq.1, fun u hu hp => hq.2 u (by omega) hp⟩
section SPR
variable {P : Nat → Bool} {se si : Nat → Nat}
theorem nsum_lin {q : Nat} : ∀ {n}, (∀ u, u < n → P u = true → q ≤ se u) → nsum (fun u => if P u = true then se u - q else 0) n + q * nsum (fun u => if P u = true then one1 u else 0) n = nsum (fun u => if P u = true then se u else 0) n
  | 0, _ => rfl
  | n + 1, h => by
    have ih := nsum_lin (n := n) (fun u hu hp => h u (by omega) hp)
    cases hP : P n with
    | false =>
      rw [nsum_f (g := fun u => se u - q) hP, nsum_f (g := one1) hP, nsum_f (g := se) hP]
      exact ih
    | true =>
      have := h n (by omega) hP
      rw [nsum_t (g := fun u => se u - q) hP, nsum_t (g := one1) hP, nsum_t (g := se) hP, one1_is, Nat.mul_add, Nat.mul_one]
      omega
theorem nsum_fr : ∀ {n}, (∀ u, u < n → si u ≤ se u) → nsum (fun u => if P u = true then se u - si u else 0) n + nsum (fun u => if P u = true then si u else 0) n = nsum (fun u => if P u = true then se u else 0) n
  | 0, _ => rfl
  | n + 1, h => by
    have ih := nsum_fr (n := n) (fun u hu => h u (by omega))
    cases hP : P n with
    | false =>
      rw [nsum_f (g := fun u => se u - si u) hP, nsum_f (g := si) hP, nsum_f (g := se) hP]
      exact ih
    | true =>
      have := h n (by omega)
      rw [nsum_t (g := fun u => se u - si u) hP, nsum_t (g := si) hP, nsum_t (g := se) hP]
      omega
theorem nsum_1 {t : Nat} (hp : P t = true) : ∀ {n}, t < n → 1 ≤ nsum (fun u => if P u = true then one1 u else 0) n
  | 0, h => absurd h (Nat.not_lt_zero t)
  | n + 1, h => by
    by_cases e : t = n
    · subst e
      rw [nsum_t (g := one1) hp, one1_is]
      omega
    · have := nsum_1 hp (n := n) (by omega)
      cases hP : P n with
      | false => rw [nsum_f (g := one1) hP]; exact this
      | true => rw [nsum_t (g := one1) hP]; omega
/-- the least that each of them can have free -/
def least (P : Nat → Bool) (se si : Nat → Nat) (n : Nat) : Nat :=
  if nsum (fun u => if P u = true then se u - si u else 0) n / nsum (fun u => if P u = true then one1 u else 0) n < nmin P se n then nsum (fun u => if P u = true then se u - si u else 0) n / nsum (fun u => if P u = true then one1 u else 0) n else nmin P se n
def canS (P : Nat → Bool) (se si : Nat → Nat) (n q : Nat) : Prop := (∀ u, u < n → P u = true → q ≤ se u) ∧ nsum (fun u => if P u = true then si u else 0) n ≤ nsum (fun u => if P u = true then se u - q else 0) n
theorem canS_iff {n t q : Nat} (hp : P t = true) (ht : t < n) (h : ∀ u, u < n → si u ≤ se u ∧ se u ≤ 20) : canS P se si n q ↔ q ≤ least P se si n := by
  have hc := nsum_1 hp ht
  have hf := nsum_fr (P := P) (n := n) (fun u hu => (h u hu).1)
  have hl : q ≤ least P se si n ↔ q ≤ nsum (fun u => if P u = true then se u - si u else 0) n / nsum (fun u => if P u = true then one1 u else 0) n ∧ q ≤ nmin P se n := by
    unfold least
    by_cases c : nsum (fun u => if P u = true then se u - si u else 0) n / nsum (fun u => if P u = true then one1 u else 0) n < nmin P se n
    · rw [if_pos c]
      exact ⟨fun h => ⟨h, by omega⟩, fun h => h.1⟩
    · rw [if_neg c]
      exact ⟨fun h => ⟨by omega, h⟩, fun h => h.2⟩
  rw [hl, nmin_ge, Nat.le_div_iff_mul_le hc]
  constructor
  · rintro ⟨h1, h2⟩
    have := nsum_lin h1
    refine ⟨by omega, ?_, h1⟩
    exact Nat.le_trans (h1 t ht hp) (h t ht).2
  · rintro ⟨h1, h2, h3⟩
    have := nsum_lin h3
    exact ⟨h3, by omega⟩
theorem m_canSpread {M : fp_Mem} {nt q : Nat} {x : Int32} (hn : nt ≤ 9) (r2 : M 120 1 = nI nt) (hx : isM x P) (hS : ∀ u, u < nt → M 123 u = nI (se u) ∧ M 123 (9 + u) = nI (si u) ∧ se u ≤ 24 ∧ si u ≤ 24) (hq : q < 2 ^ 31) :
    (canS P se si nt q → m_X12_canSpread M x (nI q) = some (nI 1)) ∧ (¬ canS P se si nt q → m_X12_canSpread M x (nI q) = some (nI 0)) := by
  obtain ⟨n1, ⟨v3, v4, v5⟩, ⟨i4, i5⟩, he⟩ := loopI (fun n i (s : Int32 × Int32 × Int32) => m_X12_canSpread_11 M x (nI q) n s.1 s.2.1 s.2.2 (nI i)) nt (fun i s => s.2.1 = nI (nsum (fun u => if P u = true then si u else 0) i) ∧ ((s.2.2 = nI 1 ∧ s.1 = nI (nsum (fun u => if P u = true then se u - q else 0) i) ∧ ∀ u, u < i → P u = true → q ≤ se u) ∨ (s.2.2 = nI 0 ∧ ∃ u, u < i ∧ P u = true ∧ se u < q))) (by
    rintro n i ⟨v3, v4, v5⟩ hi ⟨i4, i5⟩
    have i4 : v4 = nI (nsum (fun u => if P u = true then si u else 0) i) := i4
    have hh := m_has_eq (M := M) hx (t := i) (by omega)
    obtain ⟨e1, e2, b1, b2⟩ := hS i hi
    cases hPi : P i with
    | false =>
      rw [hPi] at hh
      refine ⟨(v3, v4, v5), ⟨by rw [nsum_f (g := si) hPi]; exact i4, ?_⟩, ?_⟩
      · rcases i5 with ⟨j1, j2, j3⟩ | ⟨j1, u, j2, j3, j4⟩
        · refine Or.inl ⟨j1, by rw [nsum_f (g := fun u => se u - q) hPi]; exact j2, fun u hu hp => ?_⟩
          by_cases e : u = i
          · rw [e, hPi] at hp; cases hp
          · exact j3 u (by omega) hp
        · exact Or.inr ⟨j1, u, by omega, j3, j4⟩
      · show m_X12_canSpread_11 M x (nI q) (n + 1) v3 v4 v5 (nI i) = m_X12_canSpread_11 M x (nI q) n v3 v4 v5 (nI (i + 1))
        rw [m_X12_canSpread_11, r2, if_neg (nI_ge hi (by omega)), hh, fp_b1t, if_pos (by decide), m_X12_canSpread_79, fp_ltt, nI_add]
    | true =>
      rw [hPi] at hh
      have st : ∀ s0, m_X12_canSpread_50 M x (nI q) (m_X12_canSpread_11 M x (nI q) n) v3 v4 (nI i) s0 = m_X12_canSpread_11 M x (nI q) n (v3 + (nI (se i) - nI q)) (nI (nsum (fun u => if P u = true then si u else 0) (i + 1))) s0 (nI (i + 1)) := by
        intro s0
        rw [m_X12_canSpread_50, fp_inN (show i < 25 by omega) (by decide), fp_gdt, fp_ltt, nI_add, fp_inN (show 9 + i < 25 by omega) (by decide), fp_gdt, fp_ltt, q_cl (by omega), q_cl (by omega), e1, e2, m_X12_canSpread_79, fp_ltt, nI_add, i4, nI_add, nsum_t (g := si) hPi]
      have st2 : m_X12_canSpread_11 M x (nI q) (n + 1) v3 v4 v5 (nI i) = if v5 = 0 then m_X12_canSpread_50 M x (nI q) (m_X12_canSpread_11 M x (nI q) n) v3 v4 (nI i) (nI 0) else if nI (se i) < nI q then m_X12_canSpread_50 M x (nI q) (m_X12_canSpread_11 M x (nI q) n) v3 v4 (nI i) (nI 0) else m_X12_canSpread_50 M x (nI q) (m_X12_canSpread_11 M x (nI q) n) v3 v4 (nI i) (nI 1) := by
        rw [m_X12_canSpread_11, r2, if_neg (nI_ge hi (by omega)), hh, fp_b1t, if_neg (by decide), fp_inN (show i < 25 by omega) (by decide), fp_gdt, q_cl (by omega), e1, m_X12_canSpread_49]
      rcases i5 with ⟨j1, j2, j3⟩ | ⟨j1, u, j2, j3, j4⟩
      · have j1 : v5 = nI 1 := j1
        have j2 : v3 = nI (nsum (fun u => if P u = true then se u - q else 0) i) := j2
        by_cases hlt : se i < q
        · refine ⟨(v3 + (nI (se i) - nI q), nI (nsum (fun u => if P u = true then si u else 0) (i + 1)), nI 0), ⟨rfl, Or.inr ⟨rfl, i, by omega, hPi, hlt⟩⟩, ?_⟩
          refine st2.trans ?_
          rw [j1, if_neg (by decide), if_pos (nI_lt hlt hq)]
          exact st _
        · refine ⟨(nI (nsum (fun u => if P u = true then se u - q else 0) (i + 1)), nI (nsum (fun u => if P u = true then si u else 0) (i + 1)), nI 1), ⟨rfl, Or.inl ⟨rfl, rfl, fun u hu hp => ?_⟩⟩, ?_⟩
          · by_cases e : u = i
            · rw [e]; omega
            · exact j3 u (by omega) hp
          · refine st2.trans ?_
            rw [j1, if_neg (by decide), if_neg (by rw [q_lt (by omega) hq]; exact hlt), st, j2, q_sub (by omega), nI_add, nsum_t (g := fun u => se u - q) hPi]
      · have j1 : v5 = nI 0 := j1
        refine ⟨(v3 + (nI (se i) - nI q), nI (nsum (fun u => if P u = true then si u else 0) (i + 1)), nI 0), ⟨rfl, Or.inr ⟨rfl, u, by omega, j3, j4⟩⟩, ?_⟩
        refine st2.trans ?_
        rw [j1, if_pos (by decide)]
        exact st _) nt 0 fp_fu (nI 0, nI 0, nI 1) (by omega) (fu_lt (by omega)) ⟨rfl, Or.inl ⟨rfl, rfl, fun u hu => absurd hu (Nat.not_lt_zero u)⟩⟩
  have i4 : v4 = nI (nsum (fun u => if P u = true then si u else 0) nt) := i4
  have hb4 : nsum (fun u => if P u = true then si u else 0) nt ≤ nt * 24 := nsum_b (fun u hu => (hS u hu).2.2.2)
  have hb3 : nsum (fun u => if P u = true then se u - q else 0) nt ≤ nt * 24 := nsum_b (g := fun u => se u - q) (fun u hu => by have := (hS u hu).2.2.1; omega)
  have hend : m_X12_canSpread M x (nI q) = if v5 = 0 then some (nI 0) else if v3 < v4 then some (nI 0) else some (nI 1) := by
    rw [m_X12_canSpread]
    refine he.trans ?_
    show m_X12_canSpread_11 M x (nI q) (n1 + 1) v3 v4 v5 (nI nt) = _
    rw [m_X12_canSpread_11, r2, if_pos (nI_le (Nat.le_refl _) (by omega))]
    rfl
  rw [hend]
  rcases i5 with ⟨j1, j2, j3⟩ | ⟨j1, u, j2, j3, j4⟩
  · have j1 : v5 = nI 1 := j1
    have j2 : v3 = nI (nsum (fun u => if P u = true then se u - q else 0) nt) := j2
    have hlt : (v3 < v4) = (nsum (fun u => if P u = true then se u - q else 0) nt < nsum (fun u => if P u = true then si u else 0) nt) := by rw [i4, j2, q_lt (by omega) (by omega)]
    rw [j1, if_neg (by decide)]
    constructor
    · intro hc
      have h2 := hc.2
      rw [if_neg (by rw [hlt]; omega)]
    · intro hc
      rw [if_pos (by
        rw [hlt]
        exact Nat.not_le.mp (fun h => hc ⟨j3, h⟩))]
  · have j1 : v5 = nI 0 := j1
    rw [j1, if_pos (by decide)]
    exact ⟨fun hc => absurd (hc.1 u j2 j3) (by omega), fun _ => rfl⟩
end SPR
theorem st_spread {M : fp_Mem} (hI : fp_Inv M) (a1 : Int32) : ok_spread M a1 := by
  have hI0 := hI
  obtain ⟨nt, nw, fa, fb, hP⟩ := hI
  have hP0 := hP
  obtain ⟨h1, h2, h3, h4, h5, h6, h7, h8, h9⟩ := hP
  obtain ⟨hS, se, si, w, hN, hb, hw, hw9⟩ := id h4
  have hn := h3.1.1
  have r1 : M 8 3 = nI nt := h3.1.2.2.1
  have r2 : M 120 1 = nI nt := h3.2.1.2.2.1
  rcases q_tab a1 (n := nt) (by omega) with ⟨t, ht, rfl⟩ | hno
  · obtain ⟨M1, x, P, p1, p2, f1, p3, hx, hPt⟩ := both_hang h3 hS ht
    have r3 : M1 8 3 = nI nt := by rw [f1 8 (by omega)]; exact r1
    have r4 : M1 120 1 = nI nt := by rw [f1 120 (by omega)]; exact r2
    have cf : ∀ u, u < 9 → m_X9_free M1 13 (nI u) = some (nI (se u - si u)) := fun u hu => c_free (SR_CS (SR_fr hS f1 (by omega) (by omega) (by omega)) hN) hu
    have cs : ∀ u, u < 9 → M1 (13 + 1) u = nI (se u) := fun u hu => by rw [f1 (13 + 1) (by omega), (hS.1 u hu).1]; exact (hN u hu).1
    have fsm : fr scr M M1 := fr_mono f1 (fun q h => by simp only [scr]; omega)
    have hbF : nsum (fun u => if P u = true then se u - si u else 0) nt ≤ nt * 24 := nsum_b (g := fun u => se u - si u) (fun u hu => Nat.le_trans (Nat.sub_le _ _) (hN u (by omega)).2.2.2)
    have hbC : nsum (fun u => if P u = true then one1 u else 0) nt ≤ nt * 24 := nsum_b (g := one1) (fun u hu => by rw [one1_is]; decide)
    have hc1 := nsum_1 hPt ht
    have hle := nmin_le (P := P) (se := se) nt
    have hres : least P se si nt ≤ 20 := by
      unfold least
      by_cases c : nsum (fun u => if P u = true then se u - si u else 0) nt / nsum (fun u => if P u = true then one1 u else 0) nt < nmin P se nt
      · rw [if_pos c]; omega
      · rw [if_neg c]; exact hle
    refine ⟨nI (least P se si nt), M1, ?_, ?_, InvS hP0 fsm⟩
    · rw [m_X11_spread, c_hasTable_y r1 hn ht, fp_b1t, if_neg (by decide), m_X10_leastFree, p1, fp_b1t, p2, fp_b1t]
      obtain ⟨n1, ⟨v5, v6, v7⟩, ⟨i5, i6, i7⟩, he⟩ := loopI (fun n i (s : Int32 × Int32 × Int32) => m_X10_leastFree_35 8 13 (nI t) n x s.1 s.2.1 s.2.2 (nI i) M1) nt (fun i s => s.1 = nI (nsum (fun u => if P u = true then se u - si u else 0) i) ∧ s.2.1 = nI (nsum (fun u => if P u = true then one1 u else 0) i) ∧ s.2.2 = nI (nmin P se i)) (by
        rintro n i ⟨v5, v6, v7⟩ hi ⟨i5, i6, i7⟩
        have i5 : v5 = nI (nsum (fun u => if P u = true then se u - si u else 0) i) := i5
        have i6 : v6 = nI (nsum (fun u => if P u = true then one1 u else 0) i) := i6
        have i7 : v7 = nI (nmin P se i) := i7
        have hm := nmin_le (P := P) (se := se) i
        cases hPi : P i with
        | false =>
          refine ⟨(v5, v6, v7), ⟨by rw [nsum_f (g := fun u => se u - si u) hPi]; exact i5, by rw [nsum_f (g := one1) hPi]; exact i6, by rw [nmin, hPi, if_neg (by decide)]; exact i7⟩, ?_⟩
          show m_X10_leastFree_35 8 13 (nI t) (n + 1) x v5 v6 v7 (nI i) M1 = m_X10_leastFree_35 8 13 (nI t) n x v5 v6 v7 (nI (i + 1)) M1
          rw [m_X10_leastFree_35, r3, if_neg (nI_ge hi (by omega)), if_pos ((isM_tz hx (by omega)).mpr hPi), m_X10_leastFree_82, fp_ltt, nI_add]
        | true =>
          refine ⟨(nI (nsum (fun u => if P u = true then se u - si u else 0) (i + 1)), nI (nsum (fun u => if P u = true then one1 u else 0) (i + 1)), nI (nmin P se (i + 1))), ⟨rfl, rfl, rfl⟩, ?_⟩
          have hmn : (if nI (se i) < nI (nmin P se i) then nI (se i) else nI (nmin P se i)) = nI (nmin P se (i + 1)) := by
            have h24 := (hN i (by omega)).2.2.2
            rw [nmin, hPi, if_pos rfl]
            by_cases c : se i < nmin P se i
            · rw [if_pos c, if_pos (nI_lt c (by omega))]
            · rw [if_neg c, if_neg (by rw [q_lt (by omega) (by omega)]; exact c)]
          show m_X10_leastFree_35 8 13 (nI t) (n + 1) x v5 v6 v7 (nI i) M1 = _
          rw [m_X10_leastFree_35, r3, if_neg (nI_ge hi (by omega)), if_neg (fun h => by rw [(isM_tz hx (by omega)).mp h] at hPi; cases hPi), cf i (by omega), fp_b1t, fp_ltt, fp_ltt, fp_inN (show i < 9 by omega) (by decide), fp_gdt, q_cl (by omega), cs i (by omega), fp_ltt, m_X10_leastFree_82, fp_ltt, i5, i6, i7, nI_add, nI_add, nI_add, hmn, nsum_t (g := fun u => se u - si u) hPi, nsum_t (g := one1) hPi, one1_is]) nt 0 fp_fu (nI 0, nI 0, nI 20) (by omega) (fu_lt (by omega)) ⟨rfl, rfl, rfl⟩
      have i5 : v5 = nI (nsum (fun u => if P u = true then se u - si u else 0) nt) := i5
      have i6 : v6 = nI (nsum (fun u => if P u = true then one1 u else 0) nt) := i6
      have i7 : v7 = nI (nmin P se nt) := i7
      have hend : m_X10_leastFree_35 8 13 (nI t) fp_fu x (nI 0) (nI 0) (nI 20) (nI 0) M1 = some (nI (least P se si nt), M1) := by
        refine he.trans ?_
        show m_X10_leastFree_35 8 13 (nI t) (n1 + 1) x v5 v6 v7 (nI nt) M1 = _
        have hdv : nsum (fun u => if P u = true then se u - si u else 0) nt / nsum (fun u => if P u = true then one1 u else 0) nt < 2 ^ 31 := Nat.lt_of_le_of_lt (Nat.div_le_self _ _) (by omega)
        rw [m_X10_leastFree_35, r3, if_pos (nI_le (Nat.le_refl _) (by omega)), i5, i6, i7, if_neg (by rw [q_le0 (by omega)]; omega), fp_nzN (by omega) (by omega), fp_gdt, pk_div (by omega) (by omega) (by omega), m_X10_leastFree_107, least]
        by_cases c : nsum (fun u => if P u = true then se u - si u else 0) nt / nsum (fun u => if P u = true then one1 u else 0) nt < nmin P se nt
        · rw [if_pos c, if_pos (nI_lt c (by omega))]
        · rw [if_neg c, if_neg (by rw [q_lt hdv (by omega)]; exact c)]
      rw [hend, fp_b2t]
    · rw [m_X12_spread, m_isTable_y r4 hn ht, fp_b1t, if_neg (by decide), p3, fp_b1t]
      have hS2 : ∀ u, u < nt → M1 123 u = nI (se u) ∧ M1 123 (9 + u) = nI (si u) ∧ se u ≤ 24 ∧ si u ≤ 24 := fun u hu => by
        obtain ⟨a, b, c, d⟩ := hN u (by omega)
        rw [f1 123 (by omega)]
        exact ⟨a, b, d, by omega⟩
      have hci := fun q => canS_iff (q := q) hPt ht (fun u hu => ⟨(hN u (by omega)).2.2.1, (hb u (by omega)).1⟩)
      obtain ⟨n1, s, -, he⟩ := loopI (fun n i (_ : Unit) => m_X12_spread_19 M1 (nI t) n x (nI i)) (least P se si nt) (fun _ _ => True) (by
        rintro n i s hi -
        refine ⟨(), trivial, ?_⟩
        show m_X12_spread_19 M1 (nI t) (n + 1) x (nI i) = _
        rw [m_X12_spread_19, nI_add, (m_canSpread hn r4 hx hS2 (by omega)).1 ((hci (i + 1)).mpr (by omega)), fp_b1t, if_neg (by decide), fp_ltt]) (least P se si nt) 0 fp_fu () (by omega) (fu_lt (by omega)) trivial
      refine he.trans ?_
      show m_X12_spread_19 M1 (nI t) (n1 + 1) x (nI (least P se si nt)) = _
      rw [m_X12_spread_19, nI_add, (m_canSpread hn r4 hx hS2 (by omega)).2 (fun h => by have := (hci (least P se si nt + 1)).mp h; omega), fp_b1t, if_pos (by decide)]
  · refine ⟨(-1000000001 : Int32), M, ?_, ?_, hI0⟩
    · rw [m_X11_spread, c_hasTable_n r1 hno, fp_b1t, if_pos (by decide)]
    · rw [m_X12_spread, m_isTable_n r2 hn hno, fp_b1t, if_pos (by decide)]

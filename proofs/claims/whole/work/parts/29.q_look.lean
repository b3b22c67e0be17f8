/-! the best place to look -/
theorem nsum_mono {f g : Nat → Nat} : ∀ {n : Nat}, (∀ i, i < n → f i ≤ g i) → nsum f n ≤ nsum g n
  | 0, _ => Nat.le_refl _
  | n + 1, h => by
    have := nsum_mono (n := n) (fun i hi => h i (by omega))
    have := h n (by omega)
    rw [nsum, nsum]
    omega
theorem nsum_more {f : Nat → Nat} {n : Nat} : ∀ {m : Nat}, (∀ i, n ≤ i → i < n + m → f i = 0) → nsum f (n + m) = nsum f n
  | 0, _ => rfl
  | m + 1, h => by
    show nsum f (n + m) + f (n + m) = _
    rw [nsum_more (m := m) (fun i h1 h2 => h i h1 (by omega)), h (n + m) (by omega) (by omega)]
    rfl
theorem nsum_cnt (P : Nat → Bool) : nsum (fun u => if P u = true then one1 u else 0) 9 = cnt9 P := by
  simp only [nsum, cnt9, one1]
  omega
theorem nsum_cntn {P : Nat → Bool} {nt : Nat} (hn : nt ≤ 9) (h : ∀ u, P u = true → u < nt) : nsum (fun u => if P u = true then one1 u else 0) nt = cnt9 P := by
  rw [← nsum_cnt]
  have := nsum_more (f := fun u => if P u = true then one1 u else 0) (n := nt) (m := 9 - nt) (fun i h1 h2 => by
    show (if P i = true then _ else _) = _
    rw [if_neg (fun e => by have := h i e; omega)])
  rw [show nt + (9 - nt) = 9 by omega] at this
  exact this.symm
theorem m_bits (M : fp_Mem) {x : Int32} {P : Nat → Bool} (h : isM x P) : m_X12_bits M x = some (nI (cnt9 P)) := by
  obtain ⟨n1, s, i1, he⟩ := loopI (fun n i s => m_X12_bits_4 M x n s (nI i)) 9 (fun i s => s = nI (nsum (fun u => if P u = true then one1 u else 0) i)) (by
    rintro n i s hi rfl
    refine ⟨_, rfl, ?_⟩
    show m_X12_bits_4 M x (n + 1) _ (nI i) = _
    rw [m_X12_bits_4, if_neg (nI_ge hi (by decide)), isM_test h hi, fp_ltt, fp_ltt, nI_add, nI_add]
    rfl) 9 0 fp_fu (nI 0) rfl (fu_lt (by decide)) rfl
  subst i1
  rw [m_X12_bits]
  refine he.trans ?_
  show m_X12_bits_4 M x (n1 + 1) _ (nI 9) = _
  rw [m_X12_bits_4, if_pos (nI_le (Nat.le_refl _) (by decide)), nsum_cnt]
section LOOK
variable {nt : Nat} {A : Nat → Nat → Bool} {O : Nat → Bool} {F : Nat → Bool} {x : Int32}
/-- of those that fit, how many have i among their movers -/
def withS (nt : Nat) (A : Nat → Nat → Bool) (O : Nat → Bool) (i u : Nat) : Nat := if mvS nt A O u i = true then 1 else 0
def kS (nt : Nat) (A : Nat → Nat → Bool) (O : Nat → Bool) (F : Nat → Bool) (i n : Nat) : Nat := nsum (fun u => if F u = true then withS nt A O i u else 0) n
def partS (nt : Nat) (A : Nat → Nat → Bool) (O : Nat → Bool) (F : Nat → Bool) (i : Nat) : Nat := if kS nt A O F i nt < cnt9 F - kS nt A O F i nt then cnt9 F - kS nt A O F i nt else kS nt A O F i nt
def bestS (nt : Nat) (A : Nat → Nat → Bool) (O : Nat → Bool) (F : Nat → Bool) : Nat → Int32 × Nat
  | 0 => (-1, cnt9 F)
  | n + 1 => if (bestS nt A O F n).2 ≤ partS nt A O F n then bestS nt A O F n else (nI n, partS nt A O F n)
theorem kS_le (hn : nt ≤ 9) (hF : ∀ u, F u = true → u < nt) (i : Nat) : kS nt A O F i nt ≤ cnt9 F := by
  rw [← nsum_cntn hn hF]
  refine nsum_mono (fun u hu => ?_)
  show (if F u = true then withS nt A O i u else 0) ≤ (if F u = true then one1 u else 0)
  by_cases h : F u = true
  · rw [if_pos h, if_pos h, one1_is]
    unfold withS
    by_cases h2 : mvS nt A O u i = true
    · rw [if_pos h2]; exact Nat.le_refl _
    · rw [if_neg h2]; exact Nat.zero_le _
  · rw [if_neg h, if_neg h]; exact Nat.le_refl _
theorem partS_le (hn : nt ≤ 9) (hF : ∀ u, F u = true → u < nt) (i : Nat) : partS nt A O F i ≤ 9 := by
  have := kS_le (A := A) (O := O) hn hF i
  have := cnt9_le F
  unfold partS
  by_cases h : kS nt A O F i nt < cnt9 F - kS nt A O F i nt
  · rw [if_pos h]; omega
  · rw [if_neg h]; omega
theorem bestS_le (hn : nt ≤ 9) (hF : ∀ u, F u = true → u < nt) : ∀ i, (bestS nt A O F i).2 ≤ 9
  | 0 => cnt9_le F
  | i + 1 => by
    rw [bestS]
    by_cases h : (bestS nt A O F i).2 ≤ partS nt A O F i
    · rw [if_pos h]; exact bestS_le hn hF i
    · rw [if_neg h]; exact partS_le hn hF i
theorem c_part {M : fp_Mem} (hC : CC M 16 nt A O) (hn : nt ≤ 9) (hx : isM x F) (hF : ∀ u, F u = true → u < nt) {p : Nat} (hp : p < nt) : m_X8_greatestPart M 16 x (nI p) = some (nI (partS nt A O F p)) := by
  have r0 : M 16 0 = nI nt := hC.1.1
  obtain ⟨n1, ⟨v3, v4⟩, ⟨i3, i4⟩, he⟩ := loopI (fun n i (s : Int32 × Int32) => m_X8_greatestPart_8 M 16 x (nI p) n s.1 s.2 (nI i)) nt (fun i s => s.1 = nI (kS nt A O F p i) ∧ s.2 = nI (nsum (fun u => if F u = true then one1 u else 0) i)) (by
    rintro n i ⟨v3, v4⟩ hi ⟨i3, i4⟩
    have i3 : v3 = nI (kS nt A O F p i) := i3
    have i4 : v4 = nI (nsum (fun u => if F u = true then one1 u else 0) i) := i4
    cases hFi : F i with
    | false =>
      refine ⟨(v3, v4), ⟨by rw [kS, nsum_f (g := withS nt A O p) hFi]; exact i3, by rw [nsum_f (g := one1) hFi]; exact i4⟩, ?_⟩
      show m_X8_greatestPart_8 M 16 x (nI p) (n + 1) v3 v4 (nI i) = m_X8_greatestPart_8 M 16 x (nI p) n v3 v4 (nI (i + 1))
      rw [m_X8_greatestPart_8, r0, if_neg (nI_ge hi (by omega)), if_pos ((isM_tz hx (by omega)).mpr hFi), m_X8_greatestPart_42, fp_ltt, nI_add]
    | true =>
      obtain ⟨y, q1, q2⟩ := cc_moversFrom hC hn hi
      refine ⟨(nI (kS nt A O F p (i + 1)), nI (nsum (fun u => if F u = true then one1 u else 0) (i + 1))), ⟨rfl, rfl⟩, ?_⟩
      show m_X8_greatestPart_8 M 16 x (nI p) (n + 1) v3 v4 (nI i) = m_X8_greatestPart_8 M 16 x (nI p) n (nI (kS nt A O F p (i + 1))) (nI (nsum (fun u => if F u = true then one1 u else 0) (i + 1))) (nI (i + 1))
      rw [m_X8_greatestPart_8, r0, if_neg (nI_ge hi (by omega)), if_neg (fun h => by rw [(isM_tz hx (by omega)).mp h] at hFi; cases hFi), fp_ltt, q1, fp_b1t, isM_test q2 (by omega), fp_ltt, m_X8_greatestPart_42, fp_ltt, i3, i4, nI_add, nI_add, nI_add, nsum_t (g := one1) hFi, one1_is, show kS nt A O F p (i + 1) = kS nt A O F p i + withS nt A O p i from nsum_t (g := withS nt A O p) hFi]
      rfl) nt 0 fp_fu (nI 0, nI 0) (by omega) (fu_lt (by omega)) ⟨rfl, rfl⟩
  have i3 : v3 = nI (kS nt A O F p nt) := i3
  have i4 : v4 = nI (cnt9 F) := by rw [← nsum_cntn hn hF]; exact i4
  have hk := kS_le (A := A) (O := O) hn hF p
  have h9 := cnt9_le F
  rw [m_X8_greatestPart]
  refine he.trans ?_
  show m_X8_greatestPart_8 M 16 x (nI p) (n1 + 1) v3 v4 (nI nt) = _
  rw [m_X8_greatestPart_8, r0, if_pos (nI_le (Nat.le_refl _) (by omega)), i3, i4, q_sub hk, partS]
  by_cases h : kS nt A O F p nt < cnt9 F - kS nt A O F p nt
  · rw [if_pos h, if_pos (nI_lt h (by omega))]
  · rw [if_neg h, if_neg (by rw [q_lt (by omega) (by omega)]; exact h)]
theorem c_best {M : fp_Mem} (hC : CC M 16 nt A O) (hn : nt ≤ 9) (hx : isM x F) (hF : ∀ u, F u = true → u < nt) : m_X8_best_17 M 16 fp_fu x (-1 : Int32) (nI (cnt9 F)) (nI 0) = some (bestS nt A O F nt).1 := by
  have r0 : M 16 0 = nI nt := hC.1.1
  obtain ⟨n1, ⟨v3, v4⟩, ⟨i3, i4⟩, he⟩ := loopI (fun n i (s : Int32 × Int32) => m_X8_best_17 M 16 n x s.1 s.2 (nI i)) nt (fun i s => s.1 = (bestS nt A O F i).1 ∧ s.2 = nI (bestS nt A O F i).2) (by
    rintro n i ⟨v3, v4⟩ hi ⟨i3, i4⟩
    have i3 : v3 = (bestS nt A O F i).1 := i3
    have i4 : v4 = nI (bestS nt A O F i).2 := i4
    have hb := bestS_le (A := A) (O := O) hn hF i
    have hp := partS_le (A := A) (O := O) hn hF i
    have st : m_X8_best_17 M 16 (n + 1) x v3 v4 (nI i) = if nI (bestS nt A O F i).2 ≤ nI (partS nt A O F i) then m_X8_best_17 M 16 n x v3 v4 (nI (i + 1)) else m_X8_best_17 M 16 n x (nI i) (nI (partS nt A O F i)) (nI (i + 1)) := by
      rw [m_X8_best_17, r0, if_neg (nI_ge hi (by omega)), c_part hC hn hx hF hi, fp_b1t]
      simp only [m_X8_best_49, fp_ltt, nI_add]
      rw [i4]
    by_cases h : (bestS nt A O F i).2 ≤ partS nt A O F i
    · refine ⟨(v3, v4), ⟨by rw [bestS, if_pos h]; exact i3, by rw [bestS, if_pos h]; exact i4⟩, ?_⟩
      refine st.trans ?_
      rw [if_pos (nI_le h (by omega))]
    · refine ⟨(nI i, nI (partS nt A O F i)), ⟨by rw [bestS, if_neg h], by rw [bestS, if_neg h]⟩, ?_⟩
      refine st.trans ?_
      rw [if_neg (by rw [q_le (by omega) (by omega)]; exact h)]) nt 0 fp_fu (-1, nI (cnt9 F)) (by omega) (fu_lt (by omega)) ⟨rfl, rfl⟩
  have i3 : v3 = (bestS nt A O F nt).1 := i3
  refine he.trans ?_
  show m_X8_best_17 M 16 (n1 + 1) x v3 v4 (nI nt) = _
  rw [m_X8_best_17, r0, if_pos (nI_le (Nat.le_refl _) (by omega)), i3]
theorem m_part {M : fp_Mem} {nw : Nat} {fa fb : Nat → Nat} (K18 : Int32 → Int32 → Int32 → Int32 → Int32 → fp_Mem → Option (Int32 × fp_Mem)) (hC : MC M nt nw fa fb A O) (hx : isM x F) (hF : ∀ u, F u = true → u < nt ∧ dst nt A O u < 9) {p b : Nat} (hp : p < nt) (hb : b ≤ 9) (v3 : Int32) :
    m_X12_look_33 K18 fp_fu x (nI (cnt9 F)) v3 (nI b) (nI p) (nI 0) (nI 0) M = if b ≤ partS nt A O F p then K18 x (nI (cnt9 F)) v3 (nI b) (nI (p + 1)) M else K18 x (nI (cnt9 F)) (nI p) (nI (partS nt A O F p)) (nI (p + 1)) M := by
  have hn := hC.1.1
  have r2 := hC.1.2.2.1
  obtain ⟨n1, v6, i6, he⟩ := loopI (fun n i (s : Int32) => m_X12_look_33 K18 n x (nI (cnt9 F)) v3 (nI b) (nI p) s (nI i) M) nt (fun i s => s = nI (kS nt A O F p i)) (by
    rintro n i s hi rfl
    have hh := m_has_eq (M := M) hx (t := i) (by omega)
    have st : ∀ z, m_X12_look_72 K18 (m_X12_look_33 K18 n) x (nI (cnt9 F)) v3 (nI b) (nI p) (nI i) (nI (kS nt A O F p i)) (nI z) M = m_X12_look_33 K18 n x (nI (cnt9 F)) v3 (nI b) (nI p) (nI (kS nt A O F p i + z)) (nI (i + 1)) M := by
      intro z
      rw [m_X12_look_72, fp_ltt, fp_ltt, nI_add, nI_add]
    refine ⟨_, rfl, ?_⟩
    show m_X12_look_33 K18 (n + 1) x (nI (cnt9 F)) v3 (nI b) (nI p) _ (nI i) M = _
    rw [m_X12_look_33, r2, if_neg (nI_ge hi (by omega)), hh, fp_b1t]
    cases hFi : F i with
    | false => rw [if_pos (by decide), m_X12_look_71, st, show kS nt A O F p (i + 1) = kS nt A O F p i from nsum_f (g := withS nt A O p) hFi, Nat.add_zero]
    | true =>
      obtain ⟨y, q1, q2⟩ := m_movers hC hi (hF i hFi).2
      have hh2 := m_has_eq (M := M) q2 (t := p) (by omega)
      rw [if_neg (by decide), q1, fp_b1t, hh2, fp_b1t, show kS nt A O F p (i + 1) = kS nt A O F p i + withS nt A O p i from nsum_t (g := withS nt A O p) hFi, withS]
      by_cases h2 : mvS nt A O i p = true
      · rw [if_pos h2, if_neg (by decide), st]
      · rw [if_neg h2, if_pos (by decide), m_X12_look_71, st]) nt 0 fp_fu (nI 0) (by omega) (fu_lt (by omega)) rfl
  subst i6
  have hk := kS_le (A := A) (O := O) hn (fun u h => (hF u h).1) p
  have h9 := cnt9_le F
  have hpl := partS_le (A := A) (O := O) hn (fun u h => (hF u h).1) p
  have h99 : ∀ s0 : Nat, s0 ≤ 9 → m_X12_look_99 K18 x (nI (cnt9 F)) v3 (nI b) (nI p) (nI s0) M = if b ≤ s0 then K18 x (nI (cnt9 F)) v3 (nI b) (nI (p + 1)) M else K18 x (nI (cnt9 F)) (nI p) (nI s0) (nI (p + 1)) M := by
    intro s0 hs
    rw [m_X12_look_99, m_X12_look_114, m_X12_look_114]
    by_cases h : b ≤ s0
    · rw [if_pos (nI_le h (by omega)), if_pos (nI_le h (by omega)), if_pos h, m_X12_look_129, fp_ltt, nI_add]
    · rw [if_neg (by rw [q_le (by omega) (by omega)]; exact h), if_neg (by rw [q_le (by omega) (by omega)]; exact h), if_neg h, m_X12_look_129, fp_ltt, nI_add]
  refine he.trans ?_
  show m_X12_look_33 K18 (n1 + 1) x (nI (cnt9 F)) v3 (nI b) (nI p) _ (nI nt) M = _
  rw [m_X12_look_33, r2, if_pos (nI_le (Nat.le_refl _) (by omega)), q_sub hk]
  by_cases h : kS nt A O F p nt ≤ cnt9 F - kS nt A O F p nt
  · rw [if_pos (nI_le h (by omega)), h99 _ (by omega)]
    have hq : partS nt A O F p = cnt9 F - kS nt A O F p nt := by
      unfold partS
      by_cases h2 : kS nt A O F p nt < cnt9 F - kS nt A O F p nt
      · rw [if_pos h2]
      · rw [if_neg h2]; omega
    rw [hq]
  · rw [if_neg (by rw [q_le (by omega) (by omega)]; exact h), h99 _ (by omega)]
    have hq : partS nt A O F p = kS nt A O F p nt := by
      unfold partS
      rw [if_neg (by omega)]
    rw [hq]
theorem m_look {M : fp_Mem} {nw : Nat} {fa fb : Nat → Nat} (hC : MC M nt nw fa fb A O) (hx : isM x F) (hF : ∀ u, F u = true → u < nt ∧ dst nt A O u < 9) : m_X12_look_18 fp_fu x (nI (cnt9 F)) (-1 : Int32) (nI (cnt9 F)) (nI 0) M = some ((bestS nt A O F nt).1, M) := by
  have hn := hC.1.1
  have r2 := hC.1.2.2.1
  obtain ⟨n1, ⟨v3, v4⟩, ⟨i3, i4⟩, he⟩ := loopI (fun n i (s : Int32 × Int32) => m_X12_look_18 n x (nI (cnt9 F)) s.1 s.2 (nI i) M) nt (fun i s => s.1 = (bestS nt A O F i).1 ∧ s.2 = nI (bestS nt A O F i).2) (by
    rintro n i ⟨v3, v4⟩ hi ⟨i3, i4⟩
    have i3 : v3 = (bestS nt A O F i).1 := i3
    have i4 : v4 = nI (bestS nt A O F i).2 := i4
    have hb := bestS_le (A := A) (O := O) hn (fun u h => (hF u h).1) i
    have st : m_X12_look_18 (n + 1) x (nI (cnt9 F)) v3 v4 (nI i) M = if (bestS nt A O F i).2 ≤ partS nt A O F i then m_X12_look_18 n x (nI (cnt9 F)) v3 (nI (bestS nt A O F i).2) (nI (i + 1)) M else m_X12_look_18 n x (nI (cnt9 F)) (nI i) (nI (partS nt A O F i)) (nI (i + 1)) M := by
      rw [m_X12_look_18, r2, if_neg (nI_ge hi (by omega)), i4, m_part _ hC hx hF hi hb]
    by_cases h : (bestS nt A O F i).2 ≤ partS nt A O F i
    · refine ⟨(v3, v4), ⟨by rw [bestS, if_pos h]; exact i3, by rw [bestS, if_pos h]; exact i4⟩, ?_⟩
      refine st.trans ?_
      rw [if_pos h, ← i4]
    · refine ⟨(nI i, nI (partS nt A O F i)), ⟨by rw [bestS, if_neg h], by rw [bestS, if_neg h]⟩, ?_⟩
      refine st.trans ?_
      rw [if_neg h]) nt 0 fp_fu (-1, nI (cnt9 F)) (by omega) (fu_lt (by omega)) ⟨rfl, rfl⟩
  have i3 : v3 = (bestS nt A O F nt).1 := i3
  refine he.trans ?_
  show m_X12_look_18 (n1 + 1) x (nI (cnt9 F)) v3 v4 (nI nt) M = _
  rw [m_X12_look_18, r2, if_pos (nI_le (Nat.le_refl _) (by omega)), i3]
end LOOK
theorem st_look {M : fp_Mem} (hI : fp_Inv M) : ok_look M := by
  obtain ⟨nt, nw, fa, fb, hP⟩ := hI
  obtain ⟨se, si, w, hN, -⟩ := hP.2.2.2.1.2
  obtain ⟨M1, M2, x, F, A, O, p1, C1, p2, p3, C2, q, hF, hIv⟩ := both_could hP hN
  have hF1 := fun u h => (hF u h).1
  refine ⟨(bestS nt A O F nt).1, M1, M2, ?_, ?_, hIv⟩
  · rw [m_X11_look, p1, fp_b1t, m_X8_best, p2, fp_b1t, isM_bc M1 q, fp_b1t, c_best C1 C2.1.1 q hF1, fp_b1t]
  · rw [m_X12_look, p3, fp_b2t, m_bits M2 q, fp_b1t, m_look C2 q hF]

/-! the text is read: both scan it letter by letter -/
/-- M' is M but for the places that P names -/
def fr2 (P : Nat → Nat → Prop) (M M' : fp_Mem) : Prop := ∀ q j, ¬ P q j → M' q j = M q j
theorem fr2_rf {P : Nat → Nat → Prop} {M : fp_Mem} : fr2 P M M := fun _ _ _ => rfl
theorem fr2_tr {P : Nat → Nat → Prop} {M M' M'' : fp_Mem} (h1 : fr2 P M M') (h2 : fr2 P M' M'') : fr2 P M M'' := fun q j hq => (h2 q j hq).trans (h1 q j hq)
theorem fr2_mono {P Q : Nat → Nat → Prop} {M M' : fp_Mem} (h : fr2 P M M') (hPQ : ∀ q j, P q j → Q q j) : fr2 Q M M' := fun q j hq => h q j (fun z => hq (hPQ q j z))
theorem fr2_set {P : Nat → Nat → Prop} {M : fp_Mem} {k j : Nat} {x : Int32} (h : P k j) : fr2 P M (fp_set M k j x) := fun q i hq => by
  rw [set_q]
  by_cases e : q = k ∧ i = j
  · obtain ⟨rfl, rfl⟩ := e
    exact absurd h hq
  · rw [if_neg e]
/-- the text: len letters -/
def TX (c : Nat → Nat) (len : Nat) : Prop := len ≤ 240 ∧ ∀ j, j < len → c j ≤ 255
/-- the program's reader: where it is, where its latest number began, its fault -/
def CP (c : Nat → Nat) (len : Nat) (s : fp_Mem) (p na f : Nat) (pl : Int32) : Prop := s 1 2 = nI len ∧ s 1 3 = nI p ∧ s 1 4 = nI na ∧ s 1 5 = nI f ∧ s 1 6 = pl ∧ ∀ j, j < len → s 7 j = nI (c j)
/-- the model's -/
def MP (c : Nat → Nat) (len : Nat) (u : fp_Mem) (p : Nat) (pl : Int32) : Prop := u 120 9 = nI len ∧ u 120 10 = pl ∧ u 120 11 = nI p ∧ ∀ j, j < len → u 124 j = nI (c j)
def dig (x : Nat) : Bool := decide (48 ≤ x) && decide (x ≤ 57)
/-- from p to q all letters are such, and no more -/
def Run (c : Nat → Nat) (len : Nat) (P : Nat → Bool) (p q : Nat) : Prop := p ≤ q ∧ (∀ j, p ≤ j → j < q → j < len ∧ P (c j) = true) ∧ (q < len → P (c q) = false)
theorem Run_le {c : Nat → Nat} {len : Nat} {P : Nat → Bool} {p q : Nat} (h : Run c len P p q) (hp : p ≤ len) : q ≤ len := by
  by_cases e : p = q
  · omega
  · have := (h.2.1 (q - 1) (by have := h.1; omega) (by have := h.1; omega)).1
    omega
theorem Run_s {c : Nat → Nat} {len : Nat} {P : Nat → Bool} {p q : Nat} (hp : p < len) (hc : P (c p) = true) (h : Run c len P (p + 1) q) : Run c len P p q := by
  refine ⟨by have := h.1; omega, fun j h1 h2 => ?_, h.2.2⟩
  by_cases e : j = p
  · subst e
    exact ⟨hp, hc⟩
  · exact h.2.1 j (by omega) h2
theorem Run_n {c : Nat → Nat} {len : Nat} {P : Nat → Bool} {p q : Nat} (h : Run c len P p q) (hpq : p < q) : Run c len P (p + 1) q := ⟨hpq, fun j h1 h2 => h.2.1 j (by omega) h2, h.2.2⟩
theorem Run_0 {c : Nat → Nat} {len : Nat} {P : Nat → Bool} {p : Nat} (h : p < len → P (c p) = false) : Run c len P p p := ⟨Nat.le_refl _, fun j h1 h2 => by omega, h⟩
theorem RunE (c : Nat → Nat) (len : Nat) (P : Nat → Bool) : ∀ (d p : Nat), len - p = d → ∃ q, Run c len P p q
  | 0, p, h => ⟨p, Run_0 (fun hp => by omega)⟩
  | d + 1, p, h => by
    cases hc : P (c p) with
    | false => exact ⟨p, Run_0 (fun _ => hc)⟩
    | true =>
      obtain ⟨q, hq⟩ := RunE c len P d (p + 1) (by omega)
      exact ⟨q, Run_s (by omega) hc hq⟩
def isBl (x : Nat) : Bool := x == 32
section CRD
variable {c : Nat → Nat} {len : Nat} {s : fp_Mem} {p na f : Nat} {pl : Int32}
theorem CP_fr {s' : fp_Mem} {P : Nat → Nat → Prop} (h : CP c len s p na f pl) (hf : fr2 P s s') (h1 : ∀ j, 2 ≤ j → j ≤ 6 → ¬ P 1 j) (h7 : ∀ j, ¬ P 7 j) : CP c len s' p na f pl := by
  obtain ⟨a, b, d, e, g, k⟩ := h
  exact ⟨(hf 1 2 (h1 2 (by decide) (by decide))).trans a, (hf 1 3 (h1 3 (by decide) (by decide))).trans b, (hf 1 4 (h1 4 (by decide) (by decide))).trans d, (hf 1 5 (h1 5 (by decide) (by decide))).trans e, (hf 1 6 (h1 6 (by decide) (by decide))).trans g, fun j hj => (hf 7 j (h7 j)).trans (k j hj)⟩
theorem c_lh_y (ht : TX c len) (h : CP c len s p na f pl) (hp : p < len) : m_X6_letterHere s = some (nI (c p)) := by
  obtain ⟨a, b, -, -, -, k⟩ := h
  have hl := ht.1
  rw [m_X6_letterHere, a, b, if_neg (nI_pos (by omega)), if_neg (nI_ge hp (by omega)), if_neg (nI_ge (show p < 240 by omega) (by decide)), fp_inN (show p < 240 by omega) (by decide), fp_gdt, q_cl (by omega), m_X6_letterHere_41, k p hp]
theorem c_lh_n (ht : TX c len) (h : CP c len s p na f pl) (hp : len ≤ p) (hp2 : p < 1000) : m_X6_letterHere s = some (-1 : Int32) := by
  obtain ⟨a, b, -, -, -, k⟩ := h
  have hl := ht.1
  rw [m_X6_letterHere, a, b, if_neg (nI_pos (by omega)), if_pos (nI_le hp (by omega)), m_X6_letterHere_40, m_X6_letterHere_41]
theorem c_fig (M : fp_Mem) {x : Nat} (hx : x ≤ 255) : m_X6_isFigure M (nI x) = some (nI (if dig x = true then 1 else 0)) := by
  rw [m_X6_isFigure]
  by_cases h1 : x < 48
  · rw [if_pos (nI_lt h1 (by decide)), m_X6_isFigure_16, m_X6_isFigure_17, if_neg (by simp [dig]; omega)]
    rfl
  · rw [if_neg (nI_nlt (by omega) (by omega))]
    by_cases h2 : 57 < x
    · rw [if_pos (nI_lt h2 (by omega)), m_X6_isFigure_16, m_X6_isFigure_17, if_neg (by simp [dig]; omega)]
      rfl
    · rw [if_neg (nI_nlt (by omega) (by omega)), m_X6_isFigure_17, if_pos (by simp [dig]; omega)]
      rfl
theorem c_fig_n (M : fp_Mem) : m_X6_isFigure M (-1 : Int32) = some (nI 0) := by
  rw [m_X6_isFigure, if_pos (by decide), m_X6_isFigure_16, m_X6_isFigure_17]
  rfl
/-- one further -/
theorem CP_at (h : CP c len s p na f pl) (x : Nat) : CP c len (fp_set s 1 3 (nI x)) x na f pl ∧ fr2 (fun q j => q = 1 ∧ j = 3) s (fp_set s 1 3 (nI x)) := by
  obtain ⟨a, b, d, e, g, k⟩ := h
  refine ⟨⟨?_, set_at _ _ _ _, ?_, ?_, ?_, fun j hj => ?_⟩, fr2_set ⟨rfl, rfl⟩⟩
  · rw [set_ne (by decide)]; exact a
  · rw [set_ne (by decide)]; exact d
  · rw [set_ne (by decide)]; exact e
  · rw [set_ne (by decide)]; exact g
  · rw [set_off (by decide)]; exact k j hj
theorem c_skip0 (ht : TX c len) : ∀ (d n p : Nat) (s : fp_Mem) (q : Nat), p + d = q → d < n → p ≤ len → CP c len s p na f pl → Run c len isBl p q → ∃ s', m_X6_skipBlanks_0 n s = some s' ∧ CP c len s' q na f pl ∧ fr2 (fun q j => q = 1 ∧ j = 3) s s' := by
  intro d
  induction d with
  | zero =>
    intro n p s q hq hn hp h hr
    obtain ⟨m, rfl⟩ : ∃ m, n = m + 1 := ⟨n - 1, by omega⟩
    obtain rfl : p = q := by omega
    refine ⟨s, ?_, h, fr2_rf⟩
    have hl := ht.1
    rw [m_X6_skipBlanks_0, h.1, h.2.1]
    by_cases e : len ≤ p
    · rw [if_pos (nI_le e (by omega)), m_X6_skipBlanks_33]
    · have hb := hr.2.2 (by omega)
      have hx := ht.2 p (by omega)
      rw [if_neg (nI_ge (by omega) (by omega)), c_lh_y ht h (by omega), fp_b1t, if_neg (by rw [nI_eq (by omega) (by decide)]; exact fun e => by rw [e] at hb; cases hb), m_X6_skipBlanks_33]
  | succ d ih =>
    intro n p s q hq hn hp h hr
    obtain ⟨m, rfl⟩ : ∃ m, n = m + 1 := ⟨n - 1, by omega⟩
    have hl := ht.1
    obtain ⟨h1, h2⟩ := hr.2.1 p (Nat.le_refl _) (by omega)
    have e32 : c p = 32 := by simpa [isBl] using h2
    obtain ⟨g1, g2⟩ := CP_at h (p + 1)
    obtain ⟨s', k1, k2, k3⟩ := ih m (p + 1) _ q (by omega) (by omega) (by omega) g1 (Run_n hr (by omega))
    refine ⟨s', ?_, k2, fr2_tr g2 k3⟩
    rw [m_X6_skipBlanks_0, h.1, h.2.1, if_neg (nI_ge h1 (by omega)), c_lh_y ht h h1, fp_b1t, e32, if_pos rfl, nI_add, fp_ltt]
    exact k1
theorem c_skip (ht : TX c len) (hp : p ≤ len) (h : CP c len s p na f pl) {q : Nat} (hr : Run c len isBl p q) : ∃ s', m_X6_skipBlanks s = some s' ∧ CP c len s' q na f pl ∧ fr2 (fun q j => q = 1 ∧ j = 3) s s' := by
  have := Run_le hr hp
  have := ht.1
  have := hr.1
  rw [m_X6_skipBlanks]
  exact c_skip0 ht (q - p) fp_fu p s q (by omega) (fu_lt (by omega)) hp h hr
theorem c_fails (h : CP c len s p na f pl) (x : Nat) (w : Int32) (hf : f < 10) : ∃ s', m_X6_fails s (nI x) w = some s' ∧ CP c len s' p na (if f = 0 then x else f) (if f = 0 then w else pl) ∧ fr2 (fun q j => q = 1 ∧ (j = 5 ∨ j = 6)) s s' := by
  obtain ⟨a, b, d, e, g, k⟩ := h
  by_cases h0 : f = 0
  · rw [if_pos h0, if_pos h0]
    refine ⟨fp_set (fp_set s 1 5 (nI x)) 1 6 w, ?_, ⟨?_, ?_, ?_, ?_, set_at _ _ _ _, fun j hj => ?_⟩, fr2_tr (fr2_set ⟨rfl, Or.inl rfl⟩) (fr2_set ⟨rfl, Or.inr rfl⟩)⟩
    · rw [m_X6_fails, e, h0, if_pos (by decide), fp_ltt, fp_ltt, m_X6_fails_17]
    · rw [set_ne (by decide), set_ne (by decide)]; exact a
    · rw [set_ne (by decide), set_ne (by decide)]; exact b
    · rw [set_ne (by decide), set_ne (by decide)]; exact d
    · rw [set_ne (by decide), set_at]
    · rw [set_off (by decide), set_off (by decide)]; exact k j hj
  · rw [if_neg h0, if_neg h0]
    refine ⟨s, ?_, ⟨a, b, d, e, g, k⟩, fr2_rf⟩
    rw [m_X6_fails, e, if_neg (nI_ne0 (by omega) (by omega)), m_X6_fails_17]
end CRD
/-- a number's value, k figures of it -/
def vl (c : Nat → Nat) (q : Nat) : Nat → Nat
  | 0 => 0
  | k + 1 => vl c q k * 10 + (c (q + k) - 48)
theorem dig_s {x : Nat} (h : dig x = true) : 48 ≤ x ∧ x ≤ 57 := by
  simpa [dig] using h
theorem vl_lt {c : Nat → Nat} {q : Nat} : ∀ {k : Nat}, (∀ j, j < k → dig (c (q + j)) = true) → vl c q k < 10 ^ k
  | 0, _ => Nat.zero_lt_one
  | k + 1, h => by
    have h1 := vl_lt (k := k) (fun j hj => h j (by omega))
    have h2 := dig_s (h k (by omega))
    rw [vl, Nat.pow_succ]
    omega
theorem vl_3 {c : Nat → Nat} {q k : Nat} (h : ∀ j, j < k → dig (c (q + j)) = true) (hk : k ≤ 3) : vl c q k < 1000 := Nat.lt_of_lt_of_le (vl_lt h) (Nat.pow_le_pow_right (n := 10) (by decide) hk)
/-- the number's run: its start, its end, its fault -/
def Num (c : Nat → Nat) (len p : Nat) (p1 p2 : Int32) (q e flt : Nat) : Prop :=
  Run c len isBl p q ∧ (((q < len → dig (c q) = false) ∧ e = q ∧ flt = 1) ∨ (q < len ∧ dig (c q) = true ∧ Run c len dig q e ∧ ((flt = 2 ∧ (3 < e - q ∨ nI (vl c q (e - q)) < p1 ∨ p2 < nI (vl c q (e - q)))) ∨ (flt = 0 ∧ e - q ≤ 3 ∧ ¬ nI (vl c q (e - q)) < p1 ∧ ¬ p2 < nI (vl c q (e - q))))))
theorem NumE (c : Nat → Nat) (len p : Nat) (p1 p2 : Int32) (hp : p ≤ len) : ∃ q e flt, Num c len p p1 p2 q e flt ∧ p ≤ q ∧ q ≤ e ∧ e ≤ len ∧ flt ≤ 2 := by
  obtain ⟨q, hq⟩ := RunE c len isBl _ p rfl
  have hql := Run_le hq hp
  by_cases h : q < len ∧ dig (c q) = true
  · obtain ⟨e, he⟩ := RunE c len dig _ q rfl
    have hel := Run_le he hql
    by_cases hb : 3 < e - q ∨ nI (vl c q (e - q)) < p1 ∨ p2 < nI (vl c q (e - q))
    · exact ⟨q, e, 2, ⟨hq, Or.inr ⟨h.1, h.2, he, Or.inl ⟨rfl, hb⟩⟩⟩, hq.1, he.1, hel, by decide⟩
    · refine ⟨q, e, 0, ⟨hq, Or.inr ⟨h.1, h.2, he, Or.inr ⟨rfl, ?_, fun g => hb (Or.inr (Or.inl g)), fun g => hb (Or.inr (Or.inr g))⟩⟩⟩, hq.1, he.1, hel, by decide⟩
      exact Nat.not_lt.mp (fun g => hb (Or.inl g))
  · refine ⟨q, q, 1, ⟨hq, Or.inl ⟨fun g => ?_, rfl, rfl⟩⟩, hq.1, Nat.le_refl _, hql, by decide⟩
    cases hd : dig (c q) with
    | false => rfl
    | true => exact absurd ⟨g, hd⟩ h
section CNUM
variable {c : Nat → Nat} {len : Nat} {s : fp_Mem} {p na f : Nat} {pl : Int32}
def vl3 (c : Nat → Nat) (q k : Nat) : Int32 := if k ≤ 3 then nI (vl c q k) else nI 0
theorem c_num38 (ht : TX c len) (p1 p2 : Int32) {q e : Nat} (hq : q ≤ len) : ∀ (d n k : Nat) (s : fp_Mem), q + k + d = e → d < n → CP c len s (q + k) na f pl → Run c len dig q e → ∃ s', m_X6_number_38 p1 p2 n (vl3 c q k) (nI k) s = m_X6_number_98 p1 p2 (vl3 c q (e - q)) (nI (e - q)) s' ∧ CP c len s' e na f pl ∧ fr2 (fun q j => q = 1 ∧ j = 3) s s' := by
  intro d
  induction d with
  | zero =>
    intro n k s hk hn h hr
    obtain ⟨m, rfl⟩ : ∃ m, n = m + 1 := ⟨n - 1, by omega⟩
    obtain rfl : e = q + k := by omega
    have hl := ht.1
    have hel := Run_le hr hq
    refine ⟨s, ?_, h, fr2_rf⟩
    rw [m_X6_number_38, h.1, h.2.1, Nat.add_sub_cancel_left]
    by_cases g : len ≤ q + k
    · rw [if_pos (nI_le g (by omega))]
    · have hb := hr.2.2 (by omega)
      rw [if_neg (nI_ge (by omega) (by omega)), c_lh_y ht h (by omega), fp_b1t, c_fig _ (ht.2 _ (by omega)), fp_b1t, hb, if_neg (by decide : ¬ false = true), if_pos (by decide)]
  | succ d ih =>
    intro n k s hk hn h hr
    obtain ⟨m, rfl⟩ : ∃ m, n = m + 1 := ⟨n - 1, by omega⟩
    have hl := ht.1
    have hel := Run_le hr hq
    obtain ⟨h1, h2⟩ := hr.2.1 (q + k) (by omega) (by omega)
    obtain ⟨d1, d2⟩ := dig_s h2
    obtain ⟨g1, g2⟩ := CP_at h (q + k + 1)
    obtain ⟨s', k1, k2, k3⟩ := ih m (k + 1) _ (by omega) (by omega) g1 hr
    refine ⟨s', ?_, k2, fr2_tr g2 k3⟩
    rw [← k1, m_X6_number_38, h.1, h.2.1, if_neg (nI_ge h1 (by omega)), c_lh_y ht h h1, fp_b1t, c_fig _ (ht.2 _ h1), fp_b1t, h2, if_pos rfl, if_neg (by decide), nI_add, fp_ltt]
    by_cases h3 : k + 1 ≤ 3
    · rw [if_pos (nI_le h3 (by decide)), fp_b1t, m_X6_number_84, fp_ltt, h.2.1, nI_add]
      have e3 : vl3 c q k * nI 10 + (nI (c (q + k)) - nI 48) = vl3 c q (k + 1) := by
        unfold vl3
        rw [if_pos (by omega), if_pos h3, q_sub d1, pk_mul, nI_add, vl]
      rw [e3]
    · rw [if_neg (by rw [q_le (by omega) (by decide)]; exact h3), m_X6_number_84, fp_ltt, h.2.1, nI_add]
      have e3 : vl3 c q (k + 1) = nI 0 := if_neg h3
      rw [e3]
theorem c_number (ht : TX c len) (hp : p ≤ len) (hf : f < 10) (h : CP c len s p na f pl) {p1 p2 : Int32} {q e flt : Nat} (hN : Num c len p p1 p2 q e flt) :
    ∃ r s', m_X6_number s p1 p2 = some (r, s') ∧ CP c len s' e q (if f = 0 then flt else f) (if f = 0 ∧ ¬ flt = 0 then nI q else pl) ∧ fr2 (fun q j => q = 1 ∧ 3 ≤ j ∧ j ≤ 6) s s' ∧ (flt = 0 → r = nI (vl c q (e - q))) := by
  obtain ⟨hq, hN⟩ := hN
  have hl := ht.1
  have hql := Run_le hq hp
  obtain ⟨s1, p1', C1, f1⟩ := c_skip ht hp h hq
  have f1' : fr2 (fun q j => q = 1 ∧ 3 ≤ j ∧ j ≤ 6) s s1 := fr2_mono f1 (fun q j h => by omega)
  obtain ⟨a, b, d, g, m, k⟩ := id C1
  have C2 : CP c len (fp_set s1 1 4 (nI q)) q q f pl := ⟨by rw [set_ne (by decide)]; exact a, by rw [set_ne (by decide)]; exact b, set_at _ _ _ _, by rw [set_ne (by decide)]; exact g, by rw [set_ne (by decide)]; exact m, fun j hj => by rw [set_off (by decide)]; exact k j hj⟩
  have f2 : fr2 (fun q j => q = 1 ∧ 3 ≤ j ∧ j ≤ 6) s (fp_set s1 1 4 (nI q)) := fr2_tr f1' (fr2_set (by omega))
  generalize hs2 : fp_set s1 1 4 (nI q) = s2 at C2 f2
  have bad : (q < len → dig (c q) = false) → ∃ s3, m_X6_number s p1 p2 = some (p1, s3) ∧ CP c len s3 q q (if f = 0 then 1 else f) (if f = 0 then nI q else pl) ∧ fr2 (fun q j => q = 1 ∧ 3 ≤ j ∧ j ≤ 6) s s3 := by
    intro hb
    obtain ⟨s3, k1, k2, k3⟩ := c_fails C2 1 (nI q) hf
    refine ⟨s3, ?_, k2, fr2_tr f2 (fr2_mono k3 (fun q j h => by omega))⟩
    by_cases hx : q < len
    · rw [m_X6_number, p1', fp_b1t, b, hs2, fp_ltt, c_lh_y ht C2 hx, fp_b1t, c_fig _ (ht.2 _ hx), fp_b1t, hb hx, if_neg (by decide : ¬ false = true), if_pos (by decide), C2.2.1, k1, fp_b1t]
    · rw [m_X6_number, p1', fp_b1t, b, hs2, fp_ltt, c_lh_n ht C2 (by omega) (by omega), fp_b1t, c_fig_n, fp_b1t, if_pos (by decide), C2.2.1, k1, fp_b1t]
  have good : q < len → dig (c q) = true → Run c len dig q e → ∃ s3, m_X6_number s p1 p2 = m_X6_number_98 p1 p2 (vl3 c q (e - q)) (nI (e - q)) s3 ∧ CP c len s3 e q f pl ∧ fr2 (fun q j => q = 1 ∧ 3 ≤ j ∧ j ≤ 6) s s3 := by
    intro hx hd hr
    have he := Run_le hr hql
    have he1 := hr.1
    obtain ⟨s3, k1, k2, k3⟩ := c_num38 ht p1 p2 hql (e - q) fp_fu 0 s2 (by omega) (fu_lt (by omega)) C2 hr
    refine ⟨s3, ?_, k2, fr2_tr f2 (fr2_mono k3 (fun q j h => by omega))⟩
    rw [← k1, m_X6_number, p1', fp_b1t, b, hs2, fp_ltt, c_lh_y ht C2 hx, fp_b1t, c_fig _ (ht.2 _ hx), fp_b1t, hd, if_pos rfl, if_neg (by decide)]
    rfl
  rcases hN with ⟨hb, rfl, rfl⟩ | ⟨hx, hd, hr, hN⟩
  · obtain ⟨s3, k1, k2, k3⟩ := bad hb
    refine ⟨p1, s3, k1, ?_, k3, fun h => by cases h⟩
    by_cases h0 : f = 0
    · rw [if_pos h0, if_pos h0] at k2
      rw [if_pos h0, if_pos ⟨h0, by decide⟩]
      exact k2
    · rw [if_neg h0, if_neg h0] at k2
      rw [if_neg h0, if_neg (fun z => h0 z.1)]
      exact k2
  · obtain ⟨s3, k1, k2, k3⟩ := good hx hd hr
    have he := Run_le hr hql
    have hv : ∀ {x}, e - q ≤ 3 → vl3 c q (e - q) = x → nI (vl c q (e - q)) = x := fun h3 hx => by rw [← hx]; unfold vl3; rw [if_pos h3]
    rcases hN with ⟨rfl, hb⟩ | ⟨rfl, h3, hb1, hb2⟩
    · obtain ⟨s4, g1, g2, g3⟩ := c_fails k2 2 (nI q) hf
      have e114 : m_X6_number_114 p1 p2 (vl3 c q (e - q)) s3 = some (vl3 c q (e - q), s4) := by
        rw [m_X6_number_114, k2.2.2.1, g1, fp_b1t, m_X6_number_123]
      refine ⟨vl3 c q (e - q), s4, ?_, ?_, fr2_tr k3 (fr2_mono g3 (fun q j h => by omega)), fun h => by cases h⟩
      · rw [k1, m_X6_number_98]
        by_cases h3 : 3 < e - q
        · rw [if_pos (nI_lt h3 (by omega)), e114]
        · rw [if_neg (nI_nlt (by omega) (by decide))]
          have h3' : e - q ≤ 3 := by omega
          have ev : vl3 c q (e - q) = nI (vl c q (e - q)) := if_pos h3'
          rcases hb with hb | hb | hb
          · exact absurd hb h3
          · rw [if_pos (by rw [ev]; exact hb), e114]
          · by_cases hb1 : vl3 c q (e - q) < p1
            · rw [if_pos hb1, e114]
            · rw [if_neg hb1, if_neg (by rw [ev]; exact Int32.not_le.mpr hb), e114]
      · by_cases h0 : f = 0
        · rw [if_pos h0, if_pos h0] at g2
          rw [if_pos h0, if_pos ⟨h0, by decide⟩]
          exact g2
        · rw [if_neg h0, if_neg h0] at g2
          rw [if_neg h0, if_neg (fun z => h0 z.1)]
          exact g2
    · have ev : vl3 c q (e - q) = nI (vl c q (e - q)) := if_pos h3
      refine ⟨nI (vl c q (e - q)), s3, ?_, ?_, k3, fun _ => rfl⟩
      · rw [k1, m_X6_number_98, if_neg (nI_nlt h3 (by decide)), ev, if_neg hb1, if_pos (Int32.not_lt.mp hb2), m_X6_number_123]
      · have : (if f = 0 then 0 else f) = f := by
          by_cases h0 : f = 0
          · rw [if_pos h0, h0]
          · rw [if_neg h0]
        rw [this, if_neg (fun z => z.2 rfl)]
        exact k2
end CNUM
section MNUM
variable {c : Nat → Nat} {len : Nat} {u : fp_Mem} {p : Nat} {pl : Int32}
theorem MP_fr {u' : fp_Mem} {P : Nat → Nat → Prop} (h : MP c len u p pl) (hf : fr2 P u u') (h1 : ∀ j, 9 ≤ j → j ≤ 11 → ¬ P 120 j) (h7 : ∀ j, ¬ P 124 j) : MP c len u' p pl := by
  obtain ⟨a, b, d, k⟩ := h
  exact ⟨(hf 120 9 (h1 9 (by decide) (by decide))).trans a, (hf 120 10 (h1 10 (by decide) (by decide))).trans b, (hf 120 11 (h1 11 (by decide) (by decide))).trans d, fun j hj => (hf 124 j (h7 j)).trans (k j hj)⟩
theorem MP_at (h : MP c len u p pl) (x : Nat) : MP c len (fp_set u 120 11 (nI x)) x pl ∧ fr2 (fun q j => q = 120 ∧ j = 11) u (fp_set u 120 11 (nI x)) := by
  obtain ⟨a, b, d, k⟩ := h
  refine ⟨⟨?_, ?_, set_at _ _ _ _, fun j hj => ?_⟩, fr2_set ⟨rfl, rfl⟩⟩
  · rw [set_ne (by decide)]; exact a
  · rw [set_ne (by decide)]; exact b
  · rw [set_off (by decide)]; exact k j hj
/-- the letter at q, -1 behind the end -/
def ltr (c : Nat → Nat) (len q : Nat) : Int32 := if q < len then nI (c q) else (-1 : Int32)
theorem m_here0 (ht : TX c len) : ∀ (d n p : Nat) (u : fp_Mem) (q : Nat), p + d = q → d < n → p ≤ len → MP c len u p pl → Run c len isBl p q → ∃ u', m_X12_here_0 n u = some (ltr c len q, u') ∧ MP c len u' q pl ∧ fr2 (fun q j => q = 120 ∧ j = 11) u u' := by
  intro d
  induction d with
  | zero =>
    intro n p u q hq hn hp h hr
    obtain ⟨m, rfl⟩ : ∃ m, n = m + 1 := ⟨n - 1, by omega⟩
    obtain rfl : p = q := by omega
    refine ⟨u, ?_, h, fr2_rf⟩
    have hl := ht.1
    unfold ltr
    rw [m_X12_here_0, h.1, h.2.2.1]
    by_cases e : len ≤ p
    · rw [if_pos (nI_le e (by omega)), m_X12_here_38, h.1, h.2.2.1, if_pos (nI_le e (by omega)), m_X12_here_62, if_neg (by omega)]
    · have hb := hr.2.2 (by omega)
      have hx := ht.2 p (by omega)
      rw [if_neg (nI_ge (by omega) (by omega)), fp_inN (show p < 240 by omega) (by decide), fp_gdt, q_cl (by omega), h.2.2.2 p (by omega), if_neg (by rw [nI_eq (by omega) (by decide)]; exact fun e => by rw [e] at hb; cases hb), m_X12_here_38, h.1, h.2.2.1, if_neg (nI_ge (by omega) (by omega)), fp_inN (show p < 240 by omega) (by decide), fp_gdt, q_cl (by omega), h.2.2.2 p (by omega), m_X12_here_62, if_pos (by omega)]
  | succ d ih =>
    intro n p u q hq hn hp h hr
    obtain ⟨m, rfl⟩ : ∃ m, n = m + 1 := ⟨n - 1, by omega⟩
    have hl := ht.1
    obtain ⟨h1, h2⟩ := hr.2.1 p (Nat.le_refl _) (by omega)
    have e32 : c p = 32 := by simpa [isBl] using h2
    obtain ⟨g1, g2⟩ := MP_at h (p + 1)
    obtain ⟨u', k1, k2, k3⟩ := ih m (p + 1) _ q (by omega) (by omega) (by omega) g1 (Run_n hr (by omega))
    refine ⟨u', ?_, k2, fr2_tr g2 k3⟩
    rw [m_X12_here_0, h.1, h.2.2.1, if_neg (nI_ge h1 (by omega)), fp_inN (show p < 240 by omega) (by decide), fp_gdt, q_cl (by omega), h.2.2.2 p h1, e32, if_pos rfl, nI_add, fp_ltt]
    exact k1
theorem m_here (ht : TX c len) (hp : p ≤ len) (h : MP c len u p pl) {q : Nat} (hr : Run c len isBl p q) : ∃ u', m_X12_here u = some (ltr c len q, u') ∧ MP c len u' q pl ∧ fr2 (fun q j => q = 120 ∧ j = 11) u u' := by
  have := Run_le hr hp
  have := ht.1
  have := hr.1
  rw [m_X12_here]
  exact m_here0 ht (q - p) fp_fu p u q (by omega) (fu_lt (by omega)) hp h hr
theorem m_in_o (M : fp_Mem) {p a b : Int32} (h : p < a ∨ b < p) : m_X12_in M (Int32.toInt64 p) (Int32.toInt64 a) (Int32.toInt64 b) = some (nI 0) := by rw [m_inI, if_pos h]
theorem m_in_i (M : fp_Mem) {p a b : Int32} (h1 : ¬ p < a) (h2 : ¬ b < p) : m_X12_in M (Int32.toInt64 p) (Int32.toInt64 a) (Int32.toInt64 b) = some (nI 1) := by rw [m_inI, if_neg (fun h => h.elim h1 h2)]
theorem m_dig (M : fp_Mem) {x : Nat} (hx : x ≤ 255) : m_X12_in M (Int32.toInt64 (nI x)) (lN 48) (lN 57) = some (nI (if dig x = true then 1 else 0)) := by
  rw [m_inN M _ (by decide) (by decide)]
  by_cases h : dig x = true
  · have := dig_s h
    rw [if_pos h, if_neg (by rw [q_lt (by omega) (by decide), q_lt (by decide) (by omega)]; omega)]
  · have : ¬ (48 ≤ x ∧ x ≤ 57) := fun g => h (by simp [dig, g])
    rw [if_neg h, if_pos (by rw [q_lt (by omega) (by decide), q_lt (by decide) (by omega)]; omega)]
theorem m_dig_n (M : fp_Mem) : m_X12_in M (Int32.toInt64 (-1 : Int32)) (lN 48) (lN 57) = some (nI 0) := by
  rw [m_inN M _ (by decide) (by decide), if_pos (Or.inl (by decide))]
theorem m_num42 (ht : TX c len) (p1 p2 : Int32) {q e : Nat} (hq : q ≤ len) : ∀ (d n k : Nat) (u : fp_Mem), q + k + d = e → d < n → MP c len u (q + k) pl → (k ≤ 3 → u 120 12 = nI (vl c q k)) → u 120 13 = nI q → Run c len dig q e → ∃ u', m_X12_takeNumber_42 p1 p2 n u = m_X12_takeNumber_129 p1 p2 u' ∧ MP c len u' e pl ∧ (e - q ≤ 3 → u' 120 12 = nI (vl c q (e - q))) ∧ u' 120 13 = nI q ∧ fr2 (fun q j => q = 120 ∧ (j = 11 ∨ j = 12)) u u' := by
  intro d
  induction d with
  | zero =>
    intro n k u hk hn h hv hna hr
    obtain ⟨m, rfl⟩ : ∃ m, n = m + 1 := ⟨n - 1, by omega⟩
    obtain rfl : e = q + k := by omega
    have hl := ht.1
    have hel := Run_le hr hq
    refine ⟨u, ?_, h, by rw [Nat.add_sub_cancel_left]; exact hv, hna, fr2_rf⟩
    rw [m_X12_takeNumber_42, h.1, h.2.2.1]
    by_cases g : len ≤ q + k
    · rw [if_pos (nI_le g (by omega))]
    · have hb := hr.2.2 (by omega)
      rw [if_neg (nI_ge (by omega) (by omega)), fp_inN (show q + k < 240 by omega) (by decide), fp_gdt, q_cl (by omega), h.2.2.2 _ (by omega), m_dig _ (ht.2 _ (by omega)), fp_b1t, hb, if_neg (by decide : ¬ false = true), if_pos (by decide)]
  | succ d ih =>
    intro n k u hk hn h hv hna hr
    obtain ⟨m, rfl⟩ : ∃ m, n = m + 1 := ⟨n - 1, by omega⟩
    have hl := ht.1
    have hel := Run_le hr hq
    obtain ⟨h1, h2⟩ := hr.2.1 (q + k) (by omega) (by omega)
    obtain ⟨d1, d2⟩ := dig_s h2
    have hdg : ∀ j, j < k + 1 → dig (c (q + j)) = true := fun j hj => (hr.2.1 (q + j) (by omega) (by omega)).2
    have step : ∀ x, (k + 1 ≤ 3 → x = nI (vl c q (k + 1))) → ∃ u', m_X12_takeNumber_113 p1 p2 (m_X12_takeNumber_42 p1 p2 m) x u = m_X12_takeNumber_129 p1 p2 u' ∧ MP c len u' e pl ∧ (e - q ≤ 3 → u' 120 12 = nI (vl c q (e - q))) ∧ u' 120 13 = nI q ∧ fr2 (fun q j => q = 120 ∧ (j = 11 ∨ j = 12)) u u' := by
      intro x hx
      have g0 : fr2 (fun q j => q = 120 ∧ j = 12) u (fp_set u 120 12 x) := fr2_set ⟨rfl, rfl⟩
      obtain ⟨g1, g2⟩ := MP_at (MP_fr h g0 (fun j _ _ z => by omega) (fun j z => by omega)) (q + k + 1)
      obtain ⟨u', k1, k2, k3, k4, k5⟩ := ih m (k + 1) _ (by omega) (by omega) g1 (fun h3 => by rw [set_ne (by decide), set_at]; exact hx h3) (by rw [set_ne (by decide), set_ne (by decide)]; exact hna) hr
      refine ⟨u', ?_, k2, k3, k4, fr2_tr (fr2_tr (fr2_mono g0 (fun q j h => by omega)) (fr2_mono g2 (fun q j h => by omega))) k5⟩
      rw [← k1, m_X12_takeNumber_113, fp_ltt, fp_ltt, set_ne (by decide), h.2.2.1, nI_add]
    by_cases h3 : k + 1 ≤ 3
    · have hv' := hv (by omega)
      have hlt := vl_3 (c := c) (q := q) (k := k) (fun j hj => hdg j (by omega)) (by omega)
      obtain ⟨u', k1, k2⟩ := step (nI (vl c q (k + 1))) (fun _ => rfl)
      refine ⟨u', ?_, k2⟩
      rw [← k1, m_X12_takeNumber_42, h.1, h.2.2.1, if_neg (nI_ge h1 (by omega)), fp_inN (show q + k < 240 by omega) (by decide), fp_gdt, q_cl (by omega), h.2.2.2 _ h1, m_dig _ (ht.2 _ h1), fp_b1t, h2, if_pos rfl, if_neg (by decide), hv', if_pos (nI_le (by omega) (by decide)), fp_gdt, pk_mul, nI_add, q_sub (by omega), vl]
      rw [show 10 * vl c q k + c (q + k) - 48 = vl c q k * 10 + (c (q + k) - 48) by omega]
    · by_cases hbig : u 120 12 ≤ nI 10000
      · obtain ⟨u', k1, k2⟩ := step ((((nI 10) * (u 120 12)) + (nI (c (q + k)))) - (nI 48)) (fun h => absurd h h3)
        refine ⟨u', ?_, k2⟩
        rw [← k1, m_X12_takeNumber_42, h.1, h.2.2.1, if_neg (nI_ge h1 (by omega)), fp_inN (show q + k < 240 by omega) (by decide), fp_gdt, q_cl (by omega), h.2.2.2 _ h1, m_dig _ (ht.2 _ h1), fp_b1t, h2, if_pos rfl, if_neg (by decide), if_pos hbig, fp_gdt]
      · obtain ⟨u', k1, k2⟩ := step (u 120 12) (fun h => absurd h h3)
        refine ⟨u', ?_, k2⟩
        rw [← k1, m_X12_takeNumber_42, h.1, h.2.2.1, if_neg (nI_ge h1 (by omega)), fp_inN (show q + k < 240 by omega) (by decide), fp_gdt, q_cl (by omega), h.2.2.2 _ h1, m_dig _ (ht.2 _ h1), fp_b1t, h2, if_pos rfl, if_neg (by decide), if_neg hbig]
theorem m_fails (h : MP c len u p pl) (x w : Int32) : m_X12_fails u x w = some (x, fp_set u 120 10 w) ∧ MP c len (fp_set u 120 10 w) p w ∧ fr2 (fun q j => q = 120 ∧ j = 10) u (fp_set u 120 10 w) := by
  obtain ⟨a, b, d, k⟩ := h
  exact ⟨by rw [m_X12_fails, fp_ltt], ⟨by rw [set_ne (by decide)]; exact a, set_at _ _ _ _, by rw [set_ne (by decide)]; exact d, fun j hj => by rw [set_off (by decide)]; exact k j hj⟩, fr2_set ⟨rfl, rfl⟩⟩
theorem m_number (ht : TX c len) (hp : p ≤ len) (h : MP c len u p pl) {p1 p2 : Int32} {q e flt : Nat} (hN : Num c len p p1 p2 q e flt) :
    ∃ u', m_X12_takeNumber u p1 p2 = some (nI flt, u') ∧ MP c len u' e (if flt = 0 then pl else nI q) ∧ fr2 (fun q j => q = 120 ∧ 10 ≤ j ∧ j ≤ 13) u u' ∧ (flt = 0 → u' 120 12 = nI (vl c q (e - q)) ∧ u' 120 13 = nI q) := by
  obtain ⟨hq, hN⟩ := hN
  have hl := ht.1
  have hql := Run_le hq hp
  obtain ⟨u1, p1', C1, f1⟩ := m_here ht hp h hq
  have f1' : fr2 (fun q j => q = 120 ∧ 10 ≤ j ∧ j ≤ 13) u u1 := fr2_mono f1 (fun q j h => by omega)
  rcases hN with ⟨hb, rfl, rfl⟩ | ⟨hx, hd, hr, hN⟩
  · obtain ⟨k1, k2, k3⟩ := m_fails C1 (nI 1) (nI e)
    refine ⟨_, ?_, by rw [if_neg (by decide)]; exact k2, fr2_tr f1' (fr2_mono k3 (fun q j h => by omega)), fun h => by cases h⟩
    by_cases hx : e < len
    · rw [m_X12_takeNumber, p1', fp_b2t, ltr, if_pos hx, m_dig _ (ht.2 _ hx), fp_b1t, hb hx, if_neg (by decide : ¬ false = true), if_pos (by decide), C1.2.2.1, k1, fp_b2t]
    · rw [m_X12_takeNumber, p1', fp_b2t, ltr, if_neg hx, m_dig_n, fp_b1t, if_pos (by decide), C1.2.2.1, k1, fp_b2t]
  · have he := Run_le hr hql
    have he1 := hr.1
    have f2 : fr2 (fun q j => q = 120 ∧ (j = 12 ∨ j = 13)) u1 (fp_set (fp_set u1 120 13 (nI q)) 120 12 (nI 0)) := fr2_tr (fr2_set (by omega)) (fr2_set (by omega))
    have C2 := MP_fr C1 f2 (fun j _ _ z => by omega) (fun j z => by omega)
    obtain ⟨u2, k1, k2, k3, k4, k5⟩ := m_num42 ht p1 p2 hql (e - q) fp_fu 0 _ (by omega) (fu_lt (by omega)) C2 (fun _ => set_at _ _ _ _) (by rw [set_ne (by decide), set_at]) hr
    have f3 : fr2 (fun q j => q = 120 ∧ 10 ≤ j ∧ j ≤ 13) u u2 := fr2_tr f1' (fr2_tr (fr2_mono f2 (fun q j h => by omega)) (fr2_mono k5 (fun q j h => by omega)))
    have est : m_X12_takeNumber u p1 p2 = m_X12_takeNumber_129 p1 p2 u2 := by
      rw [← k1, m_X12_takeNumber, p1', fp_b2t, ltr, if_pos hx, m_dig _ (ht.2 _ hx), fp_b1t, hd, if_pos rfl, if_neg (by decide), C1.2.2.1, fp_ltt, fp_ltt]
    rcases hN with ⟨rfl, hb⟩ | ⟨rfl, h3, hb1, hb2⟩
    · obtain ⟨g1, g2, g3⟩ := m_fails k2 (nI 2) (nI q)
      have e157 : m_X12_takeNumber_157 p1 p2 u2 = some (nI 2, fp_set u2 120 10 (nI q)) := by
        rw [m_X12_takeNumber_157, k4, g1, fp_b2t, m_X12_takeNumber_170]
      refine ⟨_, ?_, by rw [if_neg (by decide)]; exact g2, fr2_tr f3 (fr2_mono g3 (fun q j h => by omega)), fun h => by cases h⟩
      rw [est, m_X12_takeNumber_129, k2.2.2.1, k4, q_sub he1]
      by_cases h3 : 3 < e - q
      · rw [if_pos (nI_lt h3 (by omega)), e157]
      · rw [if_neg (nI_nlt (by omega) (by decide)), k3 (by omega), m_in_o _ (hb.resolve_left h3), fp_b1t, if_pos (by decide), e157]
    · refine ⟨u2, ?_, by rw [if_pos rfl]; exact k2, f3, fun _ => ⟨k3 h3, k4⟩⟩
      rw [est, m_X12_takeNumber_129, k2.2.2.1, k4, q_sub he1, if_neg (nI_nlt h3 (by decide)), k3 h3, m_in_i _ hb1 hb2, fp_b1t, if_neg (by decide), m_X12_takeNumber_170]
end MNUM

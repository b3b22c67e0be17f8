/-! what holds between the calls -/
def I_text (M : fp_Mem) : Prop := ∃ len, len ≤ 240 ∧ M 1 2 = nI len ∧ M 120 9 = nI len ∧ ∀ j, j < len → ∃ c, c ≤ 255 ∧ M 7 j = nI c ∧ M 124 j = nI c
def I_realm (M : fp_Mem) (nt nw : Nat) (fa fb : Nat → Nat) : Prop := CR M 8 nt nw fa fb ∧ MR M nt nw fa fb ∧ M 8 1 = M 120 0 ∧ M 8 0 = M 120 7 ∧ (M 8 0 = nI 0 ∨ M 8 0 = nI 1)
def I_now (M : fp_Mem) (nt : Nat) : Prop := SR M 13 (M 123) ∧ SV nt (M 123)
def I_seed (M : fp_Mem) : Prop := ∃ sd, sd < 2 ^ 31 ∧ M 47 0 = nI sd ∧ M 120 6 = nI sd
def I_sight (M : fp_Mem) (nt : Nat) : Prop := ∃ c, c ≤ 6 ∧ M 43 0 = nI c ∧ M 120 27 = nI c ∧ (∀ j, j < c → (∃ t, t < nt ∧ M 134 j = nI t) ∧ (M 135 j = nI 0 ∨ M 135 j = nI 1)) ∧ isM (M 43 1) (fun u => anyT (fun j => decide (M 134 j = nI u ∧ M 135 j = nI 1)) c) ∧ isM (M 43 2) (fun u => anyT (fun j => decide (M 134 j = nI u ∧ M 135 j = nI 0)) c)
def I_book (M : fp_Mem) (nt : Nat) : Prop := ∃ c, c ≤ 15 ∧ M 44 0 = nI c ∧ M 120 30 = nI c ∧ ∀ j, j < c → M 45 j = M 136 j ∧ M 46 j = M 137 j ∧ ∃ t, t < nt ∧ M 136 j = nI t
def I_hist (M : fp_Mem) (nt : Nat) : Prop := ∃ c nx, c ≤ 20 ∧ nx < 20 ∧ M 48 0 = nI c ∧ M 120 23 = nI c ∧ M 48 1 = nI nx ∧ ∀ j, j < c → SR M (50 + 3 * ((nx + 20 - c + j) % 20)) (fun i => M 131 (25 * j + i)) ∧ SV nt (fun i => M 131 (25 * j + i))
def I_img (M : fp_Mem) (nt : Nat) : Prop := ∀ i, i < 2 → (M 113 i = nI 0 ∧ M 139 i = nI 0) ∨ (M 113 i = nI 1 ∧ M 139 i = nI 1 ∧ SR M (114 + 3 * i) (fun j => M 138 (26 * i + j)) ∧ SV nt (fun j => M 138 (26 * i + j)) ∧ ∃ sd, sd < 2 ^ 31 ∧ M 112 i = nI sd ∧ M 138 (26 * i + 25) = nI sd)
def InvP (M : fp_Mem) (nt nw : Nat) (fa fb : Nat → Nat) : Prop := I_text M ∧ M 1 6 = M 120 10 ∧ I_realm M nt nw fa fb ∧ I_now M nt ∧ I_seed M ∧ I_sight M nt ∧ I_book M nt ∧ I_hist M nt ∧ I_img M nt
def fp_Inv (M : fp_Mem) : Prop := ∃ nt nw fa fb, InvP M nt nw fa fb
section IFR
variable {M M' : fp_Mem} {nt nw : Nat} {fa fb : Nat → Nat}
theorem I_text_fr (h : I_text M) (a : M' 1 2 = M 1 2) (b : M' 120 9 = M 120 9) (c : M' 7 = M 7) (d : M' 124 = M 124) : I_text M' := by
  unfold I_text
  rw [a, b, c, d]
  exact h
theorem I_realm_fr (h : I_realm M nt nw fa fb) (a : M' 8 = M 8) (b : M' 11 = M 11) (c : M' 12 = M 12) (d : M' 121 = M 121) (e : M' 122 = M 122) (f : ∀ j, j = 0 ∨ j = 1 ∨ j = 2 ∨ j = 7 → M' 120 j = M 120 j) : I_realm M' nt nw fa fb := by
  unfold I_realm CR MR
  rw [a, b, c, d, e, f 0 (by omega), f 1 (by omega), f 2 (by omega), f 7 (by omega)]
  exact h
theorem I_now_fr (h : I_now M nt) (a : M' 13 = M 13) (b : M' 14 = M 14) (c : M' 15 = M 15) (d : M' 123 = M 123) : I_now M' nt := by
  unfold I_now SR
  rw [a, b, c, d]
  exact h
theorem I_seed_fr (h : I_seed M) (a : M' 47 0 = M 47 0) (b : M' 120 6 = M 120 6) : I_seed M' := by
  unfold I_seed
  rw [a, b]
  exact h
theorem I_sight_fr (h : I_sight M nt) (a : M' 43 = M 43) (b : M' 120 27 = M 120 27) (c : M' 134 = M 134) (d : M' 135 = M 135) : I_sight M' nt := by
  unfold I_sight
  rw [a, b, c, d]
  exact h
theorem I_book_fr (h : I_book M nt) (a : M' 44 = M 44) (b : M' 120 30 = M 120 30) (c : M' 45 = M 45) (d : M' 46 = M 46) (e : M' 136 = M 136) (f : M' 137 = M 137) : I_book M' nt := by
  unfold I_book
  rw [a, b, c, d, e, f]
  exact h
theorem I_hist_fr (h : I_hist M nt) (a : M' 48 = M 48) (b : M' 120 23 = M 120 23) (c : ∀ q, 50 ≤ q → q < 110 → M' q = M q) (d : M' 131 = M 131) : I_hist M' nt := by
  obtain ⟨n, nx, h1, h2, h3, h4, h5, h6⟩ := h
  refine ⟨n, nx, h1, h2, by rw [a]; exact h3, by rw [b]; exact h4, by rw [a]; exact h5, fun j hj => ?_⟩
  obtain ⟨g1, g2⟩ := h6 j hj
  have hm : (nx + 20 - n + j) % 20 < 20 := Nat.mod_lt _ (by decide)
  rw [d]
  refine ⟨?_, g2⟩
  unfold SR at g1 ⊢
  rw [c (50 + 3 * ((nx + 20 - n + j) % 20)) (by omega) (by omega), c (50 + 3 * ((nx + 20 - n + j) % 20) + 1) (by omega) (by omega), c (50 + 3 * ((nx + 20 - n + j) % 20) + 2) (by omega) (by omega)]
  exact g1
theorem I_img_fr (h : I_img M nt) (a : M' 112 = M 112) (b : M' 113 = M 113) (c : ∀ q, 114 ≤ q → q < 120 → M' q = M q) (d : M' 138 = M 138) (e : M' 139 = M 139) : I_img M' nt := by
  intro i hi
  rw [a, b, d, e]
  rcases h i hi with h1 | ⟨h1, h2, h3, h4⟩
  · exact Or.inl h1
  · refine Or.inr ⟨h1, h2, ?_, h4⟩
    unfold SR at h3 ⊢
    rw [c (114 + 3 * i) (by omega) (by omega), c (114 + 3 * i + 1) (by omega) (by omega), c (114 + 3 * i + 2) (by omega) (by omega)]
    exact h3
/-- cells that nothing is kept in -/
def scr (q : Nat) : Prop := (2 ≤ q ∧ q < 7) ∨ (16 ≤ q ∧ q < 43) ∨ (125 ≤ q ∧ q < 131) ∨ q = 132 ∨ q = 133
theorem InvP_fr (h : InvP M nt nw fa fb) (hf : fr scr M M') : InvP M' nt nw fa fb := by
  obtain ⟨h1, h2, h3, h4, h5, h6, h7, h8, h9⟩ := h
  have e : ∀ q, ¬ scr q → M' q = M q := hf
  unfold scr at e
  refine ⟨I_text_fr h1 (by rw [e 1 (by omega)]) (by rw [e 120 (by omega)]) (e 7 (by omega)) (e 124 (by omega)), by rw [e 1 (by omega), e 120 (by omega)]; exact h2,
    I_realm_fr h3 (e 8 (by omega)) (e 11 (by omega)) (e 12 (by omega)) (e 121 (by omega)) (e 122 (by omega)) (fun j _ => by rw [e 120 (by omega)]), I_now_fr h4 (e 13 (by omega)) (e 14 (by omega)) (e 15 (by omega)) (e 123 (by omega)),
    I_seed_fr h5 (by rw [e 47 (by omega)]) (by rw [e 120 (by omega)]), I_sight_fr h6 (e 43 (by omega)) (by rw [e 120 (by omega)]) (e 134 (by omega)) (e 135 (by omega)),
    I_book_fr h7 (e 44 (by omega)) (by rw [e 120 (by omega)]) (e 45 (by omega)) (e 46 (by omega)) (e 136 (by omega)) (e 137 (by omega)),
    I_hist_fr h8 (e 48 (by omega)) (by rw [e 120 (by omega)]) (fun q _ _ => e q (by omega)) (e 131 (by omega)), I_img_fr h9 (e 112 (by omega)) (e 113 (by omega)) (fun q _ _ => e q (by omega)) (e 138 (by omega)) (e 139 (by omega))⟩
end IFR
theorem fp_Inv0 : fp_Inv fp_M0 := by
  have z : ∀ q j, ¬ (q = 1 ∧ j = 6) → ¬ (q = 120 ∧ j = 10) → fp_M0 q j = nI 0 := by
    intro q j h1 h2
    show (if (q = 1 ∧ j = 6) ∨ (q = 120 ∧ j = 10) then (-1 : Int32) else 0) = _
    rw [if_neg (fun h => h.elim h1 h2)]
    rfl
  refine ⟨0, 0, fun _ => 0, fun _ => 0, ⟨0, by decide, z _ _ (by omega) (by omega), z _ _ (by omega) (by omega), fun j hj => absurd hj (Nat.not_lt_zero j)⟩, by decide +kernel, ⟨⟨by decide, by decide, z _ _ (by omega) (by omega), z _ _ (by omega) (by omega), fun j hj => absurd hj (Nat.not_lt_zero j)⟩, ⟨by decide, by decide, z _ _ (by omega) (by omega), z _ _ (by omega) (by omega), fun j hj => absurd hj (Nat.not_lt_zero j)⟩, ?_, ?_, Or.inl (z _ _ (by omega) (by omega))⟩, ⟨?_, ?_⟩, ⟨0, by decide, z _ _ (by omega) (by omega), z _ _ (by omega) (by omega)⟩, ?_, ⟨0, by decide, z _ _ (by omega) (by omega), z _ _ (by omega) (by omega), fun j hj => absurd hj (Nat.not_lt_zero j)⟩, ⟨0, 0, by decide, by decide, z _ _ (by omega) (by omega), z _ _ (by omega) (by omega), z _ _ (by omega) (by omega), fun j hj => absurd hj (Nat.not_lt_zero j)⟩, fun i _ => Or.inl ⟨z _ _ (by omega) (by omega), z _ _ (by omega) (by omega)⟩⟩
  · rw [z 8 1 (by omega) (by omega), z 120 0 (by omega) (by omega)]
  · rw [z 8 0 (by omega) (by omega), z 120 7 (by omega) (by omega)]
  · refine ⟨fun t ht => ⟨?_, ?_⟩, ?_, ?_, ?_, ?_, ?_, ?_, ?_⟩
    all_goals rw [z _ _ (by omega) (by omega), z 123 _ (by omega) (by omega)]
  · exact ⟨fun _ => 0, fun _ => 0, 0, fun t _ => ⟨z _ _ (by omega) (by omega), z _ _ (by omega) (by omega), Nat.le_refl _, Nat.zero_le _⟩, fun t _ => ⟨Nat.zero_le _, fun _ => ⟨rfl, rfl⟩⟩, z _ _ (by omega) (by omega), by decide⟩
  · refine ⟨0, by decide, z _ _ (by omega) (by omega), z _ _ (by omega) (by omega), fun j hj => absurd hj (Nat.not_lt_zero j), ?_, ?_⟩
    · rw [z 43 1 (by omega) (by omega)]
      exact isM_0
    · rw [z 43 2 (by omega) (by omega)]
      exact isM_0

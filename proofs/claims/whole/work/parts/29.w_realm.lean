/-! realm: one step of both -/
theorem c_iforget (M : fp_Mem) : m_X5_forget M = some (fp_set (fp_set M 113 0 (nI 0)) 113 1 (nI 0)) := by
  have e : fp_fu = 9997 + 1 + 1 + 1 := rfl
  rw [m_X5_forget, e, m_X5_forget_2, if_neg (by decide), show fp_in (nI 0) 2 = true by decide, fp_gdt, fp_ltt, nI_add, fp_ltt, m_X5_forget_2, if_neg (by decide), show fp_in (nI (0 + 1)) 2 = true by decide, fp_gdt, fp_ltt, nI_add, fp_ltt, m_X5_forget_2, if_pos (by decide), q_nb0, q_cl (by decide), q_cl (by decide)]
theorem text_c {M : fp_Mem} (h : I_text M) : ∃ (c : Nat → Nat) (len : Nat), TX c len ∧ M 1 2 = nI len ∧ M 120 9 = nI len ∧ ∀ j, j < len → M 7 j = nI (c j) ∧ M 124 j = nI (c j) := by
  obtain ⟨len, h1, h2, h3, h4⟩ := h
  have k : ∀ j, j < len → (M 7 j).toNatClampNeg ≤ 255 ∧ M 7 j = nI (M 7 j).toNatClampNeg ∧ M 124 j = nI (M 7 j).toNatClampNeg := by
    intro j hj
    obtain ⟨c, a, b, d⟩ := h4 j hj
    rw [b, q_cl (by omega)]
    exact ⟨a, rfl, d⟩
  exact ⟨fun j => (M 7 j).toNatClampNeg, len, ⟨h1, fun j hj => (k j hj).1⟩, h2, h3, fun j hj => (k j hj).2⟩
theorem fr2_fr {P : Nat → Nat → Prop} {Q : Nat → Prop} {M M' : fp_Mem} (h : fr2 P M M') (hq : ∀ q j, P q j → Q q) : fr Q M M' := fun q hn => funext fun j => h q j (fun z => hn (hq q j z))
theorem st_realm {M : fp_Mem} (hI : fp_Inv M) : ok_realm M := by
  obtain ⟨nt, nw, fa, fb, hP⟩ := hI
  obtain ⟨h1, h2, h3, h4, h5, h6, h7, h8, h9⟩ := hP
  obtain ⟨c, len, ht, t1, t2, t3⟩ := text_c h1
  obtain ⟨x, S, f0, u0, e1, -, fS, -, s12, R⟩ := k_reads (u := M) ht t1 (fun j hj => (t3 j hj).1) t2 (fun j hj => (t3 j hj).2)
  have second : ∀ F : fp_Mem, (∀ j, F 120 j = M 120 j) → (∀ j, F 124 j = M 124 j) → ∃ f u', m_X12_realm F = m_X12_realm_46 (nI f) u' ∧ fr2 Pm F u' ∧ ((f = 0 ∧ x = nI 1 ∧ S 1 6 = u' 120 10 ∧ ∃ th T W fa fb, LV S u' th T W fa fb) ∨ (Dd S u' f ∧ x = nI 0)) := by
    intro F a b
    obtain ⟨x', S', f, u', g1, g2, -, g4, -, g5⟩ := k_reads (M := M) (u := F) ht t1 (fun j hj => (t3 j hj).1) ((a 9).trans t2) (fun j hj => (b j).trans (t3 j hj).2)
    rw [e1] at g1
    obtain ⟨rfl, rfl⟩ : x = x' ∧ S = S' := by
      have := Option.some.inj g1
      exact ⟨congrArg Prod.fst this, congrArg Prod.snd this⟩
    exact ⟨f, u', g2, g4, g5⟩
  rcases R with ⟨-, hx, -, th, T, W, fa1, fb1, L⟩ | ⟨-, hx⟩
  · -- no fault
    obtain ⟨l1, l2, l3, l4, l5, l6, l7, l8, l9, l10, l11, l12, l13⟩ := L
    obtain ⟨S1, p1, f1, v1, v2, v3⟩ := c_rbec (M := S) (by
      rw [l5]
      rcases (by omega : th = 0 ∨ th = 1) with rfl | rfl <;> decide)
    obtain ⟨S2, p2, f2, w1, w2, w3⟩ := c_begins (M := S1) l2 (by rw [v1 3 (by decide), l8])
    generalize hF : fp_set (fp_set (fp_set (fp_set (fp_set (fp_set (fp_set S2 43 0 (nI 0)) 43 1 (nI 0)) 43 2 (nI 0)) 44 0 (nI 0)) 48 0 (nI 0)) 113 0 (nI 0)) 113 1 (nI 0) = F
    have f3 : fr (fun q => q = 43 ∨ q = 44 ∨ q = 48 ∨ q = 113) S2 F := by
      rw [← hF]
      exact fr_tr (fr_set (by omega)) (fr_tr (fr_set (by omega)) (fr_tr (fr_set (by omega)) (fr_tr (fr_set (by omega)) (fr_tr (fr_set (by omega)) (fr_tr (fr_set (by omega)) (fr_set (by omega)))))))
    have fSF : fr (fun q => (8 ≤ q ∧ q < 16) ∨ q = 43 ∨ q = 44 ∨ q = 48 ∨ q = 113) S F := fr_tr (fr_mono f1 (fun q h => by omega)) (fr_tr (fr_mono f2 (fun q h => by omega)) (fr_mono f3 (fun q h => by omega)))
    have hcls : m_X11_realm M = some (nI T, F) := by
      have e83 : F 8 3 = nI T := by rw [f3 8 (by omega), f2 8 (by omega), v1 3 (by decide), l8]
      rw [m_X11_realm, e1, fp_b2t, hx, if_neg (by decide), p1, fp_b1t, p2, fp_b1t, m_X8_forget, fp_ltt, fp_ltt, fp_ltt, fp_b1t, m_X1_forget, fp_ltt, fp_b1t, m_X4_forget, fp_ltt, fp_b1t, c_iforget, fp_b1t, hF, e83]
    have fMF : ∀ q, 120 ≤ q → ∀ j, F q j = M q j := fun q hq j => by rw [fSF q (by omega), fS q j (by omega)]
    obtain ⟨f, u', g1, g2, g3⟩ := second F (fMF 120 (by decide)) (fMF 124 (by decide))
    rcases g3 with ⟨rfl, -, g4, th', T', W', fa', fb', L'⟩ | ⟨-, g4⟩
    · obtain ⟨y1, y2, y3, y4, y5, y6, y7, y8, y9, y10, y11, y12, y13⟩ := L'
      obtain rfl : T' = T := (nI_eq (by omega) (by omega)).mp (y8.symm.trans l8)
      generalize hv : fp_set u' 120 9 (nI 0) = v
      have b1 : fr2 (fun q j => q = 120 ∧ j = 9) u' v := by rw [← hv]; exact fr2_set ⟨rfl, rfl⟩
      obtain ⟨N, k1, k2, k3, k4, k5, k6, k7, k8, k9⟩ := m_takeRead (u := v) y1 y2 y3 (by rw [b1 120 14 (by omega)]; exact y6) (by rw [b1 120 16 (by omega)]; exact y9) (by rw [b1 120 19 (by omega)]; exact y11)
      generalize hG : fp_set (fp_set (fp_set (fp_set (fp_set N 120 27 (nI 0)) 120 30 (nI 0)) 120 23 (nI 0)) 139 0 (nI 0)) 139 1 (nI 0) = G
      have vG : ∀ q j, G q j = if q = 139 ∧ j = 1 then nI 0 else if q = 139 ∧ j = 0 then nI 0 else if q = 120 ∧ j = 23 then nI 0 else if q = 120 ∧ j = 30 then nI 0 else if q = 120 ∧ j = 27 then nI 0 else N q j := fun q j => by
        rw [← hG, set_q, set_q, set_q, set_q, set_q]
      have G120 : ∀ j, j ≠ 23 → j ≠ 30 → j ≠ 27 → G 120 j = N 120 j := fun j a b d => by
        rw [vG, if_neg (by omega), if_neg (by omega), if_neg (by omega), if_neg (by omega), if_neg (by omega)]
      have Gq : ∀ q, q ≠ 120 → q ≠ 139 → G q = N q := fun q a b => funext fun j => by
        rw [vG, if_neg (by omega), if_neg (by omega), if_neg (by omega), if_neg (by omega), if_neg (by omega)]
      have Glo : ∀ q, q < 120 → G q = F q := fun q hq => by
        rw [Gq q (by omega) (by omega), k2 q (by omega)]
        exact funext fun j => by rw [b1 q j (by omega), g2 q j (by unfold Pm; omega)]
      have vq : ∀ q j, 125 ≤ q → q ≤ 129 → v q j = u' q j := fun q j a b => b1 q j (by omega)
      have GM : ∀ q, (16 ≤ q ∧ q < 43) ∨ (45 ≤ q ∧ q < 48) ∨ (49 ≤ q ∧ q < 113) ∨ (114 ≤ q ∧ q < 120) → G q = M q := fun q hq => by
        rw [Glo q (by omega), fSF q (by omega)]
        exact funext fun j => fS q j (by omega)
      have G120M : ∀ j, j = 6 → G 120 j = M 120 j := fun j hj => by
        rw [G120 j (by omega) (by omega) (by omega), k3 j (by omega), b1 120 j (by omega), g2 120 j (by unfold Pm; omega), fMF 120 (by decide)]
      have hmod : m_X12_realm F = some (nI T', G) := by
        rw [g1, m_X12_realm_46, fp_ltt, if_pos (by decide), hv, k1, fp_b1t, fp_ltt, fp_ltt, fp_ltt, show fp_in (nI 0) 2 = true by decide, show fp_in (nI 1) 2 = true by decide, fp_gdt, fp_ltt, fp_gdt, fp_ltt, q_nb0, q_cl (by decide), q_cl (by decide), hG, G120 1 (by decide) (by decide) (by decide), k6]
      have wd : ∃ w, w ≤ 99 ∧ S 2 2 = nI w ∧ (if th' = 0 then nI 0 else u' 125 1) = nI w := by
        by_cases h0 : th' = 0
        · exact ⟨0, by decide, (y4 h0).2.2.2, by rw [if_pos h0]⟩
        · obtain ⟨-, w, z1, z2, z3⟩ := y7 (by omega)
          exact ⟨w, z1, z2, by rw [if_neg h0]; exact z3⟩
      obtain ⟨wo, wo1, wo2, wo3⟩ := wd
      have k9' : ∀ j, j < 25 → G 123 j = if j < T' then u' 126 j else if 9 ≤ j ∧ j < 9 + T' then u' 127 (j - 9) else if j = 18 then nI wo else nI 0 := fun j hj => by
        rw [Gq 123 (by decide) (by decide), k9 j hj, vq 126 j (by decide) (by decide), vq 127 _ (by decide) (by decide), vq 125 _ (by decide) (by decide), wo3]
      have row : ∀ t, t < 9 → ∃ a b, G 123 t = nI a ∧ G 123 (9 + t) = nI b ∧ G 14 t = nI a ∧ G 15 t = nI b ∧ b ≤ a ∧ a ≤ 12 ∧ (T' ≤ t → a = 0 ∧ b = 0) := by
        intro t ht
        have z1 : G 14 t = if t < T' then S 3 t else nI 0 := by
          rw [Glo 14 (by decide), f3 14 (by omega), (w1 t ht).1, (v2 t ht).1]
        have z2 : G 15 t = if t < T' then S 4 t else nI 0 := by
          rw [Glo 15 (by decide), f3 15 (by omega), (w1 t ht).2, (v2 t ht).2]
        rw [k9' t (by omega), k9' (9 + t) (by omega), z1, z2, if_neg (show ¬ 9 + t < T' by omega), if_neg (show ¬ (9 ≤ t ∧ t < 9 + T') by omega), if_neg (show ¬ t = 18 by omega), if_neg (show ¬ 9 + t = 18 by omega), Nat.add_sub_cancel_left]
        by_cases h : t < T'
        · obtain ⟨a, b, o1, o2, o3, o4, o5, o6⟩ := y12 t h
          rw [if_pos h, if_pos h, if_pos h, if_pos (by omega)]
          exact ⟨a, b, o3, o4, o1, o2, o5, o6, fun z => by omega⟩
        · rw [if_neg h, if_neg h, if_neg h, if_neg (by omega)]
          exact ⟨0, 0, rfl, rfl, rfl, rfl, Nat.le_refl _, by decide, fun _ => ⟨rfl, rfl⟩⟩
      have h18 : G 123 18 = nI wo := by
        rw [k9' 18 (by decide), if_neg (by omega), if_neg (by omega), if_pos rfl]
      have hi0 : ∀ j, 19 ≤ j → j < 25 → G 123 j = nI 0 := fun j a b => by
        rw [k9' j b, if_neg (by omega), if_neg (by omega), if_neg (by omega)]
      have g13 : ∀ j, 3 ≤ j → j ≤ 8 → G 13 j = nI 0 := fun j a b => by
        rw [Glo 13 (by decide), f3 13 (by omega), w3 j a b]
      refine ⟨nI T', F, G, hcls, hmod, T', W', fa', fb', ?_, ?_, ?_, ⟨?_, ?_⟩, ?_, ?_, ?_, ?_, ?_⟩
      · refine ⟨0, by decide, ?_, ?_, fun j hj => absurd hj (Nat.not_lt_zero j)⟩
        · rw [Glo 1 (by decide), fSF 1 (by omega), s12]
        · rw [G120 9 (by decide) (by decide) (by decide), k3 9 (by decide), ← hv, set_at]
      · rw [Glo 1 (by decide), fSF 1 (by omega), G120 10 (by decide) (by decide) (by decide), k3 10 (by decide), b1 120 10 (by omega), g4]
      · have e8 : ∀ j, j < 5 → G 8 j = S 2 j := fun j hj => by
          rw [Glo 8 (by decide), f3 8 (by omega), f2 8 (by omega), v1 j hj]
        have e11 : ∀ w, w < 14 → G 11 w = S 5 w ∧ G 12 w = S 6 w := fun w hw => by
          rw [Glo 11 (by decide), f3 11 (by omega), f2 11 (by omega), Glo 12 (by decide), f3 12 (by omega), f2 12 (by omega)]
          exact v3 w hw
        refine ⟨⟨y2, y3, (e8 3 (by decide)).trans y8, (e8 4 (by decide)).trans y10, fun w hw => ?_⟩, ⟨y2, y3, (G120 1 (by decide) (by decide) (by decide)).trans k6, (G120 2 (by decide) (by decide) (by decide)).trans k7, fun w hw => ?_⟩, ?_, ?_, ?_⟩
        · obtain ⟨o1, o2, o3, o4, o5, o6, o7⟩ := y13 w hw
          obtain ⟨q1, q2⟩ := e11 w (by omega)
          exact ⟨q1.trans o1, q2.trans o2, o5, o6, o7⟩
        · obtain ⟨o1, o2, o3, o4, o5, o6, o7⟩ := y13 w hw
          obtain ⟨q1, q2⟩ := k8 w hw
          rw [Gq 121 (by decide) (by decide), Gq 122 (by decide) (by decide), q1, q2, vq 128 w (by decide) (by decide), vq 129 w (by decide) (by decide)]
          exact ⟨o3, o4, o5, o6, o7⟩
        · rw [e8 1 (by decide), G120 0 (by decide) (by decide) (by decide), k5, vq 125 0 (by decide) (by decide)]
          by_cases h0 : th' = 0
          · rw [if_pos h0]
            exact (y4 h0).2.2.1
          · rw [if_neg h0]
            exact (y7 (by omega)).1
        · rw [e8 0 (by decide), G120 7 (by decide) (by decide) (by decide), k4, y5]
        · rw [e8 0 (by decide), y5]
          rcases (by omega : th' = 0 ∨ th' = 1) with rfl | rfl
          · exact Or.inl rfl
          · exact Or.inr rfl
      · refine ⟨fun t ht => ?_, ?_, ?_, ?_, ?_, ?_, ?_, ?_⟩
        · obtain ⟨a, b, o1, o2, o3, o4, -⟩ := row t ht
          exact ⟨o3.trans o1.symm, o4.trans o2.symm⟩
        · rw [h18, Glo 13 (by decide), f3 13 (by omega), w2, v1 2 (by decide), wo2]
        · rw [g13 3 (by decide) (by decide), hi0 19 (by decide) (by decide)]
        · rw [g13 4 (by decide) (by decide), hi0 20 (by decide) (by decide)]
        · rw [g13 5 (by decide) (by decide), hi0 21 (by decide) (by decide)]
        · rw [g13 6 (by decide) (by decide), hi0 22 (by decide) (by decide)]
        · rw [g13 7 (by decide) (by decide), hi0 23 (by decide) (by decide)]
        · rw [g13 8 (by decide) (by decide), hi0 24 (by decide) (by decide)]
      · refine ⟨fun t => (G 123 t).toNatClampNeg, fun t => (G 123 (9 + t)).toNatClampNeg, wo, fun t ht => ?_, fun t ht => ?_, h18, wo1⟩
        · obtain ⟨a, b, o1, o2, o3, o4, o5, o6, o7⟩ := row t ht
          show G 123 t = nI (G 123 t).toNatClampNeg ∧ G 123 (9 + t) = nI (G 123 (9 + t)).toNatClampNeg ∧ (G 123 (9 + t)).toNatClampNeg ≤ (G 123 t).toNatClampNeg ∧ (G 123 t).toNatClampNeg ≤ 24
          rw [o1, o2, q_cl (show a < 2 ^ 31 by omega), q_cl (show b < 2 ^ 31 by omega)]
          exact ⟨rfl, rfl, o5, by omega⟩
        · obtain ⟨a, b, o1, o2, o3, o4, o5, o6, o7⟩ := row t ht
          show (G 123 t).toNatClampNeg ≤ 20 ∧ (T' ≤ t → (G 123 t).toNatClampNeg = 0 ∧ (G 123 (9 + t)).toNatClampNeg = 0)
          rw [o1, o2, q_cl (show a < 2 ^ 31 by omega), q_cl (show b < 2 ^ 31 by omega)]
          exact ⟨by omega, o7⟩
      · exact I_seed_fr h5 (by rw [GM 47 (by omega)]) (G120M 6 rfl)
      · have q43 : ∀ j, j < 3 → G 43 j = nI 0 := fun j hj => by
          rw [Glo 43 (by decide), ← hF, set_off (by decide), set_off (by decide), set_off (by decide), set_off (by decide), set_q, set_q, set_q]
          rcases (by omega : j = 0 ∨ j = 1 ∨ j = 2) with rfl | rfl | rfl <;> simp
        refine ⟨0, by decide, q43 0 (by decide), ?_, fun j hj => absurd hj (Nat.not_lt_zero j), ?_, ?_⟩
        · rw [vG, if_neg (by decide), if_neg (by decide), if_neg (by decide), if_neg (by decide), if_pos (by decide)]
        · rw [q43 1 (by decide)]
          exact isM_0
        · rw [q43 2 (by decide)]
          exact isM_0
      · refine ⟨0, by decide, ?_, ?_, fun j hj => absurd hj (Nat.not_lt_zero j)⟩
        · rw [Glo 44 (by decide), ← hF, set_off (by decide), set_off (by decide), set_off (by decide), set_at]
        · rw [vG, if_neg (by decide), if_neg (by decide), if_neg (by decide), if_pos (by decide)]
      · obtain ⟨n, nx, -, hnx, -, -, a3, -⟩ := h8
        refine ⟨0, nx, by decide, hnx, ?_, ?_, ?_, fun j hj => absurd hj (Nat.not_lt_zero j)⟩
        · rw [Glo 48 (by decide), ← hF, set_off (by decide), set_off (by decide), set_at]
        · rw [vG, if_neg (by decide), if_neg (by decide), if_pos (by decide)]
        · rw [Glo 48 (by decide), ← hF, set_off (by decide), set_off (by decide), set_ne (by decide), set_off (by decide), set_off (by decide), set_off (by decide), set_off (by decide), f2 48 (by omega), f1 48 (by omega), fS 48 1 (by omega), a3]
      · intro i hi
        refine Or.inl ⟨?_, ?_⟩
        · rw [Glo 113 (by decide), ← hF, set_q, set_q]
          rcases (by omega : i = 0 ∨ i = 1) with rfl | rfl <;> simp
        · rw [vG]
          rcases (by omega : i = 0 ∨ i = 1) with rfl | rfl <;> simp
    · rw [hx] at g4
      exact absurd g4 (by decide)
  · -- a fault
    have fM : ∀ q, 120 ≤ q → ∀ j, S q j = M q j := fun q hq j => fS q j (by omega)
    obtain ⟨f, u', g1, g2, g3⟩ := second S (fM 120 (by decide)) (fM 124 (by decide))
    rcases g3 with ⟨-, g4, -⟩ | ⟨K, -⟩
    · rw [hx] at g4
      exact absurd g4 (by decide)
    · obtain ⟨k1, k2, k3, k4⟩ := K
      have b1 : fr2 (fun q j => q = 120 ∧ j = 9) u' (fp_set u' 120 9 (nI 0)) := fr2_set ⟨rfl, rfl⟩
      refine ⟨(-10 : Int32) - nI f, S, fp_set u' 120 9 (nI 0), ?_, ?_, nt, nw, fa, fb, ?_⟩
      · rw [m_X11_realm, e1, fp_b2t, hx, if_pos (by decide), k3]
      · rw [g1, m_X12_realm_46, fp_ltt, if_neg (nI_nle k1 (by omega))]
      · have f3 : fr2 (fun q j => (q = 1 ∧ 2 ≤ j ∧ j ≤ 6) ∨ (2 ≤ q ∧ q ≤ 6) ∨ (q = 120 ∧ ((9 ≤ j ∧ j ≤ 14) ∨ j = 16 ∨ j = 19)) ∨ (125 ≤ q ∧ q ≤ 129)) M (fp_set u' 120 9 (nI 0)) := fr2_tr (fr2_mono fS (fun q j h => by omega)) (fr2_tr (fr2_mono g2 (fun q j h => by unfold Pm at h; omega)) (fr2_mono b1 (fun q j h => by omega)))
        generalize hG : fp_set u' 120 9 (nI 0) = G at f3 b1
        have e : fr (fun q => q = 1 ∨ (2 ≤ q ∧ q ≤ 6) ∨ q = 120 ∨ (125 ≤ q ∧ q ≤ 129)) M G := fr2_fr f3 (fun q j h => by omega)
        have g : ∀ j, ¬ ((9 ≤ j ∧ j ≤ 14) ∨ j = 16 ∨ j = 19) → G 120 j = M 120 j := fun j hj => f3 120 j (by omega)
        refine ⟨⟨0, by decide, ?_, by rw [← hG, set_at], fun j hj => absurd hj (Nat.not_lt_zero j)⟩, ?_, I_realm_fr h3 (e 8 (by omega)) (e 11 (by omega)) (e 12 (by omega)) (e 121 (by omega)) (e 122 (by omega)) (fun j hj => g j (by omega)), I_now_fr h4 (e 13 (by omega)) (e 14 (by omega)) (e 15 (by omega)) (e 123 (by omega)), I_seed_fr h5 (congrFun (e 47 (by omega)) 0) (g 6 (by omega)), I_sight_fr h6 (e 43 (by omega)) (g 27 (by omega)) (e 134 (by omega)) (e 135 (by omega)), I_book_fr h7 (e 44 (by omega)) (g 30 (by omega)) (e 45 (by omega)) (e 46 (by omega)) (e 136 (by omega)) (e 137 (by omega)), I_hist_fr h8 (e 48 (by omega)) (g 23 (by omega)) (fun q a b => e q (by omega)) (e 131 (by omega)), I_img_fr h9 (e 112 (by omega)) (e 113 (by omega)) (fun q a b => e q (by omega)) (e 138 (by omega)) (e 139 (by omega))⟩
        · rw [b1 1 2 (by omega), g2 1 2 (by unfold Pm; omega), s12]
        · rw [b1 1 6 (by omega), g2 1 6 (by unfold Pm; omega), b1 120 10 (by omega), k4]

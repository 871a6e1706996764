/-! name, read, all, pile, mark, count, began -/
theorem r_name {σ μ : q_S} (h : c_RR σ μ) (p1 p2 : Int32) : ∃ (r : Int32) (σ' μ' : q_S), f_X2_name σ.1 σ.2.1 σ.2.2 p1 p2 = some (r, σ') ∧ f_X3_name μ.1 μ.2.1 μ.2.2 p1 p2 = some (r, μ') ∧ c_RR σ' μ' := by
  obtain ⟨N, K, cf, τ, L, hSt, hC⟩ := id h
  obtain ⟨s, a, g⟩ := σ
  obtain ⟨S, A, Gm⟩ := μ
  have h6 : s 6 = nI K := hC.1.2.1
  have h2 : S 2 = nI K := hC.2.1.2.1
  have hK2 := hSt.2.1
  have hK := hSt.2.2.1
  simp only
  unfold f_X2_name f_X3_name
  rcases pk_ix p1 (n := 10) (by decide) with c | c | ⟨i, c, rfl⟩
  · rw [isN_no _ _ _ (Or.inl c), inM_lo _ _ _ c]
    exact ⟨-2, _, _, rfl, rfl, h⟩
  · rw [isN_no _ _ _ (Or.inr c), inM_hi _ _ _ (show (9 : Int32) < p1 from Int32.lt_of_lt_of_le (by decide) c)]
    exact ⟨-2, _, _, rfl, rfl, h⟩
  · have e7 : a 7 i = cf 4 i := hC.1.2.2.2.2 i c
    have e7' : A 7 i = cf 4 i := hC.2.1.2.2.2.2 i c
    have fin : (p2 = -1 ∨ ∃ r, r < K ∧ p2 = nI r) → c_RR (s, q_ua a 7 i p2, g) (S, q_ua A 7 i p2, Gm) := by
      intro hp
      obtain ⟨hY, hM, hDY, hDM, hCO⟩ := hC
      refine ⟨N, K, fun t j => if t = 4 then upd (cf 4) i p2 j else cf t j, τ, L, ⟨hSt.1, hSt.2.1, hSt.2.2.1, ?_, ?_, fun j hj => ?_⟩, ⟨hY.1, hY.2.1, ?_, ?_, fun j hj => ?_⟩, ⟨hM.1, hM.2.1, ?_, ?_, fun j hj => ?_⟩, ?_, ?_, ?_⟩
      · simpa using hSt.2.2.2.1
      · simpa using hSt.2.2.2.2.1
      · by_cases e : j = i
        · subst e
          simpa [up_eq] using hp
        · simpa [up_ne, e] using hSt.2.2.2.2.2 j hj
      · simpa [ua_ne] using hY.2.2.1
      · simpa [ua_ne] using hY.2.2.2.1
      · by_cases e : j = i
        · subst e
          simp [ua_eq, up_eq]
        · simpa [ua_eq, up_ne, e] using hY.2.2.2.2 j hj
      · simpa [ua_ne] using hM.2.2.1
      · simpa [ua_ne] using hM.2.2.2.1
      · by_cases e : j = i
        · subst e
          simp [ua_eq, up_eq]
        · simpa [ua_eq, up_ne, e] using hM.2.2.2.2 j hj
      · simpa [c_DY, ua_ne] using hDY
      · simpa [c_DM, ua_ne] using hDM
      · simpa [c_CO, ua_ne] using hCO
    rw [isN_yes _ _ _ c, q_ci_s, if_neg (by decide), show f_X3_in S A Gm (nI i) 0 9 = some (1, S, A, Gm) from inM_yes (lo := 0) (n := 9) _ _ _ (by omega) (by omega) (by decide), q_ci_s, if_neg (show ¬ (1 : Int32) = 0 by decide)]
    by_cases c2 : p2 = -1
    · rw [if_pos c2, if_pos c2]
      simp only [q_ck_in c (by decide), nI_clamp (show i < 2 ^ 31 by omega), e7, e7', q_bd_b]
      by_cases c3 : cf 4 i = -1
      · rw [if_pos c3, if_pos c3]
        exact ⟨_, _, _, rfl, rfl, fin (Or.inl c2)⟩
      · rw [if_neg c3, if_neg c3]
        exact ⟨_, _, _, rfl, rfl, fin (Or.inl c2)⟩
    · rw [if_neg c2, if_neg c2]
      rcases pk_ix p2 (n := K) (by omega) with d | d | d
      · obtain ⟨x1, x2⟩ := isR_no a A g Gm h6 h2 hK hK2 (Or.inl d)
        rw [x1, x2]
        exact ⟨-2, _, _, rfl, rfl, h⟩
      · obtain ⟨x1, x2⟩ := isR_no a A g Gm h6 h2 hK hK2 (Or.inr d)
        rw [x1, x2]
        exact ⟨-2, _, _, rfl, rfl, h⟩
      · have hp := fin (Or.inr d)
        obtain ⟨r, hr, rfl⟩ := d
        obtain ⟨x1, x2⟩ := isR_yes a A g Gm h6 h2 hK hr
        rw [x1, x2, q_ci_s, q_ci_s, if_neg (show ¬ (1 : Int32) = 0 by decide), if_neg (show ¬ (1 : Int32) = 0 by decide)]
        simp only [q_ck_in c (by decide), nI_clamp (show i < 2 ^ 31 by omega), e7, e7', q_bd_b]
        by_cases c3 : cf 4 i = -1
        · rw [if_pos c3, if_pos c3]
          exact ⟨_, _, _, rfl, rfl, hp⟩
        · rw [if_neg c3, if_neg c3]
          exact ⟨_, _, _, rfl, rfl, hp⟩
def c_s0 (s : q_s) : q_s := q_us (q_us (q_us (q_us (q_us s 23 0) 24 0) 33 0) 11 0) 12 0
def c_S0 (s : q_s) : q_s := q_us (q_us (q_us (q_us (q_us (q_us (q_us s 11 0) 12 0) 13 0) 30 0) 31 0) 17 0) 33 0
theorem startY (s : q_s) (a : q_a) (g : q_g) : f_X2_startCall s a g = some (c_s0 s, a, g) := rfl
theorem readyM (s : q_s) (a : q_a) (g : q_g) : f_X3_ready s a g = some (c_S0 s, a, g) := rfl
theorem st_Cor {N K : Nat} {cf : Nat → Nat → Int32} {s : q_s} {a : q_a} {g : q_g} {S : q_s} {A : q_a} {Gm : q_g} {τ : Nat → Nat} {L : List Int64} (hC : c_Cor N K cf (s, a, g) (S, A, Gm) τ L) : c_Cor N K cf (c_s0 s, a, g) (c_S0 S, A, Gm) (fun _ => 0) [] := by
  obtain ⟨hY, hM, hDY, hDM, hCO⟩ := hC
  refine ⟨?_, ?_, ?_, ?_, ?_⟩
  · simpa [c_Y, c_s0, us_ne] using hY
  · simpa [c_M, c_S0, us_ne] using hM
  · exact ⟨by simp [c_s0, us_ne, us_eq]; rfl, by simp [c_s0, us_ne, us_eq]; rfl, by simp [c_s0, us_ne, us_eq]; rfl, by simp [c_s0, us_ne, us_eq]; rfl, Nat.le_refl _, hDY.2.2.2.2.2.1, rfl⟩
  · exact ⟨by simp [c_S0, us_ne, us_eq]; rfl, by simp [c_S0, us_ne, us_eq]; rfl, by simp [c_S0, us_ne, us_eq]; rfl, by simp [c_S0, us_ne, us_eq]; rfl, Nat.le_refl _, rfl⟩
  · obtain ⟨x1, x2, x3, x4, x5, x6, x7⟩ := hCO
    refine ⟨by simp [c_s0, c_S0, us_eq], by simpa [c_s0, c_S0, us_ne] using x2, by simpa [c_s0, c_S0, us_ne] using x3, by simpa [c_s0, c_S0, us_ne] using x4, x5, fun i hi => absurd hi (Nat.not_lt_zero i), Nat.zero_le _, Nat.le_refl _, Nat.le_refl _, Nat.le_refl _⟩
theorem nf_Cor {N K : Nat} {cf : Nat → Nat → Int32} {s : q_s} {a : q_a} {g : q_g} {S : q_s} {A : q_a} {Gm : q_g} {τ : Nat → Nat} {L : List Int64} (v : Int32) (hC : c_Cor N K cf (s, a, g) (S, A, Gm) τ L) : c_Cor N K cf (q_us (q_us s 14 (s 14 + 1)) 15 v, a, g) (q_us (q_us S 34 (S 34 + 1)) 35 v, A, Gm) τ L := by
  obtain ⟨hY, hM, hDY, hDM, hCO⟩ := hC
  refine ⟨by simpa [c_Y, us_ne] using hY, by simpa [c_M, us_ne] using hM, by simpa [c_DY, us_ne] using hDY, by simpa [c_DM, us_ne] using hDM, ?_⟩
  obtain ⟨x1, x2, x3, x4, x5, x6, x7⟩ := hCO
  simp only at x1 x2 x3 x4 x5 x6
  exact ⟨by simpa [us_ne] using x1, by simpa [us_ne] using x2, by simp [us_ne, us_eq, x3], by simp [us_eq], x5, x6, x7⟩
theorem noteY (s : q_s) (a : q_a) (g : q_g) {φ : Nat} (h1 : 1 ≤ φ) (h2 : φ ≤ 5) : f_X2_noteFault s a g (-10 - nI φ) = some (q_us (q_us s 14 (s 14 + 1)) 15 (nI φ), a, g) := by
  unfold f_X2_noteFault
  rw [q_bd_b, q_bd_b, (c_flt h1 h2).2.2.2.2]
theorem faultyM (s : q_s) (a : q_a) (g : q_g) {v : Int32} (h : s 30 = v) : f_X3_faulty s a g = some (-10 - v, q_us (q_us s 34 (s 34 + 1)) 35 v, a, g) := by
  unfold f_X3_faulty
  simp only [q_bd_b, us_ne _ _ (show (30 : Nat) ≠ 34 by decide), us_ne _ _ (show (30 : Nat) ≠ 35 by decide), h]
theorem r_read {σ μ : q_S} (h : c_RR σ μ) (p1 p2 : Int32) : ∃ (r : Int32) (σ' μ' : q_S), f_X2_read 7000 σ.1 σ.2.1 σ.2.2 p1 p2 = some (r, σ') ∧ f_X3_read 7000 μ.1 μ.2.1 μ.2.2 p1 p2 = some (r, μ') ∧ c_RR σ' μ' := by
  obtain ⟨N, K, cf, τ, L, hSt, hC⟩ := id h
  obtain ⟨s, a, g⟩ := σ
  obtain ⟨S, A, Gm⟩ := μ
  have h6 : s 6 = nI K := hC.1.2.1
  have h2 : S 2 = nI K := hC.2.1.2.1
  have y1 : s 1 = nI N := hC.1.1
  have m1 : S 1 = nI N := hC.2.1.1
  have hN := hSt.1
  have hK2 := hSt.2.1
  have hK := hSt.2.2.1
  simp only
  unfold f_X2_read f_X3_read
  rcases pk_ix p1 (n := K) (by omega) with d | d | ⟨r, hr, rfl⟩
  · obtain ⟨x1, x2⟩ := isR_no a A g Gm h6 h2 hK hK2 (Or.inl d)
    rw [x1, x2]
    exact ⟨-2, _, _, rfl, rfl, h⟩
  · obtain ⟨x1, x2⟩ := isR_no a A g Gm h6 h2 hK hK2 (Or.inr d)
    rw [x1, x2]
    exact ⟨-2, _, _, rfl, rfl, h⟩
  · obtain ⟨x1, x2⟩ := isR_yes a A g Gm h6 h2 hK hr
    rw [x1, x2, q_ci_s, q_ci_s, if_neg (show ¬ (1 : Int32) = 0 by decide), if_neg (show ¬ (1 : Int32) = 0 by decide), y1, m1]
    rcases pk_ix p2 (n := N + 1) (by omega) with c | c | ⟨place, c, rfl⟩
    · rw [if_pos c, inM_lo _ _ _ c]
      exact ⟨-2, _, _, rfl, rfl, h⟩
    · have b : nI N < p2 := Int32.lt_of_lt_of_le (nI_lt (Nat.lt_succ_self N) (by omega)) c
      have b2 : ¬ p2 ≤ nI N := Int32.not_le.mpr b
      rw [inM_hi _ _ _ b]
      by_cases c0 : p2 < 0
      · rw [if_pos c0]
        exact ⟨-2, _, _, rfl, rfl, h⟩
      · rw [if_neg c0, if_neg b2]
        exact ⟨-2, _, _, rfl, rfl, h⟩
    · rw [if_neg (nI_pos (show place < 2 ^ 31 by omega)), if_pos (nI_le (show place ≤ N by omega) (by omega)), show f_X3_in S A Gm (nI place) 0 (nI N) = some (1, S, A, Gm) from inM_yes (lo := 0) _ _ _ (by omega) (by omega) (by omega), q_ci_s, if_neg (show ¬ (1 : Int32) = 0 by decide), startY, readyM, q_cv_s, q_cv_s]
      obtain ⟨res, s2, a2, g2, S2, A2, G2, τ2, L2, z1, z2, z3, z4⟩ := c_reads (place := place) hSt hr (by omega) (st_Cor hC) (by simp [c_S0, us_ne, us_eq])
      rw [z1, z2, q_ci_s, q_cv_s]
      rcases z4 with ⟨φ, f1, f2, f3, f4⟩ | ⟨f1, f2, f3, f4⟩
      · have b : ¬ nI φ ≤ (0 : Int32) := nI_nle (by omega) (by omega)
        rw [f3, isF_flt f1 f2, q_ci_s, if_neg (show ¬ (1 : Int32) = 0 by decide), noteY _ _ _ f1 f2, q_cv_s, f4, if_neg b, faultyM _ _ _ f4]
        exact ⟨_, _, _, rfl, rfl, N, K, cf, τ2, L2, hSt, nf_Cor (nI φ) z3⟩
      · rw [f2, if_pos Int32.le_rfl, f3]
        have e : f_X2_isFault s2 a2 g2 res = some (0, s2, a2, g2) := by
          rcases f4 with ⟨w, -⟩ | ⟨q, w, w2, w3⟩
          · rw [w]; rfl
          · rw [w]; exact isF_ok (by omega) _ _ _
        rw [e]
        exact ⟨_, _, _, rfl, rfl, N, K, cf, τ2, L2, hSt, z3⟩
theorem all_lp {N K r : Nat} {cf : Nat → Nat → Int32} (hSt : c_St N K cf) (hr : r < K) : ∀ (w i p x y : Nat) (s : q_s) (a : q_a) (g : q_g) (S : q_s) (A : q_a) (Gm : q_g) (τ : Nat → Nat) (L : List Int64), i + w = 200 → i ≤ p → p ≤ N → c_Cor N K cf (s, a, g) (S, A, Gm) τ L → S 30 = 0 →
    ∃ (res : Int32) (σ' μ' : q_S), f_X2_all_lp 7000 (x + w + 1) s a g (nI r) (nI p) (nI i) (nI i) = some (res, σ') ∧ f_X3_all_lp 7000 (y + w + 2) S A Gm (nI r) (nI p) (nI i) 1 = some (res, μ') ∧ c_RR σ' μ' := by
  have hN := hSt.1
  intro w
  induction w with
  | zero =>
    intro i p x y s a g S A Gm τ L hi hp1 hp2 hC h30
    obtain ⟨res, s2, a2, g2, S2, A2, G2, τ2, L2, z1, z2, z3, z4⟩ := c_reads (place := p) hSt hr hp2 hC h30
    show ∃ (res : Int32) (σ' μ' : q_S), f_X2_all_lb 7000 (f_X2_all_lp 7000 (x + 0)) s a g (nI r) (nI p) (nI i) (nI i) = some (res, σ') ∧ f_X3_all_lb 7000 (f_X3_all_lp 7000 (y + 0 + 1)) S A Gm (nI r) (nI p) (nI i) 1 = some (res, μ') ∧ c_RR σ' μ'
    unfold f_X2_all_lb f_X3_all_lb
    rw [if_neg (show ¬ (200 : Int32) < nI i from nI_nlt (a := 200) (by omega) (by decide)), z1, q_ci_s, if_neg (show ¬ (1 : Int32) = 0 by decide), z2, q_cv_s]
    rcases z4 with ⟨φ, f1, f2, f3, f4⟩ | ⟨f1, f2, f3, f4⟩
    · have b : ¬ nI φ ≤ (0 : Int32) := nI_nle (by omega) (by omega)
      rw [f3, isF_flt f1 f2, q_ci_s, if_neg (show ¬ (1 : Int32) = 0 by decide), noteY _ _ _ f1 f2, q_cv_s, f4, if_neg b, faultyM _ _ _ f4]
      exact ⟨_, _, _, rfl, rfl, N, K, cf, τ2, L2, hSt, nf_Cor (nI φ) z3⟩
    · have hno : f_X2_isFault s2 a2 g2 res = some (0, s2, a2, g2) ∧ ¬ nI p < res ∧ res ≤ nI p := by
        rcases f4 with ⟨u, -⟩ | ⟨q, u, u2, u3⟩
        · have np := c_pl (show p ≤ 3000 by omega)
          have hlt : (-1 : Int32) < nI p := Int32.lt_of_lt_of_le (by decide) (nI_pos' (show p < 2 ^ 31 by omega))
          rw [u]
          exact ⟨rfl, fun z => np.2.1 (Int32.lt_trans z (by decide)), Int32.le_of_lt hlt⟩
        · rw [u]
          exact ⟨isF_ok (by omega) _ _ _, nI_nlt (by omega) (by omega), nI_le (by omega) (by omega)⟩
      obtain ⟨hno1, hno2, hno3⟩ := hno
      have d := hC.2.2.1
      have m := hC.2.2.2.1
      obtain ⟨hC3, -⟩ := tb_Cor (c_Cor_S hC (S' := q_us S 17 0) (fun i h1 _ _ => us_ne _ _ h1)) z3 f1 (q_us (q_us (q_us S2 12 (S 12)) 11 (S 11)) 13 (S 13)) (by simp [us_ne]) (by simp [us_ne]) (by simp [us_ne]) (by simp [us_ne]) (by simp [us_ne]) (by simp [us_ne]) (by simp [us_ne]) (by simpa [us_ne, us_eq] using m.2.1) (by simpa [us_ne, us_eq] using m.2.2.1) (by simpa [us_eq] using m.2.2.2.1)
      rw [hno1, q_ci_s, if_pos rfl, if_neg hno2, f2, if_pos Int32.le_rfl, f3, if_pos hno3, tbY, q_cv_s, q_bd_b, q_bd_b, q_bd_b, show s 24 = nI (τ 2) from d.2.2.1, show s 33 = nI (τ 3) from d.2.2.2.1]
      exact ⟨_, _, _, rfl, rfl, N, K, cf, _, _, hSt, hC3⟩
  | succ w ih =>
    intro i p x y s a g S A Gm τ L hi hp1 hp2 hC h30
    obtain ⟨res, s2, a2, g2, S2, A2, G2, τ2, L2, z1, z2, z3, z4⟩ := c_reads (place := p) hSt hr hp2 hC h30
    show ∃ (res : Int32) (σ' μ' : q_S), f_X2_all_lb 7000 (f_X2_all_lp 7000 (x + (w + 1))) s a g (nI r) (nI p) (nI i) (nI i) = some (res, σ') ∧ f_X3_all_lb 7000 (f_X3_all_lp 7000 (y + (w + 1) + 1)) S A Gm (nI r) (nI p) (nI i) 1 = some (res, μ') ∧ c_RR σ' μ'
    unfold f_X2_all_lb f_X3_all_lb
    rw [if_neg (show ¬ (200 : Int32) < nI i from nI_nlt (a := 200) (by omega) (by decide)), z1, q_ci_s, if_neg (show ¬ (1 : Int32) = 0 by decide), z2, q_cv_s]
    rcases z4 with ⟨φ, f1, f2, f3, f4⟩ | ⟨f1, f2, f3, f4⟩
    · have b : ¬ nI φ ≤ (0 : Int32) := nI_nle (by omega) (by omega)
      rw [f3, isF_flt f1 f2, q_ci_s, if_neg (show ¬ (1 : Int32) = 0 by decide), noteY _ _ _ f1 f2, q_cv_s, f4, if_neg b, faultyM _ _ _ f4]
      exact ⟨_, _, _, rfl, rfl, N, K, cf, τ2, L2, hSt, nf_Cor (nI φ) z3⟩
    · by_cases hc : ∃ q : Nat, res = nI q ∧ p < q ∧ q ≤ N
      · obtain ⟨q, u, u2, u3⟩ := hc
        have b : ¬ nI q ≤ nI p := fun z => by have := (nI_leI (show q < 2 ^ 31 by omega) (show p < 2 ^ 31 by omega)).mp z; omega
        rw [u, isF_ok (show q ≤ 3000 by omega), q_ci_s, if_pos rfl, if_pos (nI_lt u2 (by omega)), f2, if_pos Int32.le_rfl, f3, u, if_neg b, nI_1]
        exact ih (i + 1) q x y s2 a2 g2 S2 A2 G2 τ2 L2 (by omega) (by omega) u3 z3 f2
      · have hno : f_X2_isFault s2 a2 g2 res = some (0, s2, a2, g2) ∧ ¬ nI p < res ∧ res ≤ nI p := by
          rcases f4 with ⟨u, -⟩ | ⟨q, u, u2, u3⟩
          · have np := c_pl (show p ≤ 3000 by omega)
            have hlt : (-1 : Int32) < nI p := Int32.lt_of_lt_of_le (by decide) (nI_pos' (show p < 2 ^ 31 by omega))
            rw [u]
            exact ⟨rfl, fun z => np.2.1 (Int32.lt_trans z (by decide)), Int32.le_of_lt hlt⟩
          · have hqp : q ≤ p := by
              rcases Nat.lt_or_ge p q with hh | hh
              · exact absurd ⟨q, u, hh, u3⟩ hc
              · exact hh
            rw [u]
            exact ⟨isF_ok (by omega) _ _ _, nI_nlt (by omega) (by omega), nI_le (by omega) (by omega)⟩
        obtain ⟨hno1, hno2, hno3⟩ := hno
        have d := hC.2.2.1
        have m := hC.2.2.2.1
        obtain ⟨hC3, -⟩ := tb_Cor (c_Cor_S hC (S' := q_us S 17 0) (fun i h1 _ _ => us_ne _ _ h1)) z3 f1 (q_us (q_us (q_us S2 12 (S 12)) 11 (S 11)) 13 (S 13)) (by simp [us_ne]) (by simp [us_ne]) (by simp [us_ne]) (by simp [us_ne]) (by simp [us_ne]) (by simp [us_ne]) (by simp [us_ne]) (by simpa [us_ne, us_eq] using m.2.1) (by simpa [us_ne, us_eq] using m.2.2.1) (by simpa [us_eq] using m.2.2.2.1)
        rw [hno1, q_ci_s, if_pos rfl, if_neg hno2, f2, if_pos Int32.le_rfl, f3, if_pos hno3, tbY, q_cv_s, q_bd_b, q_bd_b, q_bd_b, show s 24 = nI (τ 2) from d.2.2.1, show s 33 = nI (τ 3) from d.2.2.2.1]
        exact ⟨_, _, _, rfl, rfl, N, K, cf, _, _, hSt, hC3⟩
theorem r_all {σ μ : q_S} (h : c_RR σ μ) (p1 : Int32) : ∃ (r : Int32) (σ' μ' : q_S), f_X2_all 7000 σ.1 σ.2.1 σ.2.2 p1 = some (r, σ') ∧ f_X3_all 7000 μ.1 μ.2.1 μ.2.2 p1 = some (r, μ') ∧ c_RR σ' μ' := by
  obtain ⟨N, K, cf, τ, L, hSt, hC⟩ := id h
  obtain ⟨s, a, g⟩ := σ
  obtain ⟨S, A, Gm⟩ := μ
  have h6 : s 6 = nI K := hC.1.2.1
  have h2 : S 2 = nI K := hC.2.1.2.1
  have hK2 := hSt.2.1
  have hK := hSt.2.2.1
  simp only
  unfold f_X2_all f_X3_all
  rcases pk_ix p1 (n := K) (by omega) with d | d | ⟨r, hr, rfl⟩
  · obtain ⟨x1, x2⟩ := isR_no a A g Gm h6 h2 hK hK2 (Or.inl d)
    rw [x1, x2]
    exact ⟨-2, _, _, rfl, rfl, h⟩
  · obtain ⟨x1, x2⟩ := isR_no a A g Gm h6 h2 hK hK2 (Or.inr d)
    rw [x1, x2]
    exact ⟨-2, _, _, rfl, rfl, h⟩
  · obtain ⟨x1, x2⟩ := isR_yes a A g Gm h6 h2 hK hr
    rw [x1, x2, q_ci_s, q_ci_s, if_neg (show ¬ (1 : Int32) = 0 by decide), if_neg (show ¬ (1 : Int32) = 0 by decide), startY, readyM, q_cv_s, q_cv_s]
    have h := all_lp hSt hr 200 0 0 6799 6798 (c_s0 s) a g (c_S0 S) A Gm (fun _ => 0) [] rfl (Nat.le_refl _) (Nat.zero_le _) (st_Cor hC) (by simp [c_S0, us_ne, us_eq])
    rw [nI_0] at h
    exact h
theorem pileM_lp {s : q_s} {a : q_a} {g : q_g} : ∀ (m x j T : Nat) (L : List Int64), m < L.length → j + m < 2 ^ 31 → T ≤ 3000 → q_PR g (a 9) (a 10) T L → f_X3_pile_lp (x + m + 1) s a g (nI (j + m)) (nI T) (nI j) = some (L.getD m 0, s, a, g) := by
  intro m
  induction m with
  | zero =>
    intro x j T L hm hj hT hp
    cases L with
    | nil => simp at hm
    | cons v L =>
      show f_X3_pile_lb _ s a g _ _ _ = _
      unfold f_X3_pile_lb
      rw [Nat.add_zero, if_pos Int32.le_rfl, q_ck_in (show T < 3001 by omega) (by decide), nI_clamp (by omega), PR_num hp]
      rfl
  | succ m ih =>
    intro x j T L hm hj hT hp
    cases L with
    | nil => simp at hm
    | cons v L =>
      obtain ⟨q, h1, h2, h3, h4, h5⟩ := hp
      have e := ih x (j + 1) q L (by simp at hm; omega) (by omega) (by omega) h5
      show f_X3_pile_lb _ s a g _ _ _ = _
      unfold f_X3_pile_lb
      rw [if_neg (fun z => by have := (nI_leI (show j + (m + 1) < 2 ^ 31 by omega) (show j < 2 ^ 31 by omega)).mp z; omega), q_ck_in (show T < 3001 by omega) (by decide), nI_clamp (by omega), h3, nI_1, show j + (m + 1) = j + 1 + m by omega]
      exact e
theorem r_pile {σ μ : q_S} (h : c_RR σ μ) (p1 : Int32) : ∃ (r : Int64) (σ' μ' : q_S), f_X2_pile 7000 σ.1 σ.2.1 σ.2.2 p1 = some (r, σ') ∧ f_X3_pile 7000 μ.1 μ.2.1 μ.2.2 p1 = some (r, μ') ∧ c_RR σ' μ' := by
  obtain ⟨N, K, cf, τ, L, hSt, hC⟩ := id h
  obtain ⟨s, a, g⟩ := σ
  obtain ⟨S, A, Gm⟩ := μ
  obtain ⟨d1, d2, d3, d4, d5, d6, d7⟩ := hC.2.2.1
  obtain ⟨m1, m2, m3, m4, m5, m6⟩ := hC.2.2.2.1
  have hb := hC.2.2.2.2.2.2.2.2.2.2
  simp only at d3 d6 d7 m3 m6
  have hl := q_PR_len L _ d7
  have hY := height_eq (s := s) (a := a) (g := g) d3 (by omega) d6 d7
  have hM := heightM (s := S) (a := A) (g := Gm) m3 (by omega) m6
  simp only
  rcases pk_ix p1 (n := L.length) (by omega) with c | c | ⟨m, c, rfl⟩
  · refine ⟨0, _, _, ?_, ?_, h⟩
    · unfold f_X2_pile f_X1_numberUnder
      rw [if_pos c]
      rfl
    · unfold f_X3_pile
      rw [hM, q_ci_s, inM_lo _ _ _ c]
      rfl
  · refine ⟨0, _, _, ?_, ?_, h⟩
    · unfold f_X2_pile f_X1_numberUnder
      rw [hY]
      by_cases c0 : p1 < 0
      · rw [if_pos c0]
        rfl
      · rw [if_neg c0, q_ci_s, if_neg (Int32.not_lt.mpr c)]
        rfl
    · unfold f_X3_pile
      rw [hM, q_ci_s]
      by_cases c0 : L.length = 0
      · rw [c0] at c ⊢
        rw [inM_hi _ _ _ (show nI 0 - 1 < p1 from Int32.lt_of_lt_of_le (by decide) c)]
        rfl
      · have e : nI L.length - 1 = nI (L.length - 1) := by
          have := nI_pred (L.length - 1)
          rw [show L.length - 1 + 1 = L.length by omega] at this
          exact this
        rw [e, inM_hi _ _ _ (le_pred (by omega) (by omega) c)]
        rfl
  · have e : nI L.length - 1 = nI (L.length - 1) := by
      have := nI_pred (L.length - 1)
      rw [show L.length - 1 + 1 = L.length by omega] at this
      exact this
    refine ⟨L.getD m 0, _, _, ?_, ?_, h⟩
    · unfold f_X2_pile
      rw [number_eq (n := 7000) (by omega) c d3 (by omega) d6 d7]
      rfl
    · unfold f_X3_pile
      rw [hM, q_ci_s, e, show f_X3_in S A Gm (nI m) 0 (nI (L.length - 1)) = some (1, S, A, Gm) from inM_yes (lo := 0) _ _ _ (by omega) (by omega) (by omega), q_ci_s, if_neg (show ¬ (1 : Int32) = 0 by decide), m3]
      have e2 := pileM_lp (s := S) (a := A) (g := Gm) m (7000 - m - 1) 0 (τ 5) L c (by omega) (by omega) m6
      rw [show 7000 - m - 1 + m + 1 = 7000 by omega, show 0 + m = m by omega, nI_0] at e2
      exact e2
theorem r_mark {σ μ : q_S} (h : c_RR σ μ) (p1 p2 : Int32) : ∃ (r : Int32) (σ' μ' : q_S), f_X2_mark σ.1 σ.2.1 σ.2.2 p1 p2 = some (r, σ') ∧ f_X3_mark μ.1 μ.2.1 μ.2.2 p1 p2 = some (r, μ') ∧ c_RR σ' μ' := by
  obtain ⟨N, K, cf, τ, L, hSt, hC⟩ := id h
  obtain ⟨s, a, g⟩ := σ
  obtain ⟨S, A, Gm⟩ := μ
  have d4 : s 33 = nI (τ 3) := hC.2.2.1.2.2.2.1
  have m4 : S 13 = nI (τ 3) := hC.2.2.2.1.2.2.2.1
  have hb := hC.2.2.2.2.2.2.2.2.2.2
  have hm := hC.2.2.2.2.2.2.2.2.2.1
  simp only at hm
  simp only
  unfold f_X2_mark f_X3_mark
  rcases pk_ix p2 (n := 3) (by decide) with c | c | ⟨w, c, rfl⟩
  · rw [if_pos c, inM_lo _ _ _ c]
    exact ⟨-2, _, _, rfl, rfl, h⟩
  · have b : (2 : Int32) < p2 := Int32.lt_of_lt_of_le (by decide) c
    rw [inM_hi _ _ _ b]
    by_cases c0 : p2 < 0
    · rw [if_pos c0]
      exact ⟨-2, _, _, rfl, rfl, h⟩
    · rw [if_neg c0, if_neg (Int32.not_le.mpr b)]
      exact ⟨-2, _, _, rfl, rfl, h⟩
  · have b1 : ¬ nI w < 0 := nI_pos (by omega)
    have b2 : nI w ≤ (2 : Int32) := nI_le (b := 2) (by omega) (by decide)
    rw [if_neg b1, if_pos b2, show f_X3_in S A Gm (nI w) 0 2 = some (1, S, A, Gm) from inM_yes (lo := 0) (n := 2) _ _ _ (by omega) (by omega) (by decide), q_ci_s, if_neg (show ¬ (1 : Int32) = 0 by decide), d4, m4]
    rcases pk_ix p1 (n := τ 3) (by omega) with e | e | ⟨i, e, rfl⟩
    · rw [if_pos e, inM_lo _ _ _ e]
      exact ⟨-1, _, _, rfl, rfl, h⟩
    · have e2 : nI (τ 3) - 1 < p1 := by
        by_cases c0 : τ 3 = 0
        · rw [c0] at e ⊢
          exact Int32.lt_of_lt_of_le (by decide) e
        · have e3 : nI (τ 3) - 1 = nI (τ 3 - 1) := by
            have := nI_pred (τ 3 - 1)
            rw [show τ 3 - 1 + 1 = τ 3 by omega] at this
            exact this
          rw [e3]
          exact le_pred (by omega) (by omega) e
      rw [inM_hi _ _ _ e2]
      by_cases c0 : p1 < 0
      · rw [if_pos c0]
        exact ⟨-1, _, _, rfl, rfl, h⟩
      · rw [if_neg c0, if_neg (Int32.not_lt.mpr e)]
        exact ⟨-1, _, _, rfl, rfl, h⟩
    · have e3 : nI (τ 3) - 1 = nI (τ 3 - 1) := by
        have := nI_pred (τ 3 - 1)
        rw [show τ 3 - 1 + 1 = τ 3 by omega] at this
        exact this
      have b3 : ¬ nI i < 0 := nI_pos (by omega)
      rw [if_neg b3, if_pos (nI_lt e (by omega)), e3, show f_X3_in S A Gm (nI i) 0 (nI (τ 3 - 1)) = some (1, S, A, Gm) from inM_yes (lo := 0) _ _ _ (by omega) (by omega) (by omega), q_ci_s, if_neg (show ¬ (1 : Int32) = 0 by decide)]
      obtain ⟨w1, w2, w3⟩ := hm i e
      simp only [q_ck_in (show i < 3000 by omega) (by decide), q_ck_in (show i < 3001 by omega) (by decide), nI_clamp (show i < 2 ^ 31 by omega), w1, w2, w3]
      by_cases f0 : nI w = 0
      · rw [if_pos f0, if_pos f0]
        exact ⟨_, _, _, rfl, rfl, h⟩
      · rw [if_neg f0, if_neg f0]
        by_cases f1 : nI w = 1
        · rw [if_pos f1, if_pos f1]
          exact ⟨_, _, _, rfl, rfl, h⟩
        · rw [if_neg f1, if_neg f1]
          exact ⟨_, _, _, rfl, rfl, h⟩
theorem r_count {σ μ : q_S} (h : c_RR σ μ) (p1 : Int32) : ∃ (r : Int32) (σ' μ' : q_S), f_X2_count σ.1 σ.2.1 σ.2.2 p1 = some (r, σ') ∧ f_X3_count μ.1 μ.2.1 μ.2.2 p1 = some (r, μ') ∧ c_RR σ' μ' := by
  obtain ⟨N, K, cf, τ, L, hSt, hC⟩ := id h
  obtain ⟨s, a, g⟩ := σ
  obtain ⟨S, A, Gm⟩ := μ
  obtain ⟨d1, d2, d3, d4, d5, d6, d7⟩ := hC.2.2.1
  obtain ⟨m1, m2, m3, m4, m5, m6⟩ := hC.2.2.2.1
  obtain ⟨x1, x2, x3, x4, x5, x6, hb⟩ := hC.2.2.2.2
  have h6 : s 6 = nI K := hC.1.2.1
  have h2 : S 2 = nI K := hC.2.1.2.1
  have y1 : s 1 = nI N := hC.1.1
  have n1 : S 1 = nI N := hC.2.1.1
  simp only at d1 d3 d4 d6 d7 m1 m3 m4 m6 x1 x2 x3 x4
  have hY := height_eq (s := s) (a := a) (g := g) d3 (by omega) d6 d7
  have hM := heightM (s := S) (a := A) (g := Gm) m3 (by omega) m6
  simp only
  unfold f_X2_count f_X3_count
  rw [hY, hM, q_ci_s, q_ci_s, y1, n1, h6, h2, d4, m4, d1, m1, x1, x2, x3, x4]
  refine ⟨if p1 = 0 then nI N else if p1 = 1 then nI K else if p1 = 2 then nI L.length else if p1 = 3 then nI (τ 3) else if p1 = 4 then nI (τ 0) else if p1 = 5 then S 33 else if p1 = 6 then S 32 else if p1 = 7 then S 34 else if p1 = 8 then S 35 else -2, (s, a, g), (S, A, Gm), ?_, ?_, h⟩
  · (repeat' split) <;> first | rfl | contradiction
  · (repeat' split) <;> first | rfl | contradiction
theorem r_began {σ μ : q_S} (h : c_RR σ μ) (p1 : Int32) : ∃ (r : Int32) (σ' μ' : q_S), f_X2_began σ.1 σ.2.1 σ.2.2 p1 = some (r, σ') ∧ f_X3_began μ.1 μ.2.1 μ.2.2 p1 = some (r, μ') ∧ c_RR σ' μ' := by
  obtain ⟨N, K, cf, τ, L, hSt, hC⟩ := id h
  obtain ⟨s, a, g⟩ := σ
  obtain ⟨S, A, Gm⟩ := μ
  have h6 : s 6 = nI K := hC.1.2.1
  have h2 : S 2 = nI K := hC.2.1.2.1
  have hK2 := hSt.2.1
  have hK := hSt.2.2.1
  simp only
  unfold f_X2_began f_X3_began
  rcases pk_ix p1 (n := K) (by omega) with d | d | ⟨r, hr, rfl⟩
  · obtain ⟨x1, x2⟩ := isR_no a A g Gm h6 h2 hK hK2 (Or.inl d)
    rw [x1, x2]
    exact ⟨-2, _, _, rfl, rfl, h⟩
  · obtain ⟨x1, x2⟩ := isR_no a A g Gm h6 h2 hK hK2 (Or.inr d)
    rw [x1, x2]
    exact ⟨-2, _, _, rfl, rfl, h⟩
  · obtain ⟨x1, x2⟩ := isR_yes a A g Gm h6 h2 hK hr
    have e : a 5 r = A 6 r := hC.2.2.2.2.2.2.2.2.1 r
    rw [x1, x2, q_ci_s, q_ci_s, if_neg (show ¬ (1 : Int32) = 0 by decide), if_neg (show ¬ (1 : Int32) = 0 by decide)]
    simp only [q_ck_in (show r < 50 by omega) (by decide), nI_clamp (show r < 2 ^ 31 by omega), e]
    exact ⟨_, _, _, rfl, rfl, h⟩

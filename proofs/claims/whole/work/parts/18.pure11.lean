/-! sort 6 -/
def c_kp (s : q_s) (a : q_a) (k : Nat) (v : Int32) : q_a := q_ua (q_ua (q_ua (q_ua a 26 k (s 12)) 27 k (s 11)) 28 k (s 13)) 19 k v
theorem kp_ne (s : q_s) (a : q_a) (k : Nat) (v : Int32) {i : Nat} (h1 : i ≠ 19) (h2 : i ≠ 26) (h3 : i ≠ 27) (h4 : i ≠ 28) : c_kp s a k v i = a i := by
  unfold c_kp
  rw [ua_ne _ _ _ h1, ua_ne _ _ _ h4, ua_ne _ _ _ h3, ua_ne _ _ _ h2]
theorem kp_col (s : q_s) (a : q_a) (k : Nat) (v : Int32) (i : Nat) {j : Nat} (h : j ≠ k) : c_kp s a k v i j = a i j := by
  unfold c_kp
  by_cases h1 : i = 19
  · subst h1; simp [ua_eq, ua_ne, up_ne, h]
  · rw [ua_ne _ _ _ h1]
    by_cases h2 : i = 28
    · subst h2; simp [ua_eq, ua_ne, up_ne, h]
    · rw [ua_ne _ _ _ h2]
      by_cases h3 : i = 27
      · subst h3; simp [ua_eq, ua_ne, up_ne, h]
      · rw [ua_ne _ _ _ h3]
        by_cases h4 : i = 26
        · subst h4; simp [ua_eq, ua_ne, up_ne, h]
        · rw [ua_ne _ _ _ h4]
theorem keepM {k : Nat} (hk : k < 150) (s : q_s) (a : q_a) (g : q_g) : f_X3_keep s a g (nI k) = some (s, q_ua (q_ua (q_ua a 26 k (s 12)) 27 k (s 11)) 28 k (s 13), g) := by
  unfold f_X3_keep
  simp only [q_ck_in hk (by decide), nI_clamp (show k < 2 ^ 31 by omega), q_bd_b]
section M6
variable {n N K k r place : Nat} {cf : Nat → Nat → Int32} {s : q_s} {a : q_a} {g : q_g}
theorem go0_6 (hSt : c_St N K cf) (hM : c_M N K cf (s, a, g)) (hk : k < 150) (hr : r < K) (h17 : s 17 = nI (k + 1)) (h18 : a 18 k = nI r) (h20 : a 20 k = nI place) (hty : cf 1 r = nI 6) (h19 : a 19 k = 0) : f_X3_goesOn n s a g = f_X3_begin s (c_kp s a k 1) g (cf 2 r) (nI place) := by
  have hr5 : r < 50 := Nat.lt_of_lt_of_le hr hSt.2.2.1
  obtain ⟨y1, y2, y3, y4, y5⟩ := id hM
  obtain ⟨e2, e3, e4⟩ := y4 r hr
  simp only at y1 y2 y5 e2 e3 e4
  rw [go_joins (ty := 6) hk h17 h18 hr5 (e2.trans hty) (by omega) (by omega)]
  unfold f_X3_joins
  simp only [q_ck_in hk (by decide), nI_clamp (show k < 2 ^ 31 by omega), q_ck_in hr5 (by decide), nI_clamp (show r < 2 ^ 31 by omega), e2, hty, h20, h19, q_cv_id, keepM hk, q_cv_s, asks_eq hk h17, if_true]
  rw [if_pos (show nI 6 = (6 : Int32) from rfl), ua_ne _ _ _ (show (4 : Nat) ≠ 28 by decide), ua_ne _ _ _ (show (4 : Nat) ≠ 27 by decide), ua_ne _ _ _ (show (4 : Nat) ≠ 26 by decide), ua_ne _ _ _ (show (19 : Nat) ≠ 28 by decide), ua_ne _ _ _ (show (19 : Nat) ≠ 27 by decide), ua_ne _ _ _ (show (19 : Nat) ≠ 26 by decide), e3, h19]
  rfl
theorem goN_6 {v : Nat} (hSt : c_St N K cf) (hM : c_M N K cf (s, a, g)) (hk : k < 150) (hr : r < K) (h17 : s 17 = nI (k + 1)) (h18 : a 18 k = nI r) (h20 : a 20 k = nI place) (hty : cf 1 r = nI 6) (h19 : a 19 k = nI v) (hv : 0 < v) (hv2 : v < 1000) (h29 : s 29 = -1 ∨ s 29 ≤ a 21 k) : f_X3_goesOn n s a g = f_X3_ends (q_us (q_us (q_us s 12 (a 26 k)) 11 (a 27 k)) 13 (a 28 k)) a g (a 21 k) := by
  have hr5 : r < 50 := Nat.lt_of_lt_of_le hr hSt.2.2.1
  obtain ⟨y1, y2, y3, y4, y5⟩ := id hM
  obtain ⟨e2, e3, e4⟩ := y4 r hr
  simp only at y1 y2 y5 e2 e3 e4
  have h0 : ¬ nI v = (0 : Int32) := nI_ne0 hv (by omega)
  rw [go_joins (ty := 6) hk h17 h18 hr5 (e2.trans hty) (by omega) (by omega)]
  unfold f_X3_joins f_X3_again
  simp only [q_ck_in hk (by decide), nI_clamp (show k < 2 ^ 31 by omega), q_ck_in hr5 (by decide), nI_clamp (show r < 2 ^ 31 by omega), e2, hty, h20, h19, if_neg h0, q_cv_id, q_bd_b]
  by_cases c : s 29 = -1
  · rw [if_pos c]
    rfl
  · have c2 : s 29 ≤ a 21 k := by rcases h29 with h | h; exact absurd h c; exact h
    rw [if_neg c]
    show (if s 29 ≤ a 21 k then _ else _) = _
    rw [if_pos c2]
theorem goN_6m {v : Nat} (hSt : c_St N K cf) (hM : c_M N K cf (s, a, g)) (hk : k < 150) (hr : r < K) (h17 : s 17 = nI (k + 1)) (h18 : a 18 k = nI r) (h20 : a 20 k = nI place) (hty : cf 1 r = nI 6) (h19 : a 19 k = nI v) (hv : 0 < v) (hv2 : v < 1000) (h29 : ¬ s 29 = -1) (h29' : ¬ s 29 ≤ a 21 k) : f_X3_goesOn n s a g = f_X3_begin s (c_kp s (q_ua a 21 k (s 29)) k (nI (v + 1))) g (cf 2 r) (s 29) := by
  have hr5 : r < 50 := Nat.lt_of_lt_of_le hr hSt.2.2.1
  obtain ⟨y1, y2, y3, y4, y5⟩ := id hM
  obtain ⟨e2, e3, e4⟩ := y4 r hr
  simp only at y1 y2 y5 e2 e3 e4
  have h0 : ¬ nI v = (0 : Int32) := nI_ne0 hv (by omega)
  rw [go_joins (ty := 6) hk h17 h18 hr5 (e2.trans hty) (by omega) (by omega)]
  unfold f_X3_joins f_X3_again
  simp only [q_ck_in hk (by decide), nI_clamp (show k < 2 ^ 31 by omega), q_ck_in hr5 (by decide), nI_clamp (show r < 2 ^ 31 by omega), e2, hty, h20, h19, if_neg h0, q_cv_id, q_bd_b, if_neg h29, keepM hk, q_cv_s, asks_eq hk h17]
  show (if s 29 ≤ a 21 k then _ else _) = _
  rw [if_neg h29']
  rw [ua_ne _ _ _ (show (4 : Nat) ≠ 28 by decide), ua_ne _ _ _ (show (4 : Nat) ≠ 27 by decide), ua_ne _ _ _ (show (4 : Nat) ≠ 26 by decide), ua_ne _ _ _ (show (4 : Nat) ≠ 21 by decide), ua_ne _ _ _ (show (19 : Nat) ≠ 28 by decide), ua_ne _ _ _ (show (19 : Nat) ≠ 27 by decide), ua_ne _ _ _ (show (19 : Nat) ≠ 26 by decide), ua_ne _ _ _ (show (19 : Nat) ≠ 21 by decide), ua_ne _ _ _ (show (21 : Nat) ≠ 28 by decide), ua_ne _ _ _ (show (21 : Nat) ≠ 27 by decide), ua_ne _ _ _ (show (21 : Nat) ≠ 26 by decide), ua_eq, up_eq, e3, h19, nI_1]
  rfl
end M6
section CASES
variable {n N K k r place o : Nat} {cf : Nat → Nat → Int32} {G : q_s → q_a → q_g → Int32 → Int32 → Int32 → Int32 → Option (Int32 × q_S)} {σ0 σ1 μ1 : q_S} {τ1 : Nat → Nat} {L1 : List Int64}
/-- the rounds: before round i, the reader to be read from place p; the reference is at m, and will begin it in (S, A, Gm) -/
theorem many_lp (X : c_X n N K cf k r place o G σ0 σ1 μ1 τ1 L1) (hty : cf 1 r = nI 6) {r2 : Nat} (r2K : r2 < K) (e2 : cf 2 r = nI r2) :
    ∀ (w i p v x j : Nat) (s : q_s) (a : q_a) (g : q_g) (S : q_s) (A : q_a) (Gm : q_g) (m : q_S) (τ : Nat → Nat) (L : List Int64) (x6 x7 : Int32), i + w = 200 → c_Cor N K cf (s, a, g) (S, A, Gm) τ L → c_F K cf (k + 1) (s, a, g) (S, A, Gm) → c_E 0 k σ1 μ1 τ1 (s, a, g) (S, A, Gm) τ →
      A 18 k = nI r → A 20 k = nI place → A 19 k = nI v → 0 < v → v ≤ i + 1 → A 21 k = nI p → A 26 k = nI (τ 5) → A 27 k = nI (τ 4) → A 28 k = nI (τ 3) → place ≤ p → p ≤ N → place + i ≤ p → c_R n j μ1 m → j ≤ 2 * (τ 0 - τ1 0) → m.1 17 = nI (k + 1) → m.1 30 = 0 → f_X3_goesOn n m.1 m.2.1 m.2.2 = f_X3_begin S A Gm (nI r2) (nI p) →
      c_Out 2 n N K cf k place σ1 μ1 τ1 L1 (f_X2_follow_lp G n (x + w + 1) s a g (nI r) (nI place) (nI (k + 1)) (nI o) x6 x7 (cf 2 r) (nI p) (nI i)) μ1 := by
  obtain ⟨s1, a1, g1⟩ := σ1
  obtain ⟨S1, A1, G1⟩ := μ1
  obtain ⟨hSt, hn, hk, hr, hp, ho, hb, hC1, hF1, ⟨k1, k2, k3, k4, k5⟩, h19, h21, h22, hlt, hIH⟩ := X
  simp only at k1 k2 k3 k4 k5 h19 h21 h22
  have hN := hSt.1
  have hr31 : r < 2 ^ 31 := by have := hSt.2.2.1; omega
  intro w
  induction w with
  | zero =>
    intro i p v x j s a g S A Gm m τ L x6 x7 hi hC hF hE q18 q20 q19 hv hv2 q21 q26 q27 q28 hp1 hp2 hp3 hR hj hm1 hm2 hg
    have ho' : o = c_nr cf (S, A, Gm) (k + 1) := by
      rw [ho]
      exact (nr_bump q18 hr31 (fun t ht => ⟨hE.2.2.2.2.2 18 (by decide) (by decide) (by decide) t ht, hE.2.2.2.2.2 19 (by decide) (by decide) (by decide) t ht⟩) (fun z => absurd (hty.symm.trans z.1) (by decide))).symm
    obtain ⟨res, s2, a2, g2, S2, A2, G2, τ2, L2, j2, x1, x2, x3, x4, x5⟩ := c_sub (m := m) (σ := (s, a, g)) hIH hk hm1 hm2 hC hF hg r2K hp2 ho'
    simp only at x1
    have d := hC.2.2.1
    have t24 : s 24 = nI (τ 2) := d.2.2.1
    have t33 : s 33 = nI (τ 3) := d.2.2.2.1
    have np := c_pl (show p ≤ 3000 by omega)
    show c_Out _ _ _ _ _ _ _ _ _ _ _ (f_X2_follow_lb G n (f_X2_follow_lp G n (x + 0)) s a g (nI r) (nI place) (nI (k + 1)) (nI o) x6 x7 (cf 2 r) (nI p) (nI i)) _
    unfold f_X2_follow_lb
    rw [if_neg (show ¬ (200 : Int32) < nI i from nI_nlt (a := 200) (by omega) (by decide)), e2, show nI (k + 1) + 1 = nI (k + 2) from nI_1 (k + 1), x1, q_ci_s]
    rcases x5 with ⟨φ, p1, p2, p3, p4, p5⟩ | ⟨p1, p2, p3, p4, p7⟩
    · rw [p3, isF_flt p1 p2, q_ci_s, if_neg (by decide)]
      exact fin_flt p1 p2 x3 (by have := hE.1; omega) (c_R_trans hR x2) p4 (by have := hE.1; omega) rfl
    · have v18 := (p1.2.2.2.2.2 18 (by decide) (by decide) (by decide) k (by omega)).trans q18
      have v20 := (p1.2.2.2.2.2 20 (by decide) (by decide) (by decide) k (by omega)).trans q20
      have v19 := (p1.2.2.2.2.2 19 (by decide) (by decide) (by decide) k (by omega)).trans q19
      have v21 := (p1.2.2.2.2.2 21 (by decide) (by decide) (by decide) k (by omega)).trans q21
      have v26 := (p1.2.2.2.2.2 26 (by decide) (by decide) (by decide) k (by omega)).trans q26
      have v27 := (p1.2.2.2.2.2 27 (by decide) (by decide) (by decide) k (by omega)).trans q27
      have v28 := (p1.2.2.2.2.2 28 (by decide) (by decide) (by decide) k (by omega)).trans q28
      simp only at v18 v20 v19 v21 v26 v27 v28
      have hb1 := hE.1
      have hb2 := p1.1
      have stop : (res = -1 ∨ ∃ q : Nat, res = nI q ∧ q ≤ p) → c_Out 2 n N K cf k place (s1, a1, g1) (S1, A1, G1) τ1 L1 (some (nI p, q_us (q_us s2 24 (nI (τ 2))) 33 (nI (τ 3)), a2, g2)) (S1, A1, G1) := by
        intro hs
        have hg2 := goN_6 (n := n) hSt x3.2.1 hk hr p2.1 v18 v20 hty v19 hv (by omega) (by
          rcases hs with hs | ⟨q, hs, hq⟩
          · exact Or.inl (p3.trans hs)
          · exact Or.inr (by rw [p3, hs, v21]; exact nI_le hq (by omega)))
        rw [v21] at hg2
        obtain ⟨hC3, hE3⟩ := tb_Cor hC x3 (c_E_weak (k := k) p1 (by omega)) (q_us (q_us (q_us S2 12 (A2 26 k)) 11 (A2 27 k)) 13 (A2 28 k)) (by simp [us_ne]) (by simp [us_ne]) (by simp [us_ne]) (by simp [us_ne]) (by simp [us_ne]) (by simp [us_ne]) (by simp [us_ne]) (by simp [us_ne, us_eq, v27]) (by simp [us_ne, us_eq, v26]) (by simp [us_ne, us_eq, v28])
        have ht : (q_tb τ τ2) 0 = τ2 0 := by simp [q_tb]
        refine fin_ok2 hN hk hC3 ?_ (c_E_b (c_E_trans hE hE3) (by omega)) p2.1 p2.2.1 (c_R_trans hR x2) (by rw [ht]; omega) hg2 hp1 hp2 rfl
        obtain ⟨f1, f2, f3, f4⟩ := p2
        exact ⟨by simpa [us_ne] using f1, by simpa [us_ne] using f2, f3, f4⟩
      rcases p7 with ⟨w1, -⟩ | ⟨q, w1, w2, w3⟩
      · rw [w1, isF_no, q_ci_s, if_pos rfl, if_neg (show ¬ nI p < (-1 : Int32) from fun z => np.2.1 (Int32.lt_trans z (by decide))), tbY, q_cv_s, if_neg np.1, t24, t33]
        exact stop (Or.inl w1)
      · rw [w1, isF_ok (show q ≤ 3000 by omega), q_ci_s, if_pos rfl]
        by_cases c : p < q
        · exfalso
          omega
        · rw [if_neg (nI_nlt (by omega) (by omega)), tbY, q_cv_s, if_neg np.1, t24, t33]
          exact stop (Or.inr ⟨q, w1, by omega⟩)
  | succ w ih =>
    intro i p v x j s a g S A Gm m τ L x6 x7 hi hC hF hE q18 q20 q19 hv hv2 q21 q26 q27 q28 hp1 hp2 hp3 hR hj hm1 hm2 hg
    have ho' : o = c_nr cf (S, A, Gm) (k + 1) := by
      rw [ho]
      exact (nr_bump q18 hr31 (fun t ht => ⟨hE.2.2.2.2.2 18 (by decide) (by decide) (by decide) t ht, hE.2.2.2.2.2 19 (by decide) (by decide) (by decide) t ht⟩) (fun z => absurd (hty.symm.trans z.1) (by decide))).symm
    obtain ⟨res, s2, a2, g2, S2, A2, G2, τ2, L2, j2, x1, x2, x3, x4, x5⟩ := c_sub (m := m) (σ := (s, a, g)) hIH hk hm1 hm2 hC hF hg r2K hp2 ho'
    simp only at x1
    have d := hC.2.2.1
    have t24 : s 24 = nI (τ 2) := d.2.2.1
    have t33 : s 33 = nI (τ 3) := d.2.2.2.1
    have np := c_pl (show p ≤ 3000 by omega)
    show c_Out _ _ _ _ _ _ _ _ _ _ _ (f_X2_follow_lb G n (f_X2_follow_lp G n (x + (w + 1))) s a g (nI r) (nI place) (nI (k + 1)) (nI o) x6 x7 (cf 2 r) (nI p) (nI i)) _
    unfold f_X2_follow_lb
    rw [if_neg (show ¬ (200 : Int32) < nI i from nI_nlt (a := 200) (by omega) (by decide)), e2, show nI (k + 1) + 1 = nI (k + 2) from nI_1 (k + 1), x1, q_ci_s]
    rcases x5 with ⟨φ, p1, p2, p3, p4, p5⟩ | ⟨p1, p2, p3, p4, p7⟩
    · rw [p3, isF_flt p1 p2, q_ci_s, if_neg (by decide)]
      exact fin_flt p1 p2 x3 (by have := hE.1; omega) (c_R_trans hR x2) p4 (by have := hE.1; omega) rfl
    · have v18 := (p1.2.2.2.2.2 18 (by decide) (by decide) (by decide) k (by omega)).trans q18
      have v20 := (p1.2.2.2.2.2 20 (by decide) (by decide) (by decide) k (by omega)).trans q20
      have v19 := (p1.2.2.2.2.2 19 (by decide) (by decide) (by decide) k (by omega)).trans q19
      have v21 := (p1.2.2.2.2.2 21 (by decide) (by decide) (by decide) k (by omega)).trans q21
      have v26 := (p1.2.2.2.2.2 26 (by decide) (by decide) (by decide) k (by omega)).trans q26
      have v27 := (p1.2.2.2.2.2 27 (by decide) (by decide) (by decide) k (by omega)).trans q27
      have v28 := (p1.2.2.2.2.2 28 (by decide) (by decide) (by decide) k (by omega)).trans q28
      simp only at v18 v20 v19 v21 v26 v27 v28
      have hb1 := hE.1
      have hb2 := p1.1
      have stop : (res = -1 ∨ ∃ q : Nat, res = nI q ∧ q ≤ p) → c_Out 2 n N K cf k place (s1, a1, g1) (S1, A1, G1) τ1 L1 (some (nI p, q_us (q_us s2 24 (nI (τ 2))) 33 (nI (τ 3)), a2, g2)) (S1, A1, G1) := by
        intro hs
        have hg2 := goN_6 (n := n) hSt x3.2.1 hk hr p2.1 v18 v20 hty v19 hv (by omega) (by
          rcases hs with hs | ⟨q, hs, hq⟩
          · exact Or.inl (p3.trans hs)
          · exact Or.inr (by rw [p3, hs, v21]; exact nI_le hq (by omega)))
        rw [v21] at hg2
        obtain ⟨hC3, hE3⟩ := tb_Cor hC x3 (c_E_weak (k := k) p1 (by omega)) (q_us (q_us (q_us S2 12 (A2 26 k)) 11 (A2 27 k)) 13 (A2 28 k)) (by simp [us_ne]) (by simp [us_ne]) (by simp [us_ne]) (by simp [us_ne]) (by simp [us_ne]) (by simp [us_ne]) (by simp [us_ne]) (by simp [us_ne, us_eq, v27]) (by simp [us_ne, us_eq, v26]) (by simp [us_ne, us_eq, v28])
        have ht : (q_tb τ τ2) 0 = τ2 0 := by simp [q_tb]
        refine fin_ok2 hN hk hC3 ?_ (c_E_b (c_E_trans hE hE3) (by omega)) p2.1 p2.2.1 (c_R_trans hR x2) (by rw [ht]; omega) hg2 hp1 hp2 rfl
        obtain ⟨f1, f2, f3, f4⟩ := p2
        exact ⟨by simpa [us_ne] using f1, by simpa [us_ne] using f2, f3, f4⟩
      rcases p7 with ⟨w1, -⟩ | ⟨q, w1, w2, w3⟩
      · rw [w1, isF_no, q_ci_s, if_pos rfl, if_neg (show ¬ nI p < (-1 : Int32) from fun z => np.2.1 (Int32.lt_trans z (by decide))), tbY, q_cv_s, if_neg np.1, t24, t33]
        exact stop (Or.inl w1)
      · rw [w1, isF_ok (show q ≤ 3000 by omega), q_ci_s, if_pos rfl]
        by_cases c : p < q
        · rw [if_pos (nI_lt c (by omega)), ← e2, nI_1]
          have nq := c_pl (show q ≤ 3000 by omega)
          have hg2 := goN_6m (n := n) hSt x3.2.1 hk hr p2.1 v18 v20 hty v19 hv (by omega) (by rw [p3, w1]; exact nq.1) (by rw [p3, w1, v21]; exact fun z => by have := (nI_leI (show q < 2 ^ 31 by omega) (show p < 2 ^ 31 by omega)).mp z; omega)
          rw [p3, w1, e2] at hg2
          have hrow : ∀ t, t < 18 → c_kp S2 (q_ua A2 21 k (nI q)) k (nI (v + 1)) t = A2 t := fun t ht => (kp_ne _ _ _ _ (by omega) (by omega) (by omega) (by omega)).trans (ua_ne _ _ _ (by omega))
          have hcol : ∀ t u, u ≠ k → c_kp S2 (q_ua A2 21 k (nI q)) k (nI (v + 1)) t u = A2 t u := fun t u hu => (kp_col _ _ _ _ _ hu).trans (by
            by_cases h : t = 21
            · subst h; simp [ua_eq, up_ne, hu]
            · rw [ua_ne _ _ _ h])
          have r18 : c_kp S2 (q_ua A2 21 k (nI q)) k (nI (v + 1)) 18 = A2 18 := (kp_ne _ _ _ _ (by decide) (by decide) (by decide) (by decide)).trans (ua_ne _ _ _ (by decide))
          have r22 : c_kp S2 (q_ua A2 21 k (nI q)) k (nI (v + 1)) 22 = A2 22 := (kp_ne _ _ _ _ (by decide) (by decide) (by decide) (by decide)).trans (ua_ne _ _ _ (by decide))
          have r20 : c_kp S2 (q_ua A2 21 k (nI q)) k (nI (v + 1)) 20 = A2 20 := (kp_ne _ _ _ _ (by decide) (by decide) (by decide) (by decide)).trans (ua_ne _ _ _ (by decide))
          refine ih (i + 1) q (v + 1) x (j + j2) s2 a2 g2 S2 (c_kp S2 (q_ua A2 21 k (nI q)) k (nI (v + 1))) G2 (S2, A2, G2) τ2 L2 _ _ (by omega) (c_Cor_A x3 hrow) ?_ ?_ (by rw [r18]; exact v18) (by rw [r20]; exact v20) (by simp [c_kp, ua_eq, up_eq]) (by omega) (by omega) ?_ ?_ ?_ ?_ (by omega) w3 (by omega) (c_R_trans hR x2) (by omega) p2.1 p2.2.1 hg2
          · exact F_bump p2 r18 (fun t ht => hcol 19 t (by omega)) r22 v18 hr31 (fun z => absurd (hty.symm.trans z) (by decide))
          · exact c_E_trans (c_E_trans hE (c_E_weak p1 (by omega))) (E_bump (σ := (s2, a2, g2)) (σ' := (s2, a2, g2)) rfl (fun _ _ => rfl) hrow (fun t u _ hu => hcol t u (by omega)))
          · rw [kp_ne _ _ _ _ (by decide) (by decide) (by decide) (by decide)]
            simp [ua_eq, up_eq]
          · have e := x3.2.2.2.1.2.2.1
            simp only at e
            simp [c_kp, ua_ne, ua_eq, up_eq, e]
          · have e := x3.2.2.2.1.2.1
            simp only at e
            simp [c_kp, ua_ne, ua_eq, up_eq, e]
          · have e := x3.2.2.2.1.2.2.2.1
            simp only at e
            simp [c_kp, ua_ne, ua_eq, up_eq, e]
        · rw [if_neg (nI_nlt (by omega) (by omega)), tbY, q_cv_s, if_neg np.1, t24, t33]
          exact stop (Or.inr ⟨q, w1, by omega⟩)
theorem case_6 (X : c_X n N K cf k r place o G σ0 σ1 μ1 τ1 L1) (hty : cf 1 r = nI 6) : c_Out 2 n N K cf k place σ1 μ1 τ1 L1 (f_X2_follow_bd G n σ0.1 σ0.2.1 σ0.2.2 (nI r) (nI place) (nI (k + 1)) (nI o)) μ1 := by
  have X0 := X
  obtain ⟨s1, a1, g1⟩ := σ1
  obtain ⟨S1, A1, G1⟩ := μ1
  obtain ⟨hSt, hn, hk, hr, hp, ho, hb, hC1, hF1, ⟨k1, k2, k3, k4, k5⟩, h19, h21, h22, hlt, hIH⟩ := X
  simp only at k1 k2 k3 k4 k5 h19 h21 h22
  have hN := hSt.1
  have hr31 : r < 2 ^ 31 := by have := hSt.2.2.1; omega
  obtain ⟨r2, r2K, e2⟩ := (ty_of hSt hr (by decide) hty).1 (by omega)
  rw [bd_6 (n := n) (place := place) (o := o) (G := G) hSt hb hC1.1 hr hty]
  have hg0 := go0_6 (n := n) hSt hC1.2.1 hk hr hF1.1 k1 k2 hty h19
  rw [e2] at hg0
  have hrow : ∀ t, t < 18 → c_kp S1 A1 k 1 t = A1 t := fun t ht => kp_ne _ _ _ _ (by omega) (by omega) (by omega) (by omega)
  have r18 : c_kp S1 A1 k 1 18 = A1 18 := kp_ne _ _ _ _ (by decide) (by decide) (by decide) (by decide)
  have r20 : c_kp S1 A1 k 1 20 = A1 20 := kp_ne _ _ _ _ (by decide) (by decide) (by decide) (by decide)
  have r21 : c_kp S1 A1 k 1 21 = A1 21 := kp_ne _ _ _ _ (by decide) (by decide) (by decide) (by decide)
  have r22 : c_kp S1 A1 k 1 22 = A1 22 := kp_ne _ _ _ _ (by decide) (by decide) (by decide) (by decide)
  have e12 := hC1.2.2.2.1.2.2.1
  have e11 := hC1.2.2.2.1.2.1
  have e13 := hC1.2.2.2.1.2.2.2.1
  simp only at e12 e11 e13
  have h := many_lp X0 hty r2K e2 200 0 place 1 (n - 201) 0 s1 a1 g1 S1 (c_kp S1 A1 k 1) G1 (S1, A1, G1) τ1 L1 (s1 24) (s1 33) rfl (c_Cor_A hC1 hrow) (F_bump hF1 r18 (fun t ht => kp_col _ _ _ _ _ (by omega)) r22 k1 hr31 (fun z => absurd (hty.symm.trans z) (by decide))) (E_bump (σ := (s1, a1, g1)) (σ' := (s1, a1, g1)) rfl (fun _ _ => rfl) hrow (fun t u _ hu => kp_col _ _ _ _ _ (by omega))) (by rw [r18]; exact k1) (by rw [r20]; exact k2) (by simp [c_kp, ua_eq, up_eq]; rfl) (by omega) (by omega) (by rw [r21]; exact h21) (by simp [c_kp, ua_ne, ua_eq, up_eq, e12]) (by simp [c_kp, ua_ne, ua_eq, up_eq, e11]) (by simp [c_kp, ua_ne, ua_eq, up_eq, e13]) (Nat.le_refl _) hp (by omega) (c_R_refl _ _) (by omega) hF1.1 hF1.2.1 hg0
  rw [show n - 201 + 200 + 1 = n by omega, nI_0] at h
  exact h
end CASES

/-! sorts 5, 7 to 11 -/
theorem F_8 {K k : Nat} {cf : Nat → Nat → Int32} {s : q_s} {a : q_a} {g : q_g} {μ : q_S} {v : Int32} (hF : c_F K cf (k + 1) (s, a, g) μ) (h19 : μ.2.1 19 k = 0) : c_F K cf (k + 1) (s, q_ua a 8 (k + 1) v, g) μ := by
  obtain ⟨f1, f2, f3, f4⟩ := hF
  refine ⟨f1, f2, f3, fun j hj ho => ?_⟩
  by_cases c : j = k
  · subst c
    have := ho.2
    rw [h19] at this
    exact absurd this (by decide)
  · have e := f4 j hj ho
    simpa [ua_eq, up_ne, c] using e
theorem us_tb (s : q_s) (x y : Int32) : q_us (q_us (q_us (q_us s 24 x) 33 y) 24 x) 33 y = q_us (q_us s 24 x) 33 y := by
  funext i
  by_cases h1 : i = 33
  · subst h1; simp [us_eq]
  · by_cases h2 : i = 24
    · subst h2; simp [us_eq, us_ne]
    · simp [us_ne, h1, h2]
theorem isF_flt {φ : Nat} (h1 : 1 ≤ φ) (h2 : φ ≤ 5) (s : q_s) (a : q_a) (g : q_g) : f_X2_isFault s a g (-10 - nI φ) = some (1, s, a, g) := if_neg (c_flt h1 h2).2.2.1
theorem isF_no (s : q_s) (a : q_a) (g : q_g) : f_X2_isFault s a g (-1) = some (0, s, a, g) := rfl
theorem isF_ok {q : Nat} (h : q ≤ 3000) (s : q_s) (a : q_a) (g : q_g) : f_X2_isFault s a g (nI q) = some (0, s, a, g) := if_pos (c_pl h).2.2.1
theorem turn_flt {φ : Nat} (h1 : 1 ≤ φ) (h2 : φ ≤ 5) (s : q_s) (a : q_a) (g : q_g) (x y z w : Int32) : f_X2_turn s a g x y (-10 - nI φ) z w = some (-10 - nI φ, s, a, g) := by
  unfold f_X2_turn
  rw [isF_flt h1 h2, q_ci_s]
  rfl
theorem turn_7n {r : Nat} (hr : r < 50) (s : q_s) (a : q_a) (g : q_g) (h : a 2 r = 7) (y z w : Int32) : f_X2_turn s a g (nI r) y (-1) z w = some (y, s, a, g) := by
  unfold f_X2_turn
  rw [isF_no, q_ci_s]
  simp only [if_true, q_ck_in hr (by decide), nI_clamp (show r < 2 ^ 31 by omega), h]
theorem turn_7y {r q : Nat} (hr : r < 50) (hq : q ≤ 3000) (s : q_s) (a : q_a) (g : q_g) (h : a 2 r = 7) (y z w : Int32) : f_X2_turn s a g (nI r) y (nI q) z w = some (nI q, s, a, g) := by
  unfold f_X2_turn
  rw [isF_ok hq, q_ci_s]
  simp only [if_true, q_ck_in hr (by decide), nI_clamp (show r < 2 ^ 31 by omega), h, if_neg (c_pl hq).1]
theorem turn_8n {r : Nat} (hr : r < 50) (s : q_s) (a : q_a) (g : q_g) (h : a 2 r = 8) (y z w : Int32) : f_X2_turn s a g (nI r) y (-1) z w = some (y, s, a, g) := by
  unfold f_X2_turn
  rw [isF_no, q_ci_s]
  simp only [if_true, q_ck_in hr (by decide), nI_clamp (show r < 2 ^ 31 by omega), h]
  rfl
theorem turn_8y {r q : Nat} (hr : r < 50) (hq : q ≤ 3000) (s : q_s) (a : q_a) (g : q_g) (h : a 2 r = 8) (y z w : Int32) : f_X2_turn s a g (nI r) y (nI q) z w = some (-1, s, a, g) := by
  unfold f_X2_turn
  rw [isF_ok hq, q_ci_s]
  simp only [if_true, q_ck_in hr (by decide), nI_clamp (show r < 2 ^ 31 by omega), h, if_neg (c_pl hq).1]
  rfl
theorem turn_9n {r : Nat} (hr : r < 50) (s : q_s) (a : q_a) (g : q_g) (h : a 2 r = 9) (y z w : Int32) : f_X2_turn s a g (nI r) y (-1) z w = some (-1, q_us (q_us s 24 z) 33 w, a, g) := by
  unfold f_X2_turn
  rw [isF_no, q_ci_s]
  simp only [if_true, q_ck_in hr (by decide), nI_clamp (show r < 2 ^ 31 by omega), h, tbY, q_cv_s]
  rfl
theorem turn_9y {r q : Nat} (hr : r < 50) (hq : q ≤ 3000) (s : q_s) (a : q_a) (g : q_g) (h : a 2 r = 9) (y z w : Int32) : f_X2_turn s a g (nI r) y (nI q) z w = some (y, q_us (q_us s 24 z) 33 w, a, g) := by
  unfold f_X2_turn
  rw [isF_ok hq, q_ci_s]
  simp only [if_true, q_ck_in hr (by decide), nI_clamp (show r < 2 ^ 31 by omega), h, tbY, q_cv_s, if_neg (c_pl hq).1]
  rfl
theorem turn_11n {r : Nat} (hr : r < 50) (s : q_s) (a : q_a) (g : q_g) (h : a 2 r = 11) (y z w : Int32) : f_X2_turn s a g (nI r) y (-1) z w = some (-1, s, a, g) := by
  unfold f_X2_turn
  rw [isF_no, q_ci_s]
  simp only [if_true, q_ck_in hr (by decide), nI_clamp (show r < 2 ^ 31 by omega), h]
  rfl
theorem turn_11y {r q c : Nat} (hr : r < 50) (hq : q ≤ 3000) (s : q_s) (a : q_a) (g : q_g) (h : a 2 r = 11) (h33 : s 33 = nI c) (hc : c < 3000) (y z w : Int32) : f_X2_turn s a g (nI r) y (nI q) z w = some (nI q, q_us s 33 (nI (c + 1)), q_ua (q_ua (q_ua a 30 c (a 4 r)) 31 c y) 32 c (nI q), g) := by
  have c1 : nI c < (3000 : Int32) := nI_lt (b := 3000) hc (by decide)
  unfold f_X2_turn f_X0_add
  rw [isF_ok hq, q_ci_s]
  simp only [if_true, q_ck_in hr (by decide), nI_clamp (show r < 2 ^ 31 by omega), h, if_neg (c_pl hq).1, h33, if_pos c1, q_ck_in hc (by decide), nI_clamp (show c < 2 ^ 31 by omega), q_bd_b, nI_1, q_cv_s]
  rfl
/-- a mark more on both sides -/
theorem mk_Cor {N K k : Nat} {cf : Nat → Nat → Int32} {σ1 μ1 : q_S} {τ1 : Nat → Nat} {s2 : q_s} {a2 : q_a} {g2 : q_g} {S2 : q_s} {A2 : q_a} {G2 : q_g} {τ2 : Nat → Nat} {L2 : List Int64} {v x y : Int32} (hC2 : c_Cor N K cf (s2, a2, g2) (S2, A2, G2) τ2 L2) (hE : c_E 0 k σ1 μ1 τ1 (s2, a2, g2) (S2, A2, G2) τ2) (hlt : τ2 3 < τ2 0) :
    c_Cor N K cf (q_us s2 33 (nI (τ2 3 + 1)), q_ua (q_ua (q_ua a2 30 (τ2 3) v) 31 (τ2 3) x) 32 (τ2 3) y, g2) (q_us S2 13 (nI (τ2 3 + 1)), q_ua (q_ua (q_ua A2 14 (τ2 3) v) 15 (τ2 3) x) 16 (τ2 3) y, G2) (q_ut τ2 3 (τ2 3 + 1)) L2 ∧
    c_E 2 k σ1 μ1 τ1 (q_us s2 33 (nI (τ2 3 + 1)), q_ua (q_ua (q_ua a2 30 (τ2 3) v) 31 (τ2 3) x) 32 (τ2 3) y, g2) (q_us S2 13 (nI (τ2 3 + 1)), q_ua (q_ua (q_ua A2 14 (τ2 3) v) 15 (τ2 3) x) 16 (τ2 3) y, G2) (q_ut τ2 3 (τ2 3 + 1)) := by
  obtain ⟨hY, hM, hDY, hDM, hCO⟩ := hC2
  obtain ⟨e0, e1, e2, e3, e4, e5⟩ := hE
  refine ⟨⟨?_, ?_, ?_, ?_, ?_⟩, ?_, ?_, ?_, ?_, ?_, ?_⟩
  · simpa [c_Y, us_ne, ua_ne] using hY
  · simpa [c_M, us_ne, ua_ne] using hM
  · obtain ⟨h1, h2, h3, h4, h5⟩ := hDY
    exact ⟨by simpa [us_ne, q_ut] using h1, by simpa [us_ne, q_ut] using h2, by simpa [us_ne, q_ut] using h3, by simp [us_eq, q_ut], by simpa [us_ne, ua_ne, q_ut] using h5⟩
  · obtain ⟨h1, h2, h3, h4, h5⟩ := hDM
    exact ⟨by simpa [us_ne, q_ut] using h1, by simpa [us_ne, q_ut] using h2, by simpa [us_ne, q_ut] using h3, by simp [us_eq, q_ut], by simpa [us_ne, ua_ne, q_ut] using h5⟩
  · obtain ⟨x1, x2, x3, x4, x5, x6, x7⟩ := hCO
    simp only at x1 x2 x3 x4 x5 x6
    refine ⟨by simpa [us_ne] using x1, by simpa [us_ne] using x2, by simpa [us_ne] using x3, by simpa [us_ne] using x4, by simpa [ua_ne] using x5, fun i hi => ?_, ?_⟩
    · have hi : i < τ2 3 + 1 := by simpa [q_ut] using hi
      by_cases c : i = τ2 3
      · subst c
        simp [ua_ne, ua_eq, up_eq]
      · have := x6 i (by omega)
        simpa [ua_ne, ua_eq, up_ne, c] using this
    · simp only [q_ut]
      simp
      omega
  · simp only [q_ut]
    simp
    omega
  · simpa [ua_ne] using e1
  · simpa [ua_ne] using e2
  · intro i hi
    have := e3 i hi
    simpa [ua_ne, ua_eq, up_ne, show i ≠ τ2 3 by omega] using this
  · intro i hi
    have := e4 i hi
    simpa [ua_ne, ua_eq, up_ne, show i ≠ τ2 3 by omega] using this
  · intro i h1 h2 h3 j hj
    have := e5 i h1 h2 h3 j hj
    simpa [ua_ne, show i ≠ 14 by omega, show i ≠ 15 by omega, show i ≠ 16 by omega] using this
section CASES
variable {n N K k r place o : Nat} {cf : Nat → Nat → Int32} {G : q_s → q_a → q_g → Int32 → Int32 → Int32 → Int32 → Option (Int32 × q_S)} {σ0 σ1 μ1 : q_S} {τ1 : Nat → Nat} {L1 : List Int64}
theorem case_5 (X : c_X n N K cf k r place o G σ0 σ1 μ1 τ1 L1) (hty : cf 1 r = nI 5) : c_Out 2 n N K cf k place σ1 μ1 τ1 L1 (f_X2_follow_bd G n σ0.1 σ0.2.1 σ0.2.2 (nI r) (nI place) (nI (k + 1)) (nI o)) μ1 := by
  obtain ⟨s1, a1, g1⟩ := σ1
  obtain ⟨S1, A1, G1⟩ := μ1
  obtain ⟨hSt, hn, hk, hr, hp, ho, hb, hC1, hF1, ⟨k1, k2, k3, k4, k5⟩, h19, h21, h22, hlt, hIH⟩ := X
  simp only at k1 k2 k3 k4 k5 h19 h21 h22
  have hN := hSt.1
  have hr31 : r < 2 ^ 31 := by have := hSt.2.2.1; omega
  have hr5 : r < 50 := Nat.lt_of_lt_of_le hr hSt.2.2.1
  have d1 := hC1.2.2.1
  have t24 : s1 24 = nI (τ1 2) := d1.2.2.1
  have t33 : s1 33 = nI (τ1 3) := d1.2.2.2.1
  obtain ⟨r2, r2K, e2⟩ := (ty_of hSt hr (by decide) hty).1 (by omega)
  obtain ⟨r3, r3K, e3⟩ := (ty_of hSt hr (by decide) hty).2.1 (by omega)
  have hy := bd_5 (n := n) (place := place) (o := o) (G := G) hSt hb hC1.1 hr hty hk
  rw [hy, e2]
  have hC' := c_Cor_A (A' := q_ua A1 19 k 1) (c_Cor_8 (k + 1) 0 hC1) (fun i hi => ua_ne _ _ _ (by omega))
  have hF' : c_F K cf (k + 1) (s1, q_ua a1 8 (k + 1) 0, g1) (S1, q_ua A1 19 k 1, G1) := F_bump (F_8 hF1 h19) (ua_ne _ _ _ (by decide)) (fun j hj => by simp [ua_eq, up_ne, show j ≠ k by omega]) (ua_ne _ _ _ (by decide)) k1 hr31 (fun _ _ => by simp [ua_eq, up_eq, h22])
  have ho' : k + 1 = c_nr cf (S1, q_ua A1 19 k 1, G1) (k + 1) := (nr_or (by rw [ua_ne _ _ _ (by decide)]; exact k1) hr31 hty (by simp [ua_eq, up_eq])).symm
  have hg0 : f_X3_goesOn n S1 A1 G1 = f_X3_begin S1 (q_ua A1 19 k 1) G1 (nI r2) (nI place) := by rw [go0_j hSt hC1.2.1 hk hr hF1.1 k1 k2 hty (by omega) h19, e2]
  obtain ⟨res, s2, a2, g2, S2, A2, G2, τ2, L2, j, x1, x2, x3, x4, x5⟩ := c_sub (m := (S1, A1, G1)) hIH hk hF1.1 hF1.2.1 hC' hF' hg0 r2K hp ho'
  simp only at x1
  rw [x1, q_ci_s]
  rcases x5 with ⟨φ, p1, p2, p3, p4, p5⟩ | ⟨p1, p2, p3, p4, p7⟩
  · rw [p3, if_neg (c_flt p1 p2).1, af_ok _ (c_flt p1 p2).1]
    exact fin_flt p1 p2 x3 x4 x2 p4 (by omega) rfl
  · have pE : c_E 0 k (s1, a1, g1) (S1, A1, G1) τ1 (s2, a2, g2) (S2, A2, G2) τ2 := c_E_trans (E_bump (σ := (s1, a1, g1)) (σ' := (s1, q_ua a1 8 (k + 1) 0, g1)) (S' := S1) (A' := q_ua A1 19 k 1) rfl (fun i hi => ua_ne _ _ _ (by omega)) (fun i hi => ua_ne _ _ _ (by omega)) (fun i j h1 h2 => by
      by_cases c : i = 19
      · subst c; simp [ua_eq, up_ne, show j ≠ k by omega]
      · rw [ua_ne _ _ _ c])) (c_E_weak p1 (by omega))
    have p5 : A2 19 k = 1 := by
      have := p1.2.2.2.2.2 19 (by decide) (by decide) (by decide) k (by omega)
      simpa [ua_eq, up_eq] using this
    have p6 : ∀ i, 18 ≤ i → i ≤ 28 → i ≠ 22 → i ≠ 19 → A2 i k = A1 i k := fun i h1 h2 h3 h4 => by
      have := p1.2.2.2.2.2 i h1 h2 h3 k (by omega)
      simpa [ua_ne _ _ _ h4] using this
    have q18 := (p6 18 (by decide) (by decide) (by decide) (by decide)).trans k1
    have q20 := (p6 20 (by decide) (by decide) (by decide) (by decide)).trans k2
    have q23 := (p6 23 (by decide) (by decide) (by decide) (by decide)).trans k3
    have q24 := (p6 24 (by decide) (by decide) (by decide) (by decide)).trans k4
    have q25 := (p6 25 (by decide) (by decide) (by decide) (by decide)).trans k5
    rcases p7 with ⟨w1, -⟩ | ⟨q, w1, w2, w3⟩
    · have hbr : a2 8 (k + 1) = A2 22 k := p2.2.2.2 k (by omega) ⟨by show cf 1 ((A2 18 k).toNatClampNeg) = 5; rw [q18, nI_clamp hr31]; exact hty, p5⟩
      have hg1 := go1_5n (n := n) hSt x3.2.1 hk hr p2.1 q18 q20 hty p5 (p3.trans w1)
      rw [w1, if_pos rfl]
      by_cases c : a2 8 (k + 1) = 0
      · rw [if_pos c]
        rw [if_pos (hbr.symm.trans c)] at hg1
        have e4 : a2 4 r = nI r3 := ((x3.1.2.2.2.1 r hr).2.2).trans e3
        have ho2 : o = c_nr cf (S2, A2, G2) k := by
          rw [ho]
          exact (c_nr_congr k (fun i hi => ⟨pE.2.2.2.2.2 18 (by decide) (by decide) (by decide) i hi, pE.2.2.2.2.2 19 (by decide) (by decide) (by decide) i hi⟩)).symm
        rw [e4]
        obtain ⟨res3, s3, a3, g3, S3, A3, G3, τ3, L3, j3, z1, z2, z3, z4, z5⟩ := subG (v := 2) (pl := place) hIH hk hr31 q18 x3 p2 (by rw [hg1, e3]; rfl) r3K hp (fun z => absurd z.2 (by decide)) ho2
        rw [z1, q_ci_s]
        rcases z5 with ⟨φ, u1, u2, u3, u4, u5⟩ | ⟨u1, u2, u3, u4, u5, u6, u7⟩
        · rw [u3, af_ok _ (c_flt u1 u2).1]
          exact fin_flt u1 u2 z3 (by omega) (c_R_trans x2 z2) u4 (by omega) rfl
        · have v18 := (u6 18 (by decide) (by decide) (by decide) (by decide)).trans q18
          have v20 := (u6 20 (by decide) (by decide) (by decide) (by decide)).trans q20
          have hg3 := go2_5 (n := n) hSt z3.2.1 hk hr u2.1 v18 v20 hty u5
          rcases u7 with ⟨w4, -⟩ | ⟨q3, w4, w5, w6⟩
          · rw [w4, af_no, t24, t33]
            rw [u3, w4] at hg3
            exact fin_no hk hC1 z3 u2 (c_E_trans pE u1) (c_R_trans x2 z2) (by omega) ((u6 23 (by decide) (by decide) (by decide) (by decide)).trans q23) ((u6 24 (by decide) (by decide) (by decide) (by decide)).trans q24) ((u6 25 (by decide) (by decide) (by decide) (by decide)).trans q25) hg3 rfl
          · rw [u3, w4] at hg3
            rw [w4, af_ok _ (c_pl (show q3 ≤ 3000 by omega)).1]
            exact fin_ok hN hk z3 u2 (c_E_trans pE u1) (c_R_trans x2 z2) (by omega) hg3 (by omega) w6 rfl
      · rw [if_neg c, af_no, t24, t33]
        rw [if_neg (fun z => c (hbr.trans z))] at hg1
        exact fin_no hk hC1 x3 p2 pE x2 p4 q23 q24 q25 hg1 rfl
    · have nq := c_pl (show q ≤ 3000 by omega)
      have hg1 := go1_5y (n := n) hSt x3.2.1 hk hr p2.1 q18 q20 hty p5 (by rw [p3, w1]; exact nq.1)
      rw [p3, w1] at hg1
      rw [w1, if_neg nq.1, af_ok _ nq.1]
      exact fin_ok hN hk x3 p2 pE x2 p4 hg1 w2 w3 rfl
theorem case_10 (X : c_X n N K cf k r place o G σ0 σ1 μ1 τ1 L1) (hty : cf 1 r = nI 10) : c_Out 2 n N K cf k place σ1 μ1 τ1 L1 (f_X2_follow_bd G n σ0.1 σ0.2.1 σ0.2.2 (nI r) (nI place) (nI (k + 1)) (nI o)) μ1 := by
  obtain ⟨s1, a1, g1⟩ := σ1
  obtain ⟨S1, A1, G1⟩ := μ1
  obtain ⟨hSt, hn, hk, hr, hp, ho, hb, hC1, hF1, ⟨k1, k2, k3, k4, k5⟩, h19, h21, h22, hlt, hIH⟩ := X
  simp only at k1 k2 k3 k4 k5 h19 h21 h22
  have hN := hSt.1
  have hr31 : r < 2 ^ 31 := by have := hSt.2.2.1; omega
  have hr5 : r < 50 := Nat.lt_of_lt_of_le hr hSt.2.2.1
  have d1 := hC1.2.2.1
  have t24 : s1 24 = nI (τ1 2) := d1.2.2.1
  have t33 : s1 33 = nI (τ1 3) := d1.2.2.2.1
  obtain ⟨i, hi, e2⟩ := (ty_of hSt hr (by decide) hty).2.2.1 rfl
  have hy := bd_10 (n := n) (place := place) (o := o) (G := G) hSt hb hC1.1 hr hty hi e2
  have hg0 := go0_10 (n := n) hSt hC1.2.1 hk hr hF1.1 k1 k2 hty h19 hi e2
  rw [hy]
  rcases hSt.2.2.2.2.2 i hi with c | ⟨r2, r2K, c⟩
  · rw [if_pos c]
    rw [if_pos c] at hg0
    exact fin_flt (φ := 1) (j := 1) (S2 := q_us S1 30 1) (A2 := A1) (G2 := G1) (by decide) (by decide) (c_Cor_flt 1 hC1) (Nat.le_refl _) (c_R_step hk hF1.1 hF1.2.1 hg0) (by simp [us_eq]; rfl) (by omega) rfl
  · have c' : ¬ cf 4 i = -1 := by rw [c]; exact (c_pl (show r2 ≤ 3000 by have := hSt.2.2.1; omega)).1
    rw [if_neg c', c]
    rw [if_neg c', c] at hg0
    obtain ⟨res, s2, a2, g2, S2, A2, G2, τ2, L2, j, x1, x2, x3, x4, x5⟩ := subG (v := 1) hIH hk hr31 k1 hC1 hF1 hg0 r2K hp (fun z => absurd (hty.symm.trans z.1) (by decide)) ho
    rw [x1, q_ci_s]
    rcases x5 with ⟨φ, p1, p2, p3, p4, p5⟩ | ⟨p1, p2, p3, p4, p5, p6, p7⟩
    · rw [p3, af_ok _ (c_flt p1 p2).1]
      exact fin_flt p1 p2 x3 x4 x2 p4 (by omega) rfl
    · have q18 := (p6 18 (by decide) (by decide) (by decide) (by decide)).trans k1
      have q20 := (p6 20 (by decide) (by decide) (by decide) (by decide)).trans k2
      have q23 := (p6 23 (by decide) (by decide) (by decide) (by decide)).trans k3
      have q24 := (p6 24 (by decide) (by decide) (by decide) (by decide)).trans k4
      have q25 := (p6 25 (by decide) (by decide) (by decide) (by decide)).trans k5
      have hg1 := go1_10 (n := n) hSt x3.2.1 hk hr p2.1 q18 q20 hty p5
      rw [p3] at hg1
      rcases p7 with ⟨w1, -⟩ | ⟨q, w1, w2, w3⟩
      · rw [w1, af_no, t24, t33]
        rw [w1] at hg1
        exact fin_no hk hC1 x3 p2 p1 x2 p4 q23 q24 q25 hg1 rfl
      · rw [w1, af_ok _ (c_pl (show q ≤ 3000 by omega)).1]
        rw [w1] at hg1
        exact fin_ok hN hk x3 p2 p1 x2 p4 hg1 w2 w3 rfl
theorem case_7 (X : c_X n N K cf k r place o G σ0 σ1 μ1 τ1 L1) (hty : cf 1 r = nI 7) : c_Out 2 n N K cf k place σ1 μ1 τ1 L1 (f_X2_follow_bd G n σ0.1 σ0.2.1 σ0.2.2 (nI r) (nI place) (nI (k + 1)) (nI o)) μ1 := by
  obtain ⟨s1, a1, g1⟩ := σ1
  obtain ⟨S1, A1, G1⟩ := μ1
  obtain ⟨hSt, hn, hk, hr, hp, ho, hb, hC1, hF1, ⟨k1, k2, k3, k4, k5⟩, h19, h21, h22, hlt, hIH⟩ := X
  simp only at k1 k2 k3 k4 k5 h19 h21 h22
  have hN := hSt.1
  have hr31 : r < 2 ^ 31 := by have := hSt.2.2.1; omega
  have hr5 : r < 50 := Nat.lt_of_lt_of_le hr hSt.2.2.1
  have d1 := hC1.2.2.1
  have t24 : s1 24 = nI (τ1 2) := d1.2.2.1
  have t33 : s1 33 = nI (τ1 3) := d1.2.2.2.1
  obtain ⟨r2, r2K, e2⟩ := (ty_of hSt hr (by decide) hty).1 (by omega)
  have hy := bd_t (n := n) (place := place) (o := o) (G := G) hSt hb hC1.1 hr hty (by omega)
  rw [hy, e2]
  obtain ⟨res, s2, a2, g2, S2, A2, G2, τ2, L2, j, x1, x2, x3, x4, x5⟩ := subG (v := 1) hIH hk hr31 k1 hC1 hF1 (by rw [go0_j hSt hC1.2.1 hk hr hF1.1 k1 k2 hty (by omega) h19, e2]; rfl) r2K hp (fun z => absurd (hty.symm.trans z.1) (by decide)) ho
  rw [x1, q_ci_s]
  have e5 : a2 2 r = 7 := ((x3.1.2.2.2.1 r hr).1).trans hty
  rcases x5 with ⟨φ, p1, p2, p3, p4, p5⟩ | ⟨p1, p2, p3, p4, p5, p6, p7⟩
  · rw [p3, turn_flt p1 p2, q_ci_s, af_ok _ (c_flt p1 p2).1]
    exact fin_flt p1 p2 x3 x4 x2 p4 (by omega) rfl
  · have q18 := (p6 18 (by decide) (by decide) (by decide) (by decide)).trans k1
    have q20 := (p6 20 (by decide) (by decide) (by decide) (by decide)).trans k2
    have q23 := (p6 23 (by decide) (by decide) (by decide) (by decide)).trans k3
    have q24 := (p6 24 (by decide) (by decide) (by decide) (by decide)).trans k4
    have q25 := (p6 25 (by decide) (by decide) (by decide) (by decide)).trans k5
    rcases p7 with ⟨w1, -⟩ | ⟨q, w1, w2, w3⟩
    · have hg1 := go1_7 (n := n) hSt x3.2.1 hk hr p2.1 q18 q20 hty p5
      rw [p3, w1, if_pos rfl] at hg1
      rw [w1, turn_7n hr5 _ _ _ e5, q_ci_s, af_ok _ (c_pl (show place ≤ 3000 by omega)).1]
      exact fin_ok hN hk x3 p2 p1 x2 p4 hg1 (Nat.le_refl _) hp rfl
    · have hq3 : q ≤ 3000 := by omega
      have nq := c_pl hq3
      have hg1 := go1_7 (n := n) hSt x3.2.1 hk hr p2.1 q18 q20 hty p5
      rw [p3, w1, if_neg nq.1] at hg1
      rw [w1, turn_7y hr5 hq3 _ _ _ e5, q_ci_s, af_ok _ nq.1]
      exact fin_ok hN hk x3 p2 p1 x2 p4 hg1 w2 w3 rfl
theorem case_8 (X : c_X n N K cf k r place o G σ0 σ1 μ1 τ1 L1) (hty : cf 1 r = nI 8) : c_Out 2 n N K cf k place σ1 μ1 τ1 L1 (f_X2_follow_bd G n σ0.1 σ0.2.1 σ0.2.2 (nI r) (nI place) (nI (k + 1)) (nI o)) μ1 := by
  obtain ⟨s1, a1, g1⟩ := σ1
  obtain ⟨S1, A1, G1⟩ := μ1
  obtain ⟨hSt, hn, hk, hr, hp, ho, hb, hC1, hF1, ⟨k1, k2, k3, k4, k5⟩, h19, h21, h22, hlt, hIH⟩ := X
  simp only at k1 k2 k3 k4 k5 h19 h21 h22
  have hN := hSt.1
  have hr31 : r < 2 ^ 31 := by have := hSt.2.2.1; omega
  have hr5 : r < 50 := Nat.lt_of_lt_of_le hr hSt.2.2.1
  have d1 := hC1.2.2.1
  have t24 : s1 24 = nI (τ1 2) := d1.2.2.1
  have t33 : s1 33 = nI (τ1 3) := d1.2.2.2.1
  obtain ⟨r2, r2K, e2⟩ := (ty_of hSt hr (by decide) hty).1 (by omega)
  have hy := bd_t (n := n) (place := place) (o := o) (G := G) hSt hb hC1.1 hr hty (by omega)
  rw [hy, e2]
  obtain ⟨res, s2, a2, g2, S2, A2, G2, τ2, L2, j, x1, x2, x3, x4, x5⟩ := subG (v := 1) hIH hk hr31 k1 hC1 hF1 (by rw [go0_j hSt hC1.2.1 hk hr hF1.1 k1 k2 hty (by omega) h19, e2]; rfl) r2K hp (fun z => absurd (hty.symm.trans z.1) (by decide)) ho
  rw [x1, q_ci_s]
  have e5 : a2 2 r = 8 := ((x3.1.2.2.2.1 r hr).1).trans hty
  rcases x5 with ⟨φ, p1, p2, p3, p4, p5⟩ | ⟨p1, p2, p3, p4, p5, p6, p7⟩
  · rw [p3, turn_flt p1 p2, q_ci_s, af_ok _ (c_flt p1 p2).1]
    exact fin_flt p1 p2 x3 x4 x2 p4 (by omega) rfl
  · have q18 := (p6 18 (by decide) (by decide) (by decide) (by decide)).trans k1
    have q20 := (p6 20 (by decide) (by decide) (by decide) (by decide)).trans k2
    have q23 := (p6 23 (by decide) (by decide) (by decide) (by decide)).trans k3
    have q24 := (p6 24 (by decide) (by decide) (by decide) (by decide)).trans k4
    have q25 := (p6 25 (by decide) (by decide) (by decide) (by decide)).trans k5
    rcases p7 with ⟨w1, -⟩ | ⟨q, w1, w2, w3⟩
    · have hg1 := go1_8 (n := n) hSt x3.2.1 hk hr p2.1 q18 q20 hty p5
      rw [p3, w1, if_pos rfl] at hg1
      rw [w1, turn_8n hr5 _ _ _ e5, q_ci_s, af_ok _ (c_pl (show place ≤ 3000 by omega)).1]
      exact fin_ok hN hk x3 p2 p1 x2 p4 hg1 (Nat.le_refl _) hp rfl
    · have hq3 : q ≤ 3000 := by omega
      have nq := c_pl hq3
      have hg1 := go1_8 (n := n) hSt x3.2.1 hk hr p2.1 q18 q20 hty p5
      rw [p3, w1, if_neg nq.1] at hg1
      rw [w1, turn_8y hr5 hq3 _ _ _ e5, q_ci_s, af_no, t24, t33]
      exact fin_no hk hC1 x3 p2 p1 x2 p4 q23 q24 q25 hg1 rfl
theorem case_9 (X : c_X n N K cf k r place o G σ0 σ1 μ1 τ1 L1) (hty : cf 1 r = nI 9) : c_Out 2 n N K cf k place σ1 μ1 τ1 L1 (f_X2_follow_bd G n σ0.1 σ0.2.1 σ0.2.2 (nI r) (nI place) (nI (k + 1)) (nI o)) μ1 := by
  obtain ⟨s1, a1, g1⟩ := σ1
  obtain ⟨S1, A1, G1⟩ := μ1
  obtain ⟨hSt, hn, hk, hr, hp, ho, hb, hC1, hF1, ⟨k1, k2, k3, k4, k5⟩, h19, h21, h22, hlt, hIH⟩ := X
  simp only at k1 k2 k3 k4 k5 h19 h21 h22
  have hN := hSt.1
  have hr31 : r < 2 ^ 31 := by have := hSt.2.2.1; omega
  have hr5 : r < 50 := Nat.lt_of_lt_of_le hr hSt.2.2.1
  have d1 := hC1.2.2.1
  have t24 : s1 24 = nI (τ1 2) := d1.2.2.1
  have t33 : s1 33 = nI (τ1 3) := d1.2.2.2.1
  obtain ⟨r2, r2K, e2⟩ := (ty_of hSt hr (by decide) hty).1 (by omega)
  have hy := bd_t (n := n) (place := place) (o := o) (G := G) hSt hb hC1.1 hr hty (by omega)
  rw [hy, e2]
  obtain ⟨res, s2, a2, g2, S2, A2, G2, τ2, L2, j, x1, x2, x3, x4, x5⟩ := subG (v := 1) hIH hk hr31 k1 hC1 hF1 (by rw [go0_j hSt hC1.2.1 hk hr hF1.1 k1 k2 hty (by omega) h19, e2]; rfl) r2K hp (fun z => absurd (hty.symm.trans z.1) (by decide)) ho
  rw [x1, q_ci_s]
  have e5 : a2 2 r = 9 := ((x3.1.2.2.2.1 r hr).1).trans hty
  rcases x5 with ⟨φ, p1, p2, p3, p4, p5⟩ | ⟨p1, p2, p3, p4, p5, p6, p7⟩
  · rw [p3, turn_flt p1 p2, q_ci_s, af_ok _ (c_flt p1 p2).1]
    exact fin_flt p1 p2 x3 x4 x2 p4 (by omega) rfl
  · have q18 := (p6 18 (by decide) (by decide) (by decide) (by decide)).trans k1
    have q20 := (p6 20 (by decide) (by decide) (by decide) (by decide)).trans k2
    have q23 := (p6 23 (by decide) (by decide) (by decide) (by decide)).trans k3
    have q24 := (p6 24 (by decide) (by decide) (by decide) (by decide)).trans k4
    have q25 := (p6 25 (by decide) (by decide) (by decide) (by decide)).trans k5
    rcases p7 with ⟨w1, -⟩ | ⟨q, w1, w2, w3⟩
    · have hg1 := go1_9n (n := n) hSt x3.2.1 hk hr p2.1 q18 q20 hty p5 (p3.trans w1)
      rw [w1, turn_9n hr5 _ _ _ e5, q_ci_s, af_no, us_tb, t24, t33]
      exact fin_no hk hC1 x3 p2 p1 x2 p4 q23 q24 q25 hg1 rfl
    · have hq3 : q ≤ 3000 := by omega
      have nq := c_pl hq3
      have hg1 := go1_9y (n := n) hSt x3.2.1 hk hr p2.1 q18 q20 hty p5 (by rw [p3, w1]; exact nq.1)
      rw [w1, turn_9y hr5 hq3 _ _ _ e5, q_ci_s, af_ok _ (c_pl (show place ≤ 3000 by omega)).1, t24, t33]
      obtain ⟨hC3, hE3⟩ := tb_Cor hC1 x3 p1 (q_us (q_us (q_us S2 12 (A2 23 k)) 11 (A2 24 k)) 13 (A2 25 k)) (by simp [us_ne]) (by simp [us_ne]) (by simp [us_ne]) (by simp [us_ne]) (by simp [us_ne]) (by simp [us_ne]) (by simp [us_ne]) (by simp [us_ne, us_eq, q24]) (by simp [us_ne, us_eq, q23]) (by simp [us_ne, us_eq, q25])
      have ht : (q_tb τ1 τ2) 0 = τ2 0 := by simp [q_tb]
      refine fin_ok2 hN hk hC3 ?_ (c_E_b hE3 (by omega)) p2.1 p2.2.1 x2 (by rw [ht]; exact p4) hg1 (Nat.le_refl _) hp rfl
      obtain ⟨f1, f2, f3, f4⟩ := p2
      exact ⟨by simpa [us_ne] using f1, by simpa [us_ne] using f2, f3, f4⟩
theorem case_11 (X : c_X n N K cf k r place o G σ0 σ1 μ1 τ1 L1) (hty : cf 1 r = nI 11) : c_Out 2 n N K cf k place σ1 μ1 τ1 L1 (f_X2_follow_bd G n σ0.1 σ0.2.1 σ0.2.2 (nI r) (nI place) (nI (k + 1)) (nI o)) μ1 := by
  obtain ⟨s1, a1, g1⟩ := σ1
  obtain ⟨S1, A1, G1⟩ := μ1
  obtain ⟨hSt, hn, hk, hr, hp, ho, hb, hC1, hF1, ⟨k1, k2, k3, k4, k5⟩, h19, h21, h22, hlt, hIH⟩ := X
  simp only at k1 k2 k3 k4 k5 h19 h21 h22
  have hN := hSt.1
  have hr31 : r < 2 ^ 31 := by have := hSt.2.2.1; omega
  have hr5 : r < 50 := Nat.lt_of_lt_of_le hr hSt.2.2.1
  have d1 := hC1.2.2.1
  have t24 : s1 24 = nI (τ1 2) := d1.2.2.1
  have t33 : s1 33 = nI (τ1 3) := d1.2.2.2.1
  obtain ⟨r2, r2K, e2⟩ := (ty_of hSt hr (by decide) hty).1 (by omega)
  have hy := bd_t (n := n) (place := place) (o := o) (G := G) hSt hb hC1.1 hr hty (by omega)
  rw [hy, e2]
  obtain ⟨res, s2, a2, g2, S2, A2, G2, τ2, L2, j, x1, x2, x3, x4, x5⟩ := subG (v := 1) hIH hk hr31 k1 hC1 hF1 (by rw [go0_11 hSt hC1.2.1 hk hr hF1.1 k1 k2 hty h19, e2]; rfl) r2K hp (fun z => absurd (hty.symm.trans z.1) (by decide)) ho
  rw [x1, q_ci_s]
  have e5 : a2 2 r = 11 := ((x3.1.2.2.2.1 r hr).1).trans hty
  rcases x5 with ⟨φ, p1, p2, p3, p4, p5⟩ | ⟨p1, p2, p3, p4, p5, p6, p7⟩
  · rw [p3, turn_flt p1 p2, q_ci_s, af_ok _ (c_flt p1 p2).1]
    exact fin_flt p1 p2 x3 x4 x2 p4 (by omega) rfl
  · have q18 := (p6 18 (by decide) (by decide) (by decide) (by decide)).trans k1
    have q20 := (p6 20 (by decide) (by decide) (by decide) (by decide)).trans k2
    have q23 := (p6 23 (by decide) (by decide) (by decide) (by decide)).trans k3
    have q24 := (p6 24 (by decide) (by decide) (by decide) (by decide)).trans k4
    have q25 := (p6 25 (by decide) (by decide) (by decide) (by decide)).trans k5
    rcases p7 with ⟨w1, -⟩ | ⟨q, w1, w2, w3⟩
    · have hg1 := go1_11n (n := n) hSt x3.2.1 hk hr p2.1 q18 q20 hty p5 (p3.trans w1)
      rw [w1, turn_11n hr5 _ _ _ e5, q_ci_s, af_no, t24, t33]
      exact fin_no hk hC1 x3 p2 p1 x2 p4 q23 q24 q25 hg1 rfl
    · have hq3 : q ≤ 3000 := by omega
      have nq := c_pl hq3
      have hc : τ2 3 < 3000 := by
        have b1 := p1.1
        have b2 := x3.2.2.2.2.2.2.2.2.2.2
        omega
      have hg1 := go1_11y (n := n) (c := τ2 3) hSt x3.2.1 hk hr p2.1 q18 q20 hty p5 (by rw [p3, w1]; exact nq.1) x3.2.2.2.1.2.2.2.1 (by omega)
      rw [p3, w1] at hg1
      have e6 : a2 4 r = cf 3 r := (x3.1.2.2.2.1 r hr).2.2
      rw [w1, turn_11y (c := τ2 3) hr5 hq3 _ _ _ e5 x3.2.2.1.2.2.2.1 hc, q_ci_s, af_ok _ nq.1, e6]
      have ht : (q_ut τ2 3 (τ2 3 + 1)) 0 = τ2 0 := by simp [q_ut]
      obtain ⟨hC3, hE3⟩ := mk_Cor (v := cf 3 r) (x := nI place) (y := nI q) x3 p1 (show τ2 3 < τ2 0 by have b1 := p1.1; omega)
      refine fin_ok2 (τ3 := q_ut τ2 3 (τ2 3 + 1)) (L3 := L2) hN hk hC3 ?_ hE3 p2.1 p2.2.1 x2 (by rw [ht]; exact p4) hg1 w2 w3 rfl
      obtain ⟨f1, f2, f3, f4⟩ := p2
      exact ⟨by simpa [us_ne] using f1, by simpa [us_ne] using f2, by simpa [ua_ne] using f3, by simpa [c_or, ua_ne] using f4⟩
end CASES

/-! the two machines read alike -/
theorem out_up {n N K k place : Nat} {cf : Nat → Nat → Int32} {σ μ σ1 μ1 : q_S} {τ : Nat → Nat} {L : List Int64} {y : Option (Int32 × q_S)} {m : q_S} (hE : c_E 0 k σ μ τ σ1 μ1 (q_ut τ 0 (τ 0 + 1))) (h : c_Out 2 n N K cf k place σ1 μ1 (q_ut τ 0 (τ 0 + 1)) L y m) : c_Out 0 n N K cf k place σ μ τ L y m := by
  obtain ⟨res, σ', μ', τ', L', j, h1, h2, h3, h4, h5⟩ := h
  have e0 : (q_ut τ 0 (τ 0 + 1)) 0 = τ 0 + 1 := by simp [q_ut]
  have e1 : (q_ut τ 0 (τ 0 + 1)) 1 = τ 1 := by simp [q_ut]
  have e2 : (q_ut τ 0 (τ 0 + 1)) 2 = τ 2 := by simp [q_ut]
  have e3 : (q_ut τ 0 (τ 0 + 1)) 3 = τ 3 := by simp [q_ut]
  have e4 : (q_ut τ 0 (τ 0 + 1)) 4 = τ 4 := by simp [q_ut]
  have e5 : (q_ut τ 0 (τ 0 + 1)) 5 = τ 5 := by simp [q_ut]
  rw [e0] at h4 h5
  refine ⟨res, σ', μ', τ', L', j, h1, h2, h3, by omega, ?_⟩
  rcases h5 with ⟨φ, x1, x2, x3, x4, x5⟩ | ⟨x1, x2, x3, x4, x5⟩
  · exact Or.inl ⟨φ, x1, x2, x3, x4, by omega⟩
  · refine Or.inr ⟨?_, x2, x3, by omega, ?_⟩
    · have t := c_E_trans hE x1
      have b := x1.1
      rw [e0, e1, e3, e4] at b
      exact ⟨by omega, t.2⟩
    · rw [e2, e3, e4, e5] at x5
      exact x5
theorem c_sim {n N K : Nat} {cf : Nat → Nat → Int32} (hn : 7000 ≤ n) (hSt : c_St N K cf) : ∀ (d k : Nat), k + d = 150 → ∀ (r place : Nat) (σ μ : q_S) (τ : Nat → Nat) (L : List Int64), r < K → place ≤ N → c_Cor N K cf σ μ τ L → c_F K cf k σ μ →
    ∃ μb : q_S, f_X3_begin μ.1 μ.2.1 μ.2.2 (nI r) (nI place) = some μb ∧ c_Out 0 n N K cf k place σ μ τ L (f_X2_follow n (d + 1) σ.1 σ.2.1 σ.2.2 (nI r) (nI place) (nI (k + 1)) (nI (c_nr cf μ k))) μb := by
  intro d
  induction d with
  | zero =>
    intro k hk r place σ μ τ L hr hp hC hF
    have e : k = 150 := by omega
    subst e
    obtain ⟨s, a, g⟩ := σ
    obtain ⟨S, A, Gm⟩ := μ
    refine ⟨_, b_deepM hF.1, -14, (s, a, g), (q_us S 30 4, A, Gm), τ, L, 0, ?_, c_R_refl _ _, c_Cor_flt 4 hC, Nat.le_refl _, Or.inl ⟨4, by decide, by decide, by decide, by simp [us_eq]; rfl, by omega⟩⟩
    show f_X2_follow_bd _ n s a g _ _ _ _ = _
    unfold f_X2_follow_bd
    rw [b_deepY, q_ci_s, if_neg (by decide)]
  | succ d ih =>
    intro k hk r place σ μ τ L hr hp hC hF
    have hk' : k < 150 := by omega
    have hb3 : τ 0 ≤ 3000 := hC.2.2.2.2.2.2.2.2.2.2.1
    by_cases ht : τ 0 < 3000
    · obtain ⟨σ1, μ1, x1, x2, x3, x4, x5, x6, x7, x8, x9⟩ := b_ok (place := place) hSt hC hF hk' ht hr
      refine ⟨μ1, x2, out_up x5 ?_⟩
      have hnr : c_nr cf μ k = c_nr cf μ1 k := (c_nr_congr k (fun i hi => ⟨x5.2.2.2.2.2 18 (by decide) (by decide) (by decide) i hi, x5.2.2.2.2.2 19 (by decide) (by decide) (by decide) i hi⟩)).symm
      have hb := hC.2.2.2.2.2.2.2.2.2.2
      have X : c_X n N K cf k r place (c_nr cf μ k) (f_X2_follow n (d + 1)) σ σ1 μ1 (q_ut τ 0 (τ 0 + 1)) L := by
        refine ⟨hSt, hn, hk', hr, hp, hnr, x1, x3, x4, ?_, x7, x8, x9, ?_, ih (k + 1) (by omega)⟩
        · obtain ⟨y1, y2, y3, y4, y5⟩ := x6
          exact ⟨y1, y2, by simpa [q_ut] using y3, by simpa [q_ut] using y4, by simpa [q_ut] using y5⟩
        · simp only [q_ut]
          simp
          omega
      obtain ⟨ty, t1, t2, -⟩ := hSt.2.2.2.2.1 r hr
      have h : ty < 4 ∨ ty = 4 ∨ ty = 5 ∨ ty = 6 ∨ ty = 7 ∨ ty = 8 ∨ ty = 9 ∨ ty = 10 ∨ ty = 11 ∨ ty = 12 ∨ ty = 13 ∨ ty = 14 ∨ ty = 15 := by omega
      rcases h with h | rfl | rfl | rfl | rfl | rfl | rfl | rfl | rfl | rfl | rfl | rfl | rfl
      · exact case_sign X t2 h
      · exact case_4 X t2
      · exact case_5 X t2
      · exact case_6 X t2
      · exact case_7 X t2
      · exact case_8 X t2
      · exact case_9 X t2
      · exact case_10 X t2
      · exact case_11 X t2
      · exact case_12 X t2
      · exact case_13 X t2
      · exact case_14 X t2
      · exact case_15 X t2
    · have e : τ 0 = 3000 := by omega
      obtain ⟨s, a, g⟩ := σ
      obtain ⟨S, A, Gm⟩ := μ
      refine ⟨_, b_spentM hk' hF.1 (by have := hC.2.2.2.1.1; rw [e] at this; exact this), -15, (s, a, g), (q_us S 30 5, A, Gm), τ, L, 0, ?_, c_R_refl _ _, c_Cor_flt 5 hC, Nat.le_refl _, Or.inl ⟨5, by decide, by decide, by decide, by simp [us_eq]; rfl, by omega⟩⟩
      show f_X2_follow_bd _ n s a g _ _ _ _ = _
      unfold f_X2_follow_bd
      rw [b_spentY hk' (by have := hC.2.2.1.1; rw [e] at this; exact this), q_ci_s, if_neg (by decide)]
theorem lp_stop {n x : Nat} {m : q_S} (h : m.1 17 ≤ 0 ∨ ¬ m.1 30 = 0) : f_X3_reads_lp n (x + 1) m.1 m.2.1 m.2.2 = some m := by
  show f_X3_reads_lb n (f_X3_reads_lp n x) m.1 m.2.1 m.2.2 = some m
  unfold f_X3_reads_lb
  by_cases c : m.1 17 ≤ 0
  · rw [if_pos c]
  · rw [if_neg c]
    rcases h with h | h
    · exact absurd h c
    · rw [if_neg h]
/-- one reading from the outside: of read() and of each round of all() -/
theorem c_reads {N K r place : Nat} {cf : Nat → Nat → Int32} {s : q_s} {a : q_a} {g : q_g} {S : q_s} {A : q_a} {Gm : q_g} {τ : Nat → Nat} {L : List Int64} (hSt : c_St N K cf) (hr : r < K) (hp : place ≤ N) (hC : c_Cor N K cf (s, a, g) (S, A, Gm) τ L) (h30 : S 30 = 0) :
    ∃ (res : Int32) (s2 : q_s) (a2 : q_a) (g2 : q_g) (S2 : q_s) (A2 : q_a) (G2 : q_g) (τ2 : Nat → Nat) (L2 : List Int64), f_X2_follow 7000 151 s a g (nI r) (nI place) 1 0 = some (res, s2, a2, g2) ∧ f_X3_reads 7000 S A Gm (nI r) (nI place) = some (S2, A2, G2) ∧ c_Cor N K cf (s2, a2, g2) (S2, A2, G2) τ2 L2 ∧
      ((∃ φ : Nat, 1 ≤ φ ∧ φ ≤ 5 ∧ res = -10 - nI φ ∧ S2 30 = nI φ) ∨
       (c_E 0 0 (s, a, g) (q_us S 17 0, A, Gm) τ (s2, a2, g2) (S2, A2, G2) τ2 ∧ S2 30 = 0 ∧ S2 29 = res ∧ (res = -1 ∧ L2 = L ∧ τ2 2 = τ 2 ∧ τ2 3 = τ 3 ∧ τ2 4 = τ 4 ∧ τ2 5 = τ 5 ∨ ∃ q : Nat, res = nI q ∧ place ≤ q ∧ q ≤ N))) := by
  have hC' : c_Cor N K cf (s, a, g) (q_us S 17 0, A, Gm) τ L := c_Cor_S hC (fun i h1 _ _ => us_ne _ _ h1)
  have hF : c_F K cf 0 (s, a, g) (q_us S 17 0, A, Gm) := ⟨by simp [us_eq]; rfl, by simpa [us_ne] using h30, fun j hj => absurd hj (by omega), fun j hj => absurd hj (by omega)⟩
  obtain ⟨μb, x1, res, ⟨s2, a2, g2⟩, ⟨S2, A2, G2⟩, τ2, L2, j, x2, x3, x4, x5, x6⟩ := c_sim (n := 7000) (by omega) hSt 150 0 rfl r place (s, a, g) (q_us S 17 0, A, Gm) τ L hr hp hC' hF
  have hb2 : τ2 0 ≤ 3000 := x4.2.2.2.2.2.2.2.2.2.2.1
  have hj : j ≤ 6000 := by
    rcases x6 with ⟨φ, y1, y2, y3, y4, y5⟩ | ⟨y1, y2, y3, y4, y5⟩ <;> omega
  have hst : S2 17 ≤ 0 ∨ ¬ S2 30 = 0 := by
    rcases x6 with ⟨φ, y1, y2, y3, y4, y5⟩ | ⟨y1, y2, y3, y4, y5⟩
    · exact Or.inr (by show ¬ S2 30 = 0; rw [show S2 30 = nI φ from y4]; exact nI_ne0 (by omega) (by omega))
    · exact Or.inl (by rw [show S2 17 = nI 0 from y2.1]; decide)
  refine ⟨res, s2, a2, g2, S2, A2, G2, τ2, L2, x2, ?_, x4, ?_⟩
  · unfold f_X3_reads
    rw [q_bd_b, show f_X3_begin (q_us S 17 0) A Gm (nI r) (nI place) = some μb from x1, q_cv_s2]
    have e := x3 (7000 - j)
    rw [show 7000 - j + j = 7000 by omega] at e
    rw [e]
    have e2 := lp_stop (n := 7000) (x := 7000 - j - 1) (m := (S2, A2, G2)) hst
    rw [show 7000 - j - 1 + 1 = 7000 - j by omega] at e2
    exact e2
  · rcases x6 with ⟨φ, y1, y2, y3, y4, y5⟩ | ⟨y1, y2, y3, y4, y5⟩
    · exact Or.inl ⟨φ, y1, y2, y3, y4⟩
    · exact Or.inr ⟨y1, y2.2.1, y3, y5⟩

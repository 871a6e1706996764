/-! the reference's step at a frame; the end of a frame -/
theorem asks_eq {s : q_s} {a : q_a} {g : q_g} {k : Nat} (hk : k < 150) (h17 : s 17 = nI (k + 1)) (x y : Int32) : f_X3_asks s a g x y = f_X3_begin s (q_ua a 19 k (a 19 k + 1)) g x y := by
  unfold f_X3_asks
  rw [h17, nI_pred]
  simp only [q_ck_in hk (by decide), q_bd_b, nI_clamp (show k < 2 ^ 31 by omega), q_cv_id]
theorem ends_ok {s : q_s} {a : q_a} {g : q_g} {k : Nat} (h17 : s 17 = nI (k + 1)) {x : Int32} (hx : ¬ x = -1) : f_X3_ends s a g x = some (q_us (q_us s 17 (nI k)) 29 x, a, g) := by
  unfold f_X3_ends
  rw [h17, nI_pred]
  simp only [q_bd_b, if_neg hx]
theorem ends_no {s : q_s} {a : q_a} {g : q_g} {k : Nat} (hk : k < 150) (h17 : s 17 = nI (k + 1)) : f_X3_ends s a g (-1) = some (q_us (q_us (q_us (q_us (q_us s 17 (nI k)) 12 (a 23 k)) 11 (a 24 k)) 13 (a 25 k)) 29 (-1), a, g) := by
  unfold f_X3_ends f_X3_takeBack
  rw [h17, nI_pred]
  simp only [q_bd_b, if_true, us_eq, q_ck_in hk (by decide), nI_clamp (show k < 2 ^ 31 by omega), q_cv_s]
theorem go_sign {n : Nat} {s : q_s} {a : q_a} {g : q_g} {k r : Nat} (hk : k < 150) (h17 : s 17 = nI (k + 1)) (h18 : a 18 k = nI r) (hr : r < 50) {ty : Nat} (h3 : a 3 r = nI ty) (ht : ty < 4) : f_X3_goesOn n s a g = f_X3_sign s a g (nI k) (nI r) := by
  have c : ¬ (4 : Int32) ≤ nI ty := fun z => by have := (nI_leI (a := 4) (by decide) (show ty < 2 ^ 31 by omega)).mp z; omega
  unfold f_X3_goesOn
  rw [h17, nI_pred]
  simp only [q_ck_in hk (by decide), nI_clamp (show k < 2 ^ 31 by omega), h18, q_ck_in hr (by decide), nI_clamp (show r < 2 ^ 31 by omega), h3, if_neg c, q_cv_id]
theorem go_joins {n : Nat} {s : q_s} {a : q_a} {g : q_g} {k r : Nat} (hk : k < 150) (h17 : s 17 = nI (k + 1)) (h18 : a 18 k = nI r) (hr : r < 50) {ty : Nat} (h3 : a 3 r = nI ty) (ht : 4 ≤ ty) (ht2 : ty < 10) : f_X3_goesOn n s a g = f_X3_joins s a g (nI k) (nI r) := by
  have c : (4 : Int32) ≤ nI ty := nI_le (a := 4) ht (by omega)
  have c2 : ¬ (10 : Int32) ≤ nI ty := fun z => by have := (nI_leI (a := 10) (by decide) (show ty < 2 ^ 31 by omega)).mp z; omega
  unfold f_X3_goesOn
  rw [h17, nI_pred]
  simp only [q_ck_in hk (by decide), nI_clamp (show k < 2 ^ 31 by omega), h18, q_ck_in hr (by decide), nI_clamp (show r < 2 ^ 31 by omega), h3, if_pos c, if_neg c2, q_cv_id]
theorem go_others {n : Nat} {s : q_s} {a : q_a} {g : q_g} {k r : Nat} (hk : k < 150) (h17 : s 17 = nI (k + 1)) (h18 : a 18 k = nI r) (hr : r < 50) {ty : Nat} (h3 : a 3 r = nI ty) (ht : 10 ≤ ty) (ht2 : ty < 16) : f_X3_goesOn n s a g = f_X3_others n s a g (nI k) (nI r) := by
  have c : (4 : Int32) ≤ nI ty := nI_le (a := 4) (by omega) (by omega)
  have c2 : (10 : Int32) ≤ nI ty := nI_le (a := 10) (by omega) (by omega)
  unfold f_X3_goesOn
  rw [h17, nI_pred]
  simp only [q_ck_in hk (by decide), nI_clamp (show k < 2 ^ 31 by omega), h18, q_ck_in hr (by decide), nI_clamp (show r < 2 ^ 31 by omega), h3, if_pos c, if_pos c2, q_cv_id]
def q_tb (τ1 τ2 : Nat → Nat) : Nat → Nat := fun i => if i = 0 ∨ i = 1 then τ2 i else τ1 i
/-- taken back on both sides to what stood at Σ1 -/
theorem tb_Cor {b N K k : Nat} {cf : Nat → Nat → Int32} {σ1 μ1 : q_S} {τ1 : Nat → Nat} {L1 : List Int64} {s2 : q_s} {a2 : q_a} {g2 : q_g} {S2 : q_s} {A2 : q_a} {G2 : q_g} {τ2 : Nat → Nat} {L2 : List Int64} (hC1 : c_Cor N K cf σ1 μ1 τ1 L1) (hC2 : c_Cor N K cf (s2, a2, g2) (S2, A2, G2) τ2 L2) (hE : c_E b k σ1 μ1 τ1 (s2, a2, g2) (S2, A2, G2) τ2)
    (S' : q_s) (h1 : S' 1 = S2 1) (h2 : S' 2 = S2 2) (h31 : S' 31 = S2 31) (h33 : S' 33 = S2 33) (h32 : S' 32 = S2 32) (h34 : S' 34 = S2 34) (h35 : S' 35 = S2 35) (h11 : S' 11 = nI (τ1 4)) (h12 : S' 12 = nI (τ1 5)) (h13 : S' 13 = nI (τ1 3)) :
    c_Cor N K cf (q_us (q_us s2 24 (nI (τ1 2))) 33 (nI (τ1 3)), a2, g2) (S', A2, G2) (q_tb τ1 τ2) L1 ∧ c_E b k σ1 μ1 τ1 (q_us (q_us s2 24 (nI (τ1 2))) 33 (nI (τ1 3)), a2, g2) (S', A2, G2) (q_tb τ1 τ2) := by
  obtain ⟨hY, hM, hDY, hDM, hCO⟩ := hC2
  obtain ⟨-, -, hDY1, hDM1, hCO1⟩ := hC1
  obtain ⟨e0, e1, e2, e3, e4, e5⟩ := hE
  obtain ⟨-, -, -, -, y1, y2, y3⟩ := hDY1
  obtain ⟨-, -, -, -, m1, m2⟩ := hDM1
  refine ⟨⟨?_, ?_, ?_, ?_, ?_⟩, ?_, e1, e2, e3, e4, e5⟩
  · simpa [c_Y, us_ne] using hY
  · simpa [c_M, h1, h2] using hM
  · refine ⟨?_, ?_, ?_, ?_, ?_, hDY.2.2.2.2.2.1, ?_⟩
    · simpa [us_ne, q_tb] using hDY.1
    · simpa [us_ne, q_tb] using hDY.2.1
    · simp [us_ne, us_eq, q_tb]
    · simp [us_eq, q_tb]
    · simp only [q_tb]
      simp
      omega
    · simpa [q_tb] using q_PR_mono e1 L1 (τ1 2) y1 y3
  · refine ⟨?_, ?_, ?_, ?_, ?_, ?_⟩
    · simpa [q_tb, h31] using hDM.1
    · simpa [q_tb] using h11
    · simpa [q_tb] using h12
    · simpa [q_tb] using h13
    · simpa [q_tb] using m1
    · simpa [q_tb] using q_PR_mono e2 L1 (τ1 5) m1 m2
  · obtain ⟨x1, x2, x3, x4, x5, x6, x7⟩ := hCO
    obtain ⟨-, -, -, -, -, z6, z7⟩ := hCO1
    refine ⟨?_, ?_, ?_, ?_, x5, ?_, ?_⟩
    · simpa [us_ne, h33] using x1
    · simpa [us_ne, h32] using x2
    · simpa [us_ne, h34] using x3
    · simpa [us_ne, h35] using x4
    · intro i hi
      have hi : i < τ1 3 := by simpa [q_tb] using hi
      obtain ⟨p1, p2, p3⟩ := e3 i hi
      obtain ⟨r1, r2, r3⟩ := e4 i hi
      obtain ⟨u1, u2, u3⟩ := z6 i hi
      exact ⟨p1.trans (u1.trans r1.symm), p2.trans (u2.trans r2.symm), p3.trans (u3.trans r3.symm)⟩
    · simp only [q_tb]
      simp
      omega
  · simp only [q_tb]
    simp
    omega
/-- the reference's frame ends: what it changes -/
theorem c_Cor_S {N K : Nat} {cf : Nat → Nat → Int32} {σ : q_S} {S S' : q_s} {A : q_a} {G : q_g} {τ : Nat → Nat} {L : List Int64} (hC : c_Cor N K cf σ (S, A, G) τ L) (h : ∀ i, i ≠ 17 → i ≠ 29 → i ≠ 30 → S' i = S i) : c_Cor N K cf σ (S', A, G) τ L := by
  obtain ⟨hY, hM, hDY, hDM, hCO⟩ := hC
  refine ⟨hY, ?_, hDY, ?_, ?_⟩
  · have h1 := h 1 (by decide) (by decide) (by decide)
    have h2 := h 2 (by decide) (by decide) (by decide)
    simpa [c_M, h1, h2] using hM
  · have h1 := h 31 (by decide) (by decide) (by decide)
    have h2 := h 11 (by decide) (by decide) (by decide)
    have h3 := h 12 (by decide) (by decide) (by decide)
    have h4 := h 13 (by decide) (by decide) (by decide)
    simpa [c_DM, h1, h2, h3, h4] using hDM
  · have h1 := h 33 (by decide) (by decide) (by decide)
    have h2 := h 32 (by decide) (by decide) (by decide)
    have h3 := h 34 (by decide) (by decide) (by decide)
    have h4 := h 35 (by decide) (by decide) (by decide)
    simpa [c_CO, h1, h2, h3, h4] using hCO
theorem c_F_ends {K k : Nat} {cf : Nat → Nat → Int32} {σ σ' : q_S} {S S' : q_s} {A : q_a} {G : q_g} (hF : c_F K cf (k + 1) σ (S, A, G)) (h17 : S' 17 = nI k) (h30 : S' 30 = S 30) (h8 : σ'.2.1 8 = σ.2.1 8) : c_F K cf k σ' (S', A, G) := by
  obtain ⟨f1, f2, f3, f4⟩ := hF
  refine ⟨h17, h30.trans f2, fun j hj => f3 j (by omega), fun j hj ho => ?_⟩
  rw [h8]
  exact f4 j (by omega) ho
section FIN
variable {n N K k place j : Nat} {cf : Nat → Nat → Int32} {σ1 μ1 : q_S} {τ1 : Nat → Nat} {L1 : List Int64} {s2 : q_s} {a2 : q_a} {g2 : q_g} {S2 : q_s} {A2 : q_a} {G2 : q_g} {τ2 : Nat → Nat} {L2 : List Int64} {y : Option (Int32 × q_S)}
variable {s3 : q_s} {a3 : q_a} {g3 : q_g} {S3 : q_s} {A3 : q_a} {G3 : q_g} {τ3 : Nat → Nat} {L3 : List Int64}
theorem fin_ok2 {q : Nat} (hN : N ≤ 200) (hk : k < 150) (hC3 : c_Cor N K cf (s3, a3, g3) (S3, A3, G3) τ3 L3) (hF : c_F K cf (k + 1) (s3, a3, g3) (S3, A3, G3)) (hE : c_E 2 k σ1 μ1 τ1 (s3, a3, g3) (S3, A3, G3) τ3) (h17 : S2 17 = nI (k + 1)) (h30 : S2 30 = 0) (hR : c_R n j μ1 (S2, A2, G2)) (hj : j ≤ 2 * (τ3 0 - τ1 0))
    (hg : f_X3_goesOn n S2 A2 G2 = f_X3_ends S3 A3 G3 (nI q)) (hq1 : place ≤ q) (hq2 : q ≤ N) (hy : y = some (nI q, s3, a3, g3)) : c_Out 2 n N K cf k place σ1 μ1 τ1 L1 y μ1 := by
  rw [ends_ok hF.1 (c_pl (show q ≤ 3000 by omega)).1] at hg
  refine ⟨nI q, (s3, a3, g3), (q_us (q_us S3 17 (nI k)) 29 (nI q), A3, G3), τ3, L3, j + 1, hy, c_R_trans hR (c_R_step hk h17 h30 hg), c_Cor_S hC3 (fun i h1 h2 _ => by simp [us_ne, h1, h2]), hE.1.1, Or.inr ⟨?_, ?_, ?_, by omega, Or.inr ⟨q, rfl, hq1, hq2⟩⟩⟩
  · exact hE
  · exact c_F_ends hF (by simp [us_ne, us_eq]) (by simp [us_ne]) rfl
  · simp [us_eq]
theorem fin_ok {q : Nat} (hN : N ≤ 200) (hk : k < 150) (hC2 : c_Cor N K cf (s2, a2, g2) (S2, A2, G2) τ2 L2) (hF : c_F K cf (k + 1) (s2, a2, g2) (S2, A2, G2)) (hE : c_E 0 k σ1 μ1 τ1 (s2, a2, g2) (S2, A2, G2) τ2) (hR : c_R n j μ1 (S2, A2, G2)) (hj : j ≤ 2 * (τ2 0 - τ1 0))
    (hg : f_X3_goesOn n S2 A2 G2 = f_X3_ends S2 A2 G2 (nI q)) (hq1 : place ≤ q) (hq2 : q ≤ N) (hy : y = some (nI q, s2, a2, g2)) : c_Out 2 n N K cf k place σ1 μ1 τ1 L1 y μ1 :=
  fin_ok2 hN hk hC2 hF (c_E_b hE (by omega)) hF.1 hF.2.1 hR hj hg hq1 hq2 hy
theorem fin_no (hk : k < 150) (hC1 : c_Cor N K cf σ1 μ1 τ1 L1) (hC2 : c_Cor N K cf (s2, a2, g2) (S2, A2, G2) τ2 L2) (hF : c_F K cf (k + 1) (s2, a2, g2) (S2, A2, G2)) (hE : c_E 0 k σ1 μ1 τ1 (s2, a2, g2) (S2, A2, G2) τ2) (hR : c_R n j μ1 (S2, A2, G2)) (hj : j ≤ 2 * (τ2 0 - τ1 0))
    (h23 : A2 23 k = nI (τ1 5)) (h24 : A2 24 k = nI (τ1 4)) (h25 : A2 25 k = nI (τ1 3)) (hg : f_X3_goesOn n S2 A2 G2 = f_X3_ends S2 A2 G2 (-1)) (hy : y = some (-1, q_us (q_us s2 24 (nI (τ1 2))) 33 (nI (τ1 3)), a2, g2)) : c_Out 2 n N K cf k place σ1 μ1 τ1 L1 y μ1 := by
  have h17 := hF.1
  rw [ends_no hk h17] at hg
  obtain ⟨hC, hE'⟩ := tb_Cor hC1 hC2 hE (q_us (q_us (q_us (q_us (q_us S2 17 (nI k)) 12 (A2 23 k)) 11 (A2 24 k)) 13 (A2 25 k)) 29 (-1)) (by simp [us_ne]) (by simp [us_ne]) (by simp [us_ne]) (by simp [us_ne]) (by simp [us_ne]) (by simp [us_ne]) (by simp [us_ne]) (by simp [us_ne, us_eq, h24]) (by simp [us_ne, us_eq, h23]) (by simp [us_ne, us_eq, h25])
  have ht : (q_tb τ1 τ2) 0 = τ2 0 := by simp [q_tb]
  refine ⟨-1, _, _, q_tb τ1 τ2, L1, j + 1, hy, c_R_trans hR (c_R_step hk h17 hF.2.1 hg), hC, by rw [ht]; exact hE.1.1, Or.inr ⟨c_E_b hE' (by omega), ?_, ?_, by rw [ht]; omega, Or.inl ⟨rfl, rfl, by simp [q_tb], by simp [q_tb], by simp [q_tb], by simp [q_tb]⟩⟩⟩
  · exact c_F_ends hF (by simp [us_ne, us_eq]) (by simp [us_ne]) rfl
  · simp [us_eq]
theorem fin_flt {φ : Nat} (h1 : 1 ≤ φ) (h2 : φ ≤ 5) (hC2 : c_Cor N K cf (s2, a2, g2) (S2, A2, G2) τ2 L2) (ht : τ1 0 ≤ τ2 0) (hR : c_R n j μ1 (S2, A2, G2)) (h30 : S2 30 = nI φ) (hj : j ≤ 2 * (τ2 0 - τ1 0) + 2) (hy : y = some (-10 - nI φ, s2, a2, g2)) : c_Out 2 n N K cf k place σ1 μ1 τ1 L1 y μ1 :=
  ⟨_, _, _, τ2, L2, j, hy, hR, hC2, ht, Or.inl ⟨φ, h1, h2, rfl, h30, hj⟩⟩
end FIN

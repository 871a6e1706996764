/-! sorts 4, 5, 7 to 11 -/
theorem subG {n N K k r r2 pl o v : Nat} {cf : Nat → Nat → Int32} {G : q_s → q_a → q_g → Int32 → Int32 → Int32 → Int32 → Option (Int32 × q_S)} {s : q_s} {a : q_a} {g : q_g} {S : q_s} {A : q_a} {Gm : q_g} {τ : Nat → Nat} {L : List Int64} (hIH : c_IH n N K cf k G) (hk : k < 150) (hr : r < 2 ^ 31) (k1 : A 18 k = nI r)
    (hC : c_Cor N K cf (s, a, g) (S, A, Gm) τ L) (hF : c_F K cf (k + 1) (s, a, g) (S, A, Gm)) (hg : f_X3_goesOn n S A Gm = f_X3_begin S (q_ua A 19 k (nI v)) Gm (nI r2) (nI pl)) (hr2 : r2 < K) (hpl : pl ≤ N) (hno : ¬ (cf 1 r = 5 ∧ nI v = 1)) (ho : o = c_nr cf (S, A, Gm) k) :
    ∃ (res : Int32) (s2 : q_s) (a2 : q_a) (g2 : q_g) (S2 : q_s) (A2 : q_a) (G2 : q_g) (τ2 : Nat → Nat) (L2 : List Int64) (j : Nat), G s a g (nI r2) (nI pl) (nI (k + 2)) (nI o) = some (res, s2, a2, g2) ∧ c_R n j (S, A, Gm) (S2, A2, G2) ∧ c_Cor N K cf (s2, a2, g2) (S2, A2, G2) τ2 L2 ∧ τ 0 ≤ τ2 0 ∧
      ((∃ φ : Nat, 1 ≤ φ ∧ φ ≤ 5 ∧ res = -10 - nI φ ∧ S2 30 = nI φ ∧ j ≤ 2 * (τ2 0 - τ 0) + 1) ∨
       (c_E 0 k (s, a, g) (S, A, Gm) τ (s2, a2, g2) (S2, A2, G2) τ2 ∧ c_F K cf (k + 1) (s2, a2, g2) (S2, A2, G2) ∧ S2 29 = res ∧ j ≤ 2 * (τ2 0 - τ 0) ∧ A2 19 k = nI v ∧ (∀ i, 18 ≤ i → i ≤ 28 → i ≠ 22 → i ≠ 19 → A2 i k = A i k) ∧
         ((res = -1 ∧ L2 = L ∧ τ2 2 = τ 2 ∧ τ2 3 = τ 3 ∧ τ2 4 = τ 4 ∧ τ2 5 = τ 5) ∨ ∃ q : Nat, res = nI q ∧ pl ≤ q ∧ q ≤ N))) := by
  have hC' := c_Cor_A (A' := q_ua A 19 k (nI v)) hC (fun i hi => ua_ne _ _ _ (by omega))
  have hF' : c_F K cf (k + 1) (s, a, g) (S, q_ua A 19 k (nI v), Gm) := F_bump hF (ua_ne _ _ _ (by decide)) (fun j hj => by simp [ua_eq, up_ne, show j ≠ k by omega]) (ua_ne _ _ _ (by decide)) k1 hr (fun z1 z2 => absurd ⟨z1, by simpa [ua_eq, up_eq] using z2⟩ hno)
  have ho' : o = c_nr cf (S, q_ua A 19 k (nI v), Gm) (k + 1) := by
    rw [ho]
    exact (nr_bump (by rw [ua_ne _ _ _ (by decide)]; exact k1) hr (fun j hj => ⟨by simp [ua_ne], by simp [ua_eq, up_ne, show j ≠ k by omega]⟩) (fun z => hno ⟨z.1, by simpa [ua_eq, up_eq] using z.2⟩)).symm
  obtain ⟨res, s2, a2, g2, S2, A2, G2, τ2, L2, j, x1, x2, x3, x4, x5⟩ := c_sub (m := (S, A, Gm)) hIH hk hF.1 hF.2.1 hC' hF' hg hr2 hpl ho'
  refine ⟨res, s2, a2, g2, S2, A2, G2, τ2, L2, j, x1, x2, x3, x4, ?_⟩
  rcases x5 with x5 | ⟨y1, y2, y3, y4, y5⟩
  · exact Or.inl x5
  · refine Or.inr ⟨c_E_trans (E_bump (σ := (s, a, g)) (σ' := (s, a, g)) (S' := S) (A' := q_ua A 19 k (nI v)) rfl (fun _ _ => rfl) (fun i hi => ua_ne _ _ _ (by omega)) (fun i j h1 h2 => ?_)) (c_E_weak y1 (by omega)), y2, y3, y4, ?_, fun i h1 h2 h3 h4 => ?_, y5⟩
    · by_cases c : i = 19
      · subst c; simp [ua_eq, up_ne, show j ≠ k by omega]
      · rw [ua_ne _ _ _ c]
    · have := y1.2.2.2.2.2 19 (by decide) (by decide) (by decide) k (by omega)
      simpa [ua_eq, up_eq] using this
    · have := y1.2.2.2.2.2 i h1 h2 h3 k (by omega)
      simpa [ua_ne _ _ _ h4] using this
theorem ty_of {N K r m : Nat} {cf : Nat → Nat → Int32} (hSt : c_St N K cf) (hr : r < K) (hm : m < 16) (hty : cf 1 r = nI m) : ((4 ≤ m ∧ m ≤ 9 ∨ m = 11) → ∃ r2, r2 < K ∧ cf 2 r = nI r2) ∧ ((m = 4 ∨ m = 5) → ∃ r2, r2 < K ∧ cf 3 r = nI r2) ∧ (m = 10 → ∃ j, j < 10 ∧ cf 2 r = nI j) ∧ (m = 15 → ∃ j, j < 4 ∧ cf 2 r = nI j) := by
  obtain ⟨ty, t1, t2, t3⟩ := hSt.2.2.2.2.1 r hr
  have e : ty = m := (nI_eq (by omega) (by omega)).mp (t2.symm.trans hty)
  subst e
  exact t3
section CASES
variable {n N K k r place o : Nat} {cf : Nat → Nat → Int32} {G : q_s → q_a → q_g → Int32 → Int32 → Int32 → Int32 → Option (Int32 × q_S)} {σ0 σ1 μ1 : q_S} {τ1 : Nat → Nat} {L1 : List Int64}
theorem case_4 (X : c_X n N K cf k r place o G σ0 σ1 μ1 τ1 L1) (hty : cf 1 r = nI 4) : c_Out 2 n N K cf k place σ1 μ1 τ1 L1 (f_X2_follow_bd G n σ0.1 σ0.2.1 σ0.2.2 (nI r) (nI place) (nI (k + 1)) (nI o)) μ1 := by
  obtain ⟨s1, a1, g1⟩ := σ1
  obtain ⟨S1, A1, G1⟩ := μ1
  obtain ⟨hSt, hn, hk, hr, hp, ho, hb, hC1, hF1, ⟨k1, k2, k3, k4, k5⟩, h19, h21, h22, hlt, hIH⟩ := X
  simp only at k1 k2 k3 k4 k5 h19 h21 h22
  have hN := hSt.1
  have hr31 : r < 2 ^ 31 := by have := hSt.2.2.1; omega
  obtain ⟨r2, r2K, e2⟩ := (ty_of hSt hr (by decide) hty).1 (by omega)
  obtain ⟨r3, r3K, e3⟩ := (ty_of hSt hr (by decide) hty).2.1 (by omega)
  have hy := bd_4 (n := n) (place := place) (o := o) (G := G) hSt hb hC1.1 hr hty
  have d1 := hC1.2.2.1
  rw [hy, e2]
  obtain ⟨res, s2, a2, g2, S2, A2, G2, τ2, L2, j, x1, x2, x3, x4, x5⟩ := subG (v := 1) hIH hk hr31 k1 hC1 hF1 (by rw [go0_j hSt hC1.2.1 hk hr hF1.1 k1 k2 hty (by omega) h19, e2]; rfl) r2K hp (fun z => absurd (hty.symm.trans z.1) (by decide)) ho
  rw [x1, q_ci_s]
  rcases x5 with ⟨φ, p1, p2, p3, p4, p5⟩ | ⟨p1, p2, p3, p4, p5, p6, p7⟩
  · rw [p3, if_pos (c_flt p1 p2).2.1, af_ok _ (c_flt p1 p2).1]
    exact fin_flt p1 p2 x3 x4 x2 p4 (by omega) rfl
  · have q18 := (p6 18 (by decide) (by decide) (by decide) (by decide)).trans k1
    have q20 := (p6 20 (by decide) (by decide) (by decide) (by decide)).trans k2
    have q23 := (p6 23 (by decide) (by decide) (by decide) (by decide)).trans k3
    have q24 := (p6 24 (by decide) (by decide) (by decide) (by decide)).trans k4
    have q25 := (p6 25 (by decide) (by decide) (by decide) (by decide)).trans k5
    rcases p7 with ⟨w1, -⟩ | ⟨q, w1, w2, w3⟩
    · rw [w1, if_pos (by decide), af_no]
      refine fin_no hk hC1 x3 p2 p1 x2 p4 q23 q24 q25 (go1_4n hSt x3.2.1 hk hr p2.1 q18 q20 hty p5 (p3.trans w1)) ?_
      rw [show s1 24 = nI (τ1 2) from d1.2.2.1, show s1 33 = nI (τ1 3) from d1.2.2.2.1]
    · have e4 : a2 4 r = nI r3 := ((x3.1.2.2.2.1 r hr).2.2).trans e3
      have ho2 : o = c_nr cf (S2, A2, G2) k := by
        rw [ho]
        exact (c_nr_congr k (fun i hi => ⟨p1.2.2.2.2.2 18 (by decide) (by decide) (by decide) i hi, p1.2.2.2.2.2 19 (by decide) (by decide) (by decide) i hi⟩)).symm
      have nq := c_pl (show q ≤ 3000 by omega)
      rw [w1, if_neg nq.2.1, e4]
      obtain ⟨res3, s3, a3, g3, S3, A3, G3, τ3, L3, j3, z1, z2, z3, z4, z5⟩ := subG (v := 2) (pl := q) hIH hk hr31 q18 x3 p2 (by rw [go1_4y hSt x3.2.1 hk hr p2.1 q18 q20 hty p5 (by rw [p3, w1]; exact nq.1), e3, p3, w1]; rfl) r3K w3 (fun z => absurd (hty.symm.trans z.1) (by decide)) ho2
      rw [z1, q_ci_s]
      rcases z5 with ⟨φ, u1, u2, u3, u4, u5⟩ | ⟨u1, u2, u3, u4, u5, u6, u7⟩
      · rw [u3, af_ok _ (c_flt u1 u2).1]
        exact fin_flt u1 u2 z3 (by omega) (c_R_trans x2 z2) u4 (by omega) rfl
      · have v18 := (u6 18 (by decide) (by decide) (by decide) (by decide)).trans q18
        have v20 := (u6 20 (by decide) (by decide) (by decide) (by decide)).trans q20
        have hg3 := go2_4 (n := n) hSt z3.2.1 hk hr u2.1 v18 v20 hty u5
        rcases u7 with ⟨w4, -⟩ | ⟨q3, w4, w5, w6⟩
        · rw [w4, af_no]
          rw [u3, w4] at hg3
          refine fin_no hk hC1 z3 u2 (c_E_trans p1 u1) (c_R_trans x2 z2) (by omega) ((u6 23 (by decide) (by decide) (by decide) (by decide)).trans q23) ((u6 24 (by decide) (by decide) (by decide) (by decide)).trans q24) ((u6 25 (by decide) (by decide) (by decide) (by decide)).trans q25) hg3 ?_
          rw [show s1 24 = nI (τ1 2) from d1.2.2.1, show s1 33 = nI (τ1 3) from d1.2.2.2.1]
        · rw [u3, w4] at hg3
          rw [w4, af_ok _ (c_pl (show q3 ≤ 3000 by omega)).1]
          exact fin_ok hN hk z3 u2 (c_E_trans p1 u1) (c_R_trans x2 z2) (by omega) hg3 (by omega) w6 rfl
end CASES

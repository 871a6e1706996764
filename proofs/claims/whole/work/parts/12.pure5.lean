/-! sorts 0 to 3 -/
noncomputable def c_rs (cf : Nat → Nat → Int32) (N r place ty : Nat) : Int32 := if ty = 0 then c_pS cf N place (cf 2 r) (cf 2 r) else if ty = 1 then c_pS cf N place (cf 2 r) (cf 3 r) else if ty = 2 then c_pS cf N place 0 127 else if place = N then nI place else -1
theorem c_rs_or (cf : Nat → Nat → Int32) (N r place ty : Nat) : c_rs cf N r place ty = -1 ∨ ∃ q : Nat, c_rs cf N r place ty = nI q ∧ place ≤ q ∧ q ≤ N := by
  unfold c_rs
  split
  · exact c_pS_or _ _ _ _ _
  · split
    · exact c_pS_or _ _ _ _ _
    · split
      · exact c_pS_or _ _ _ _ _
      · split
        · next h => exact Or.inr ⟨place, rfl, Nat.le_refl _, by omega⟩
        · exact Or.inl rfl
theorem signY {n N K r place ty : Nat} {cf : Nat → Nat → Int32} {s : q_s} {a : q_a} {g : q_g} {o : Int32} (hSt : c_St N K cf) (hY : c_Y N K cf (s, a, g)) (hr : r < K) (hp : place ≤ N) (hty : cf 1 r = nI ty) (ht : ty < 4) : f_X2_readAlone n s a g (nI r) (nI place) o = some (c_rs cf N r place ty, s, a, g) := by
  have hr5 : r < 50 := Nat.lt_of_lt_of_le hr hSt.2.2.1
  have hN := hSt.1
  obtain ⟨y1, y2, y3, y4, y5⟩ := id hY
  obtain ⟨e2, e3, e4⟩ := y4 r hr
  simp only at y1 e2 e3 e4
  unfold f_X2_readAlone c_rs
  simp only [q_ck_in hr5 (by decide), nI_clamp (show r < 2 ^ 31 by omega), e2, e3, e4, hty, passY hN hY hp, q_ci_s, y1]
  have h : ty = 0 ∨ ty = 1 ∨ ty = 2 ∨ ty = 3 := by omega
  rcases h with rfl | rfl | rfl | rfl
  · rw [if_pos (by decide)]; rfl
  · rw [if_neg (by decide), if_pos (by decide)]; rfl
  · rw [if_neg (by decide), if_neg (by decide), if_pos (by decide)]; rfl
  · rw [if_neg (by decide), if_neg (by decide), if_neg (by decide), if_pos (by decide)]
    by_cases h : place = N
    · subst h
      simp
    · rw [if_neg (fun z => h ((nI_eq (by omega) (by omega)).mp z))]
      simp [h]
theorem signM {N K k r place ty : Nat} {cf : Nat → Nat → Int32} {s : q_s} {a : q_a} {g : q_g} (hSt : c_St N K cf) (hM : c_M N K cf (s, a, g)) (hk : k < 150) (h20 : a 20 k = nI place) (hr : r < K) (hp : place ≤ N) (hty : cf 1 r = nI ty) (ht : ty < 4) : f_X3_sign s a g (nI k) (nI r) = f_X3_ends s a g (c_rs cf N r place ty) := by
  have hr5 : r < 50 := Nat.lt_of_lt_of_le hr hSt.2.2.1
  have hN := hSt.1
  obtain ⟨y1, y2, y3, y4, y5⟩ := id hM
  obtain ⟨e2, e3, e4⟩ := y4 r hr
  simp only at y1 e2 e3 e4
  unfold f_X3_sign c_rs c_pS
  simp only [q_ck_in hk (by decide), nI_clamp (show k < 2 ^ 31 by omega), q_ck_in hr5 (by decide), nI_clamp (show r < 2 ^ 31 by omega), e2, e3, e4, hty, inM, q_ci_s, y1, h20, q_cv_id]
  by_cases hpl : place < N
  · have e : a 0 place = cf 0 place := y3 place hpl
    rw [if_neg (fun z => by have := (nI_leI (show N < 2 ^ 31 by omega) (show place < 2 ^ 31 by omega)).mp z; omega), q_ck_in (show place < 200 by omega) (by decide)]
    simp only [nI_clamp (show place < 2 ^ 31 by omega), e, if_pos hpl, nI_1]
    have h : ty = 0 ∨ ty = 1 ∨ ty = 2 ∨ ty = 3 := by omega
    rcases h with rfl | rfl | rfl | rfl
    · rw [if_pos (by decide)]
      by_cases c : cf 0 place = cf 2 r
      · rw [if_pos c, c]
        simp [Int32.lt_irrefl]
      · rw [if_neg c]
        by_cases c2 : cf 0 place < cf 2 r
        · simp [c2]
        · have c3 : cf 2 r < cf 0 place := by
            rw [Int32.lt_iff_toInt_lt] at c2 ⊢
            have : (cf 0 place).toInt ≠ (cf 2 r).toInt := fun z => c (Int32.toInt_inj.mp z)
            omega
          simp [c2, c3]
    · rw [if_neg (by decide), if_pos (by decide)]
      by_cases c2 : cf 0 place < cf 2 r
      · simp [c2]
      · by_cases c3 : cf 3 r < cf 0 place
        · simp [c2, c3]
        · simp [c2, c3]
    · rw [if_neg (by decide), if_neg (by decide), if_pos (by decide)]
      obtain ⟨v, v1, v2⟩ := hSt.2.2.2.1 place hpl
      have c2 : ¬ cf 0 place < 0 := by rw [v2]; exact nI_pos (by omega)
      have c3 : ¬ (127 : Int32) < cf 0 place := by rw [v2]; exact nI_nlt (a := 127) (by omega) (by decide)
      simp [c2, c3]
    · rw [if_neg (by decide), if_neg (by decide), if_neg (by decide)]
      have c : ¬ place = N := by omega
      simp [c]
  · have e : place = N := by omega
    subst e
    rw [if_pos Int32.le_rfl]
    have h : ty = 0 ∨ ty = 1 ∨ ty = 2 ∨ ty = 3 := by omega
    rcases h with rfl | rfl | rfl | rfl
    · rw [if_pos (by decide)]; simp
    · rw [if_neg (by decide), if_pos (by decide)]; simp
    · rw [if_neg (by decide), if_neg (by decide), if_pos (by decide)]; simp
    · rw [if_neg (by decide), if_neg (by decide), if_neg (by decide)]; simp
/-- the yard's body behind the beginning, where the sort reads alone -/
theorem bd_alone {n k r place o ty : Nat} {cf : Nat → Nat → Int32} {N K : Nat} {G : q_s → q_a → q_g → Int32 → Int32 → Int32 → Int32 → Option (Int32 × q_S)} {σ0 : q_S} {s1 : q_s} {a1 : q_a} {g1 : q_g} (hSt : c_St N K cf) (hb : f_X2_begin σ0.1 σ0.2.1 σ0.2.2 (nI r) (nI (k + 1)) = some (0, s1, a1, g1)) (hY : c_Y N K cf (s1, a1, g1)) (hr : r < K) (hty : cf 1 r = nI ty) (ht : ty < 4 ∨ 12 ≤ ty ∧ ty < 16) :
    f_X2_follow_bd G n σ0.1 σ0.2.1 σ0.2.2 (nI r) (nI place) (nI (k + 1)) (nI o) = q_ci (f_X2_readAlone n s1 a1 g1 (nI r) (nI place) (nI o)) fun x s a g => if x = -1 then q_cv (f_X2_takeBack s a g (s1 24) (s1 33)) fun s2 a2 g2 => some (x, s2, a2, g2) else some (x, s, a, g) := by
  have hr5 : r < 50 := Nat.lt_of_lt_of_le hr hSt.2.2.1
  obtain ⟨y1, y2, y3, y4, y5⟩ := hY
  obtain ⟨e2, e3, e4⟩ := y4 r hr
  simp only at e2 e3 e4
  have ne : ∀ m : Nat, m < 16 → ty ≠ m → ¬ nI ty = nI m := fun m hm h z => h ((nI_eq (by omega) (by omega)).mp z)
  unfold f_X2_follow_bd
  rw [hb, q_ci_s]
  simp only [if_true, q_ck_in hr5 (by decide), nI_clamp (show r < 2 ^ 31 by omega), e2, e3, hty]
  have n4 : ¬ nI ty = (4 : Int32) := ne 4 (by omega) (by omega)
  have n5 : ¬ nI ty = (5 : Int32) := ne 5 (by omega) (by omega)
  have n6 : ¬ nI ty = (6 : Int32) := ne 6 (by omega) (by omega)
  have n7 : ¬ nI ty = (7 : Int32) := ne 7 (by omega) (by omega)
  have n8 : ¬ nI ty = (8 : Int32) := ne 8 (by omega) (by omega)
  have n9 : ¬ nI ty = (9 : Int32) := ne 9 (by omega) (by omega)
  have n10 : ¬ nI ty = (10 : Int32) := ne 10 (by omega) (by omega)
  have n11 : ¬ nI ty = (11 : Int32) := ne 11 (by omega) (by omega)
  rw [if_neg n4, if_neg n5, if_neg n6, if_neg (show ¬ (nI ty = 7 ∨ nI ty = 8 ∨ nI ty = 9 ∨ nI ty = 11) from fun z => by rcases z with z | z | z | z; exact n7 z; exact n8 z; exact n9 z; exact n11 z), if_neg n10]
theorem case_sign {n N K k r place o ty : Nat} {cf : Nat → Nat → Int32} {G : q_s → q_a → q_g → Int32 → Int32 → Int32 → Int32 → Option (Int32 × q_S)} {σ0 σ1 μ1 : q_S} {τ1 : Nat → Nat} {L1 : List Int64} (X : c_X n N K cf k r place o G σ0 σ1 μ1 τ1 L1) (hty : cf 1 r = nI ty) (ht : ty < 4) : c_Out 2 n N K cf k place σ1 μ1 τ1 L1 (f_X2_follow_bd G n σ0.1 σ0.2.1 σ0.2.2 (nI r) (nI place) (nI (k + 1)) (nI o)) μ1 := by
  obtain ⟨s1, a1, g1⟩ := σ1
  obtain ⟨S1, A1, G1⟩ := μ1
  obtain ⟨hSt, hn, hk, hr, hp, ho, hb, hC1, hF1, ⟨k1, k2, k3, k4, k5⟩, h19, h21, h22, hlt, hIH⟩ := X
  simp only at k1 k2 k3 k4 k5 h19 h21 h22
  have hr5 : r < 50 := Nat.lt_of_lt_of_le hr hSt.2.2.1
  have hM3 : A1 3 r = nI ty := ((hC1.2.1.2.2.2.1 r hr).1).trans hty
  have hg : f_X3_goesOn n S1 A1 G1 = f_X3_ends S1 A1 G1 (c_rs cf N r place ty) := (go_sign hk hF1.1 k1 hr5 hM3 ht).trans (signM hSt hC1.2.1 hk k2 hr hp hty ht)
  have hy := bd_alone (n := n) (place := place) (o := o) (G := G) hSt hb hC1.1 hr hty (Or.inl ht)
  rw [signY hSt hC1.1 hr hp hty ht, q_ci_s] at hy
  have d1 := hC1.2.2.1
  rcases c_rs_or cf N r place ty with c | ⟨q, c, q1, q2⟩
  · rw [c] at hg hy
    refine fin_no (j := 0) hk hC1 hC1 hF1 (c_E_refl _ _ _ _ _) (c_R_refl _ _) (by omega) k3 k4 k5 hg ?_
    rw [hy, if_pos rfl, tbY, q_cv_s, show s1 24 = nI (τ1 2) from d1.2.2.1, show s1 33 = nI (τ1 3) from d1.2.2.2.1]
  · rw [c] at hg hy
    refine fin_ok (j := 0) hSt.1 hk hC1 hF1 (c_E_refl _ _ _ _ _) (c_R_refl _ _) (by omega) hg q1 q2 ?_
    rw [hy, if_neg (c_pl (show q ≤ 3000 by have := hSt.1; omega)).1]

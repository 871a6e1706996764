/-! the beginning of a reader -/
theorem c_nr_congr {cf : Nat → Nat → Int32} {μ μ' : q_S} : ∀ k : Nat, (∀ j, j < k → μ'.2.1 18 j = μ.2.1 18 j ∧ μ'.2.1 19 j = μ.2.1 19 j) → c_nr cf μ' k = c_nr cf μ k := by
  intro k
  induction k with
  | zero => intro _; rfl
  | succ k ih =>
    intro h
    show (if _ then _ else _) = (if _ then _ else _)
    rw [(h k (by omega)).1, (h k (by omega)).2, ih (fun j hj => h j (by omega))]
theorem c_nr_le (cf : Nat → Nat → Int32) (μ : q_S) : ∀ k : Nat, c_nr cf μ k ≤ k := by
  intro k
  induction k with
  | zero => exact Nat.le_refl _
  | succ k ih =>
    show (if _ then _ else _) ≤ k + 1
    split
    · exact Nat.le_refl _
    · exact Nat.le_succ_of_le ih
/-- what frame k has from its beginning on -/
def c_K (k r place : Nat) (τ : Nat → Nat) (μ : q_S) : Prop := μ.2.1 18 k = nI r ∧ μ.2.1 20 k = nI place ∧ μ.2.1 23 k = nI (τ 5) ∧ μ.2.1 24 k = nI (τ 4) ∧ μ.2.1 25 k = nI (τ 3)
theorem b_okY {s : q_s} {a : q_a} {g : q_g} {t k r : Nat} (hk : k < 150) (h11 : s 11 = nI t) (ht : t < 3000) (hr : r < 50) :
    f_X2_begin s a g (nI r) (nI (k + 1)) = some (0, q_us (q_us (q_us s 11 (nI (t + 1))) 13 (s 13 + 1)) 12 (if s 12 < nI (k + 1) then nI (k + 1) else s 12), q_ua a 5 r (a 5 r + 1), g) := by
  have c1 : nI (k + 1) ≤ (150 : Int32) := nI_le (b := 150) (by omega) (by decide)
  have c2 : nI t < (3000 : Int32) := nI_lt (b := 3000) (by omega) (by decide)
  unfold f_X2_begin
  rw [if_pos c1, h11, if_pos c2]
  simp [q_bd_b, us_ne, q_ck_in hr, nI_clamp (show r < 2 ^ 31 by omega), nI_1]
theorem b_okM {s : q_s} {a : q_a} {g : q_g} {t k r : Nat} {pl : Int32} (hk : k < 150) (h17 : s 17 = nI k) (h31 : s 31 = nI t) (ht : t < 3000) (hr : r < 50) :
    f_X3_begin s a g (nI r) pl = some (q_us (q_us (q_us (q_us s 31 (nI (t + 1))) 32 (s 32 + 1)) 17 (nI (k + 1))) 33 (if s 33 < nI (k + 1) then nI (k + 1) else s 33),
      q_ua (q_ua (q_ua (q_ua (q_ua (q_ua (q_ua (q_ua (q_ua a 6 r (a 6 r + 1)) 18 k (nI r)) 19 k 0) 20 k pl) 21 k pl) 22 k 0) 23 k (s 12)) 24 k (s 11)) 25 k (s 13), g) := by
  have c1 : ¬ nI k = (150 : Int32) := fun z => by have := (nI_eq (b := 150) (by omega) (by decide)).mp z; omega
  have c2 : ¬ nI t = (3000 : Int32) := fun z => by have := (nI_eq (b := 3000) (by omega) (by decide)).mp z; omega
  have c3 : vp_nar .boolean 0 = 0 := rfl
  unfold f_X3_begin
  rw [if_neg (by rw [h17]; exact c1), if_neg (by rw [h31]; exact c2)]
  simp only [q_bd_b]
  by_cases c : nI (k + 1) ≤ s 33
  · have c4 : ¬ s 33 < nI (k + 1) := Int32.not_lt.mpr c
    simp [us_ne, us_eq, h17, h31, q_ck_in hr, q_ck_in hk, nI_clamp (show r < 2 ^ 31 by omega), nI_clamp (show k < 2 ^ 31 by omega), nI_1, c, c3, c4]
  · have c4 : s 33 < nI (k + 1) := Int32.not_le.mp c
    simp [us_ne, us_eq, h17, h31, q_ck_in hr, q_ck_in hk, nI_clamp (show r < 2 ^ 31 by omega), nI_clamp (show k < 2 ^ 31 by omega), nI_1, c, c3, c4]
theorem b_ok {N K k r place : Nat} {cf : Nat → Nat → Int32} {σ μ : q_S} {τ : Nat → Nat} {L : List Int64} (hSt : c_St N K cf) (hC : c_Cor N K cf σ μ τ L) (hF : c_F K cf k σ μ) (hk : k < 150) (ht : τ 0 < 3000) (hr : r < K) :
    ∃ σ1 μ1 : q_S, f_X2_begin σ.1 σ.2.1 σ.2.2 (nI r) (nI (k + 1)) = some (0, σ1) ∧ f_X3_begin μ.1 μ.2.1 μ.2.2 (nI r) (nI place) = some μ1 ∧ c_Cor N K cf σ1 μ1 (q_ut τ 0 (τ 0 + 1)) L ∧ c_F K cf (k + 1) σ1 μ1 ∧ c_E 0 k σ μ τ σ1 μ1 (q_ut τ 0 (τ 0 + 1)) ∧ c_K k r place τ μ1 ∧
      μ1.2.1 19 k = 0 ∧ μ1.2.1 21 k = nI place ∧ μ1.2.1 22 k = 0 := by
  obtain ⟨s, a, g⟩ := σ
  obtain ⟨S, A, G⟩ := μ
  have hr5 : r < 50 := Nat.lt_of_lt_of_le hr hSt.2.2.1
  obtain ⟨hY, hM, hDY, hDM, hCO⟩ := hC
  obtain ⟨f1, f2, f3, f4⟩ := hF
  refine ⟨_, _, b_okY hk hDY.1 ht hr5, b_okM hk f1 hDM.1 ht hr5, ⟨?_, ?_, ?_, ?_, ?_⟩, ⟨?_, ?_, ?_, ?_⟩, ⟨?_, ?_, ?_, ?_, ?_, ?_⟩, ?_, ?_, ?_, ?_⟩
  · simpa [c_Y, us_ne, ua_ne] using hY
  · simpa [c_M, us_ne, ua_ne] using hM
  · simpa [c_DY, us_ne, us_eq, ua_ne, q_ut] using hDY.2
  · simpa [c_DM, us_ne, us_eq, ua_ne, q_ut] using hDM.2
  · obtain ⟨x1, x2, x3, x4, x5, x6, x7⟩ := hCO
    simp only at x1 x2 x3 x4 x5 x6
    refine ⟨?_, ?_, ?_, ?_, ?_, ?_, ?_⟩
    · simp [us_eq, x1]
    · simp [us_ne, us_eq, x2]
    · simpa [us_ne] using x3
    · simpa [us_ne] using x4
    · intro i
      simp [ua_ne, ua_eq, upd, x5]
    · simpa [ua_ne, q_ut] using x6
    · simp only [q_ut]
      simp
      omega
  · simp [us_ne, us_eq]
  · simpa [us_ne] using f2
  · intro j hj
    by_cases c : j = k
    · subst c
      exact ⟨r, hr, by simp [ua_ne, ua_eq, up_eq]⟩
    · obtain ⟨r1, h1, h2⟩ := f3 j (by omega)
      exact ⟨r1, h1, by simpa [ua_ne, ua_eq, up_ne, c] using h2⟩
  · intro j hj ho
    by_cases c : j = k
    · subst c
      exfalso
      have h2 := ho.2
      simp [ua_ne, ua_eq, up_eq] at h2
    · have ho' : c_or cf (S, A, G) j := by simpa [c_or, ua_ne, ua_eq, up_ne, c] using ho
      simpa [ua_ne, ua_eq, up_ne, c] using f4 j (by omega) ho'
  · simp [q_ut]
    omega
  · intro j _
    simp [ua_ne]
  · intro j _
    simp [ua_ne]
  · intro j _
    simp [ua_ne]
  · intro j _
    simp [ua_ne]
  · intro i h1 h2 h3 j hj
    have e : j ≠ k := by omega
    have h : i = 18 ∨ i = 19 ∨ i = 20 ∨ i = 21 ∨ i = 23 ∨ i = 24 ∨ i = 25 ∨ i = 26 ∨ i = 27 ∨ i = 28 := by omega
    rcases h with rfl | rfl | rfl | rfl | rfl | rfl | rfl | rfl | rfl | rfl <;> simp [ua_ne, ua_eq, up_ne, e]
  · obtain ⟨y1, y2, y3, y4, y5⟩ := hDM
    refine ⟨?_, ?_, ?_, ?_, ?_⟩ <;> simp [ua_ne, ua_eq, up_eq]
    · exact y3
    · exact y2
    · exact y4
  · simp [ua_ne, ua_eq, up_eq]
  · simp [ua_ne, ua_eq, up_eq]
  · simp [ua_ne, ua_eq, up_eq]
theorem b_deepY {s : q_s} {a : q_a} {g : q_g} {x : Int32} : f_X2_begin s a g x (nI 151) = some (-14, s, a, g) := by
  unfold f_X2_begin
  rw [if_neg (by decide)]
  rfl
theorem b_deepM {s : q_s} {a : q_a} {g : q_g} {x y : Int32} (h17 : s 17 = nI 150) : f_X3_begin s a g x y = some (q_us s 30 4, a, g) := by
  unfold f_X3_begin
  rw [if_pos (by rw [h17]; rfl)]
  rfl
theorem b_spentY {s : q_s} {a : q_a} {g : q_g} {k : Nat} {x : Int32} (hk : k < 150) (h : s 11 = nI 3000) : f_X2_begin s a g x (nI (k + 1)) = some (-15, s, a, g) := by
  unfold f_X2_begin
  have c1 : nI (k + 1) ≤ (150 : Int32) := nI_le (b := 150) (by omega) (by decide)
  rw [if_pos c1, if_neg (by rw [h]; decide)]
  rfl
theorem b_spentM {s : q_s} {a : q_a} {g : q_g} {k : Nat} {x y : Int32} (hk : k < 150) (h17 : s 17 = nI k) (h : s 31 = nI 3000) : f_X3_begin s a g x y = some (q_us s 30 5, a, g) := by
  unfold f_X3_begin
  rw [if_neg (by rw [h17]; exact fun z => by have := (nI_eq (b := 150) (by omega) (by decide)).mp z; omega), if_pos (by rw [h]; rfl)]
  rfl
/-- a fault is told in the reference's state: the rest stays -/
theorem c_Cor_flt {N K : Nat} {cf : Nat → Nat → Int32} {σ : q_S} {s : q_s} {a : q_a} {g : q_g} {τ : Nat → Nat} {L : List Int64} (v : Int32) (hC : c_Cor N K cf σ (s, a, g) τ L) : c_Cor N K cf σ (q_us s 30 v, a, g) τ L := by
  obtain ⟨hY, hM, hDY, hDM, hCO⟩ := hC
  exact ⟨hY, by simpa [c_M, us_ne] using hM, hDY, by simpa [c_DM, us_ne] using hDM, by simpa [c_CO, us_ne] using hCO⟩

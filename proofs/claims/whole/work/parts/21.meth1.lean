/-! the calls, one by one: the yard and the reference stand alike before and after, and answer alike -/
def c_RR (σ μ : q_S) : Prop := ∃ (N K : Nat) (cf : Nat → Nat → Int32) (τ : Nat → Nat) (L : List Int64), c_St N K cf ∧ c_Cor N K cf σ μ τ L
theorem pk_no {n : Nat} (hn : n < 2 ^ 31) {x : Int32} (h : x < 0 ∨ nI n ≤ x) : ¬ ∃ j : Nat, j < n ∧ x = nI j := by
  rintro ⟨j, h1, rfl⟩
  rcases h with h | h
  · exact nI_pos (by omega) h
  · have := (nI_leI hn (show j < 2 ^ 31 by omega)).mp h
    omega
theorem inM_yes {lo n j : Nat} (s : q_s) (a : q_a) (g : q_g) (h1 : lo ≤ j) (h2 : j ≤ n) (hn : n < 2 ^ 31) : f_X3_in s a g (nI j) (nI lo) (nI n) = some (1, s, a, g) := by
  rw [inM, if_neg (nI_nlt h1 (by omega)), if_neg (nI_nlt h2 hn)]
theorem inM_lo (s : q_s) (a : q_a) (g : q_g) {x lo hi : Int32} (h : x < lo) : f_X3_in s a g x lo hi = some (0, s, a, g) := by
  rw [inM, if_pos h]
theorem inM_hi (s : q_s) (a : q_a) (g : q_g) {x lo hi : Int32} (h : hi < x) : f_X3_in s a g x lo hi = some (0, s, a, g) := by
  rw [inM]
  by_cases c : x < lo
  · rw [if_pos c]
  · rw [if_neg c, if_pos h]
theorem le_pred {n : Nat} (hn : n < 2 ^ 31) (h0 : 0 < n) {x : Int32} (h : nI n ≤ x) : nI (n - 1) < x := Int32.lt_of_lt_of_le (nI_lt (show n - 1 < n by omega) hn) h
theorem isR_yes {K r : Nat} {s : q_s} {S : q_s} (a A : q_a) (g Gm : q_g) (h6 : s 6 = nI K) (h2 : S 2 = nI K) (hK : K ≤ 50) (hr : r < K) : f_X2_isReader s a g (nI r) = some (1, s, a, g) ∧ f_X3_isReader S A Gm (nI r) = some (1, S, A, Gm) := by
  constructor
  · unfold f_X2_isReader
    rw [if_neg (nI_pos (by omega)), h6, if_neg (nI_ge hr (by omega))]
  · unfold f_X3_isReader
    rw [h2, show nI K - 1 = nI (K - 1) by rw [show K = K - 1 + 1 by omega, nI_pred]; rfl, q_ci_id]
    exact inM_yes (lo := 0) S A Gm (Nat.zero_le _) (by omega) (by omega)
theorem isR_no {K : Nat} {s : q_s} {S : q_s} (a A : q_a) (g Gm : q_g) (h6 : s 6 = nI K) (h2 : S 2 = nI K) (hK : K ≤ 50) (hK2 : 2 ≤ K) {x : Int32} (h : x < 0 ∨ nI K ≤ x) : f_X2_isReader s a g x = some (0, s, a, g) ∧ f_X3_isReader S A Gm x = some (0, S, A, Gm) := by
  constructor
  · unfold f_X2_isReader
    by_cases c : x < 0
    · rw [if_pos c]
    · rw [if_neg c, h6]
      rcases h with h | h
      · exact absurd h c
      · rw [if_pos h]
  · unfold f_X3_isReader
    rw [h2, show nI K - 1 = nI (K - 1) by rw [show K = K - 1 + 1 by omega, nI_pred]; rfl, q_ci_id]
    rcases h with h | h
    · exact inM_lo _ _ _ h
    · exact inM_hi _ _ _ (le_pred (by omega) (by omega) h)
theorem textY_lp {N n1 : Nat} (hN : N + n1 ≤ 200) (hn1 : n1 ≤ 8) {s : q_s} {g : q_g} {p2 : Int64} (h1 : s 1 = nI N) : ∀ (w i x : Nat) (a : q_a), i + w = n1 →
    ∃ a' : q_a, f_X2_text_lp (x + w + 1) s a g (nI n1) p2 (nI i) = some (nI (N + n1), q_us s 1 (nI (N + n1)), a', g) ∧ (∀ t, t ≠ 0 → a' t = a t) ∧ (∀ j, j < N + i → a' 0 j = a 0 j) ∧ (∀ t, i ≤ t → t < n1 → a' 0 (N + t) = vp_nar .byte (((p2.toUInt64 >>> ((8 * nI t).toInt64.toUInt64 &&& Int64.toUInt64 63)).toInt64 &&& 127).toInt32.toInt8.toInt32)) := by
  intro w
  induction w with
  | zero =>
    intro i x a hi
    refine ⟨a, ?_, fun _ _ => rfl, fun _ _ => rfl, fun t h1 h2 => absurd h2 (by omega)⟩
    show f_X2_text_lb _ s a g _ _ _ = _
    unfold f_X2_text_lb
    rw [if_pos (nI_le (by omega) (by omega)), q_bd_b, us_eq, h1, nI_add]
  | succ w ih =>
    intro i x a hi
    obtain ⟨a', x1, x2, x3, x4⟩ := ih (i + 1) x (q_ua a 0 (N + i) (vp_nar .byte (((p2.toUInt64 >>> ((8 * nI i).toInt64.toUInt64 &&& Int64.toUInt64 63)).toInt64 &&& 127).toInt32.toInt8.toInt32))) (by omega)
    refine ⟨a', ?_, fun t ht => (x2 t ht).trans (ua_ne _ _ _ ht), fun j hj => ?_, fun t h1 h2 => ?_⟩
    · show f_X2_text_lb _ s a g _ _ _ = _
      unfold f_X2_text_lb
      rw [if_neg (nI_ge (show i < n1 by omega) (by omega)), h1, nI_add, q_ck_in (show N + i < 200 by omega) (by decide), nI_clamp (by omega), q_bd_b, nI_1]
      exact x1
    · rw [x3 j (by omega), ua_eq, up_ne _ _ (by omega)]
    · by_cases c : t = i
      · subst c
        rw [x3 (N + t) (by omega), ua_eq, up_eq]
      · exact x4 t (by omega) h2
theorem textM_lp {N n1 : Nat} (hN : N + n1 ≤ 200) (hn1 : n1 ≤ 8) {g : q_g} {p2 : Int64} : ∀ (w i x : Nat) (s : q_s) (a : q_a), i + w = n1 → s 1 = nI (N + i) →
    ∃ (s' : q_s) (a' : q_a), f_X3_text_lp (x + w + 1) s a g (nI n1) p2 (nI i) = some (nI (N + n1), s', a', g) ∧ s' 1 = nI (N + n1) ∧ (∀ t, t ≠ 1 → s' t = s t) ∧ (∀ t, t ≠ 0 → a' t = a t) ∧ (∀ j, j < N + i → a' 0 j = a 0 j) ∧ (∀ t, i ≤ t → t < n1 → a' 0 (N + t) = (p2 >>> ((8 * nI t).toInt64 &&& 63)).toInt32 &&& 127) := by
  intro w
  induction w with
  | zero =>
    intro i x s a hi h1
    have e : i = n1 := by omega
    subst e
    refine ⟨s, a, ?_, h1, fun _ _ => rfl, fun _ _ => rfl, fun _ _ => rfl, fun t h1 h2 => absurd h2 (by omega)⟩
    show f_X3_text_lb _ s a g _ _ _ = _
    unfold f_X3_text_lb
    rw [if_pos Int32.le_rfl, h1]
  | succ w ih =>
    intro i x s a hi h1
    obtain ⟨s', a', x1, x5, x6, x2, x3, x4⟩ := ih (i + 1) x (q_us s 1 (nI (N + i + 1))) (q_ua a 0 (N + i) ((p2 >>> ((8 * nI i).toInt64 &&& 63)).toInt32 &&& 127)) (by omega) (by rw [us_eq]; rfl)
    refine ⟨s', a', ?_, x5, fun t ht => (x6 t ht).trans (us_ne _ _ ht), fun t ht => (x2 t ht).trans (ua_ne _ _ _ ht), fun j hj => ?_, fun t h1 h2 => ?_⟩
    · show f_X3_text_lb _ s a g _ _ _ = _
      unfold f_X3_text_lb
      rw [if_neg (nI_ge (show i < n1 by omega) (by omega)), h1, q_ck_in (show N + i < 200 by omega) (by decide), nI_clamp (by omega), q_bd_b, q_bd_b, nI_1, nI_1]
      exact x1
    · rw [x3 j (by omega), ua_eq, up_ne _ _ (by omega)]
    · by_cases c : t = i
      · subst c
        rw [x3 (N + t) (by omega), ua_eq, up_eq]
      · exact x4 t (by omega) h2
theorem r_text {σ μ : q_S} (h : c_RR σ μ) (p1 : Int32) (p2 : Int64) : ∃ (r : Int32) (σ' μ' : q_S), f_X2_text 7000 σ.1 σ.2.1 σ.2.2 p1 p2 = some (r, σ') ∧ f_X3_text 7000 μ.1 μ.2.1 μ.2.2 p1 p2 = some (r, μ') ∧ c_RR σ' μ' := by
  obtain ⟨N, K, cf, τ, L, hSt, hC⟩ := id h
  obtain ⟨s, a, g⟩ := σ
  obtain ⟨S, A, Gm⟩ := μ
  have y1 : s 1 = nI N := hC.1.1
  have m1 : S 1 = nI N := hC.2.1.1
  have hN := hSt.1
  unfold f_X2_text f_X3_text
  simp only
  rcases pk_ix p1 (n := 9) (by decide) with c | c | ⟨n1, c, rfl⟩
  · refine ⟨-2, _, _, ?_, ?_, h⟩
    · rw [if_pos (Int32.lt_trans c (by decide))]
    · rw [inM_lo _ _ _ (Int32.lt_trans c (by decide)), q_ci_s, if_pos rfl]
  · refine ⟨-2, _, _, ?_, ?_, h⟩
    · rw [if_neg (fun z => absurd (Int32.lt_of_le_of_lt c z) (by decide)), if_neg (fun z => absurd (Int32.le_trans c z) (by decide))]
    · rw [inM_hi _ _ _ (Int32.lt_of_lt_of_le (by decide) c), q_ci_s, if_pos rfl]
  · by_cases c0 : n1 = 0
    · subst c0
      exact ⟨-2, _, _, by rw [if_pos (by decide)], by rw [inM_lo _ _ _ (by decide), q_ci_s, if_pos rfl], h⟩
    · have b1 : ¬ nI n1 < (1 : Int32) := nI_nlt (b := 1) (by omega) (by omega)
      have b2 : nI n1 ≤ (8 : Int32) := nI_le (b := 8) (by omega) (by decide)
      rw [if_neg b1, if_pos b2, show f_X3_in S A Gm (nI n1) 1 8 = some (1, S, A, Gm) from inM_yes (lo := 1) (n := 8) _ _ _ (by omega) (by omega) (by decide), q_ci_s, if_neg (show ¬ (1 : Int32) = 0 by decide), y1, m1, nI_add]
      by_cases c2 : N + n1 ≤ 200
      · have b3 : nI (N + n1) ≤ (200 : Int32) := nI_le (b := 200) c2 (by decide)
        rw [if_pos b3, if_pos b3]
        obtain ⟨a', x1, x2, x3, x4⟩ := textY_lp (s := s) (g := g) (p2 := p2) c2 (by omega) y1 n1 0 (7000 - n1 - 1) a (by omega)
        obtain ⟨S', A', z1, z5, z6, z2, z3, z4⟩ := textM_lp (g := Gm) (p2 := p2) c2 (by omega) n1 0 (7000 - n1 - 1) S A (by omega) m1
        rw [show 7000 - n1 - 1 + n1 + 1 = 7000 by omega, nI_0] at x1 z1
        refine ⟨_, _, _, x1, z1, N + n1, K, fun i j => if i = 0 then A' 0 j else cf i j, τ, L, ?_, ?_⟩
        · refine ⟨c2, hSt.2.1, hSt.2.2.1, fun j hj => ?_, ?_, ?_⟩
          · by_cases cj : j < N
            · obtain ⟨v, v1, v2⟩ := hSt.2.2.2.1 j cj
              refine ⟨v, v1, ?_⟩
              have e1 : A 0 j = cf 0 j := hC.2.1.2.2.1 j cj
              simp only [if_true]
              rw [z3 j (by omega), e1, v2]
            · obtain ⟨v, v1, v2, v3⟩ := sg_eq p2 (show j - N < 8 by omega)
              refine ⟨v, v1, ?_⟩
              have e1 := z4 (j - N) (by omega) (by omega)
              rw [show N + (j - N) = j by omega] at e1
              simp only [if_true]
              rw [e1, v2]
          · simpa using hSt.2.2.2.2.1
          · simpa using hSt.2.2.2.2.2
        · obtain ⟨hY, hM, hDY, hDM, hCO⟩ := hC
          refine ⟨?_, ?_, ?_, ?_, ?_⟩
          · refine ⟨by simp [us_eq], by simpa [us_ne] using hY.2.1, fun j hj => ?_, ?_, ?_⟩
            · simp only [if_true]
              by_cases cj : j < N
              · have e1 : A 0 j = cf 0 j := hM.2.2.1 j cj
                have e2 : a 0 j = cf 0 j := hY.2.2.1 j cj
                rw [z3 j (by omega), x3 j (by omega), e1, e2]
              · obtain ⟨v, v1, v2, v3⟩ := sg_eq p2 (show j - N < 8 by omega)
                have e1 := z4 (j - N) (by omega) (by omega)
                have e2 := x4 (j - N) (by omega) (by omega)
                rw [show N + (j - N) = j by omega] at e1 e2
                rw [e1, e2, v2, v3]
            · simpa [x2 2 (by decide), x2 3 (by decide), x2 4 (by decide)] using hY.2.2.2.1
            · simpa [x2 7 (by decide)] using hY.2.2.2.2
          · refine ⟨z5, by simpa [z6 2 (by decide)] using hM.2.1, fun j hj => by simp, ?_, ?_⟩
            · simpa [z2 3 (by decide), z2 4 (by decide), z2 5 (by decide)] using hM.2.2.2.1
            · simpa [z2 7 (by decide)] using hM.2.2.2.2
          · simpa [c_DY, us_ne, x2 21 (by decide), x2 22 (by decide)] using hDY
          · simpa [c_DM, z6 31 (by decide), z6 11 (by decide), z6 12 (by decide), z6 13 (by decide), z2 9 (by decide), z2 10 (by decide)] using hDM
          · simpa [c_CO, us_ne, z6 33 (by decide), z6 32 (by decide), z6 34 (by decide), z6 35 (by decide), x2 5 (by decide), z2 6 (by decide), x2 30 (by decide), x2 31 (by decide), x2 32 (by decide), z2 14 (by decide), z2 15 (by decide), z2 16 (by decide)] using hCO
      · have b3 : ¬ nI (N + n1) ≤ (200 : Int32) := fun z => by have := (nI_leI (b := 200) (by omega) (by decide)).mp z; omega
        exact ⟨-3, _, _, by rw [if_neg b3], by rw [if_neg b3], h⟩
theorem r_clear {σ μ : q_S} (h : c_RR σ μ) : ∃ (r : Int32) (σ' μ' : q_S), f_X2_clear σ.1 σ.2.1 σ.2.2 = some (r, σ') ∧ f_X3_clear μ.1 μ.2.1 μ.2.2 = some (r, μ') ∧ c_RR σ' μ' := by
  obtain ⟨N, K, cf, τ, L, hSt, hC⟩ := h
  obtain ⟨s, a, g⟩ := σ
  obtain ⟨S, A, Gm⟩ := μ
  have y1 : s 1 = nI N := hC.1.1
  have m1 : S 1 = nI N := hC.2.1.1
  refine ⟨nI N, (q_us s 1 0, a, g), (q_us S 1 0, A, Gm), ?_, ?_, 0, K, cf, τ, L, ?_, ?_⟩
  · unfold f_X2_clear
    show some (s 1, _) = _
    rw [y1]
  · unfold f_X3_clear
    show some (S 1, _) = _
    rw [m1]
  · exact ⟨by omega, hSt.2.1, hSt.2.2.1, fun i hi => absurd hi (by omega), hSt.2.2.2.2.1, hSt.2.2.2.2.2⟩
  · obtain ⟨hY, hM, hDY, hDM, hCO⟩ := hC
    refine ⟨?_, ?_, ?_, ?_, ?_⟩
    · exact ⟨by simp [us_eq]; rfl, by simpa [us_ne] using hY.2.1, fun i hi => absurd hi (by omega), hY.2.2.2.1, hY.2.2.2.2⟩
    · exact ⟨by simp [us_eq]; rfl, by simpa [us_ne] using hM.2.1, fun i hi => absurd hi (by omega), hM.2.2.2.1, hM.2.2.2.2⟩
    · simpa [c_DY, us_ne] using hDY
    · simpa [c_DM, us_ne] using hDM
    · simpa [c_CO, us_ne] using hCO

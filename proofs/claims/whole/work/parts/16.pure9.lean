/-! the pile: its slots, heights, numbers; a number more -/
theorem PR_h {g : Nat → Int64} {b h : Nat → Int32} {t : Nat} {L : List Int64} (h0 : h 0 = 0) (hp : q_PR g b h t L) : h t = nI L.length := by
  cases L with
  | nil => have e : t = 0 := hp; subst e; exact h0
  | cons v L => obtain ⟨q, -, -, -, h4, -⟩ := hp; exact h4
theorem PR_0 {g : Nat → Int64} {b h : Nat → Int32} {t : Nat} {L : List Int64} (hp : q_PR g b h t L) : t = 0 ↔ L = [] := by
  cases L with
  | nil => exact ⟨fun _ => rfl, fun _ => hp⟩
  | cons v L => obtain ⟨q, h1, -⟩ := hp; exact ⟨fun z => by omega, fun z => by cases z⟩
theorem slot_lp {s : q_s} {a : q_a} {g : q_g} : ∀ (m x j tp : Nat) (L : List Int64), m ≤ L.length → j + m < 2 ^ 31 → tp ≤ 3000 → q_PR g (a 21) (a 22) tp L → ∃ q, q ≤ tp ∧ q_PR g (a 21) (a 22) q (L.drop m) ∧ f_X1_slotUnder_lp (x + m + 1) s a g (nI (j + m)) (nI tp) (nI j) = some (nI q, s, a, g) := by
  intro m
  induction m with
  | zero =>
    intro x j tp L _ hj _ hp
    refine ⟨tp, Nat.le_refl _, hp, ?_⟩
    show f_X1_slotUnder_lb _ s a g _ _ _ = _
    unfold f_X1_slotUnder_lb
    rw [Nat.add_zero, if_pos Int32.le_rfl]
  | succ m ih =>
    intro x j tp L hm hj ht hp
    cases L with
    | nil => simp at hm
    | cons v L =>
      obtain ⟨q, h1, h2, h3, h4, h5⟩ := hp
      obtain ⟨q2, z1, z2, z3⟩ := ih x (j + 1) q L (by simp at hm; omega) (by omega) (by omega) h5
      refine ⟨q2, by omega, z2, ?_⟩
      show f_X1_slotUnder_lb _ s a g _ _ _ = _
      unfold f_X1_slotUnder_lb
      rw [if_neg (fun z => by have := (nI_leI (show j + (m + 1) < 2 ^ 31 by omega) (show j < 2 ^ 31 by omega)).mp z; omega), q_ck_in (show tp < 3001 by omega) (by decide), nI_clamp (by omega), h3, nI_1]
      rw [show j + (m + 1) = j + 1 + m by omega]
      exact z3
theorem slot_eq {n m tp : Nat} {s : q_s} {a : q_a} {g : q_g} {L : List Int64} (hn : 7000 ≤ n) (hm : m ≤ L.length) (hm2 : m ≤ 3000) (h24 : s 24 = nI tp) (ht : tp ≤ 3000) (hp : q_PR g (a 21) (a 22) tp L) : ∃ q, q ≤ tp ∧ q_PR g (a 21) (a 22) q (L.drop m) ∧ f_X1_slotUnder n s a g (nI m) = some (nI q, s, a, g) := by
  obtain ⟨q, h1, h2, h3⟩ := slot_lp (s := s) (a := a) (g := g) m (n - m - 1) 0 tp L hm (by omega) ht hp
  refine ⟨q, h1, h2, ?_⟩
  unfold f_X1_slotUnder
  rw [h24]
  rw [show n - m - 1 + m + 1 = n by omega, show 0 + m = m by omega] at h3
  exact h3
theorem height_eq {tp : Nat} {s : q_s} {a : q_a} {g : q_g} {L : List Int64} (h24 : s 24 = nI tp) (ht : tp ≤ 3000) (h0 : a 22 0 = 0) (hp : q_PR g (a 21) (a 22) tp L) : f_X1_height s a g = some (nI L.length, s, a, g) := by
  unfold f_X1_height
  rw [h24, q_ck_in (show tp < 3001 by omega) (by decide), nI_clamp (by omega), PR_h h0 hp]
theorem PR_num {g : Nat → Int64} {b h : Nat → Int32} {t : Nat} {v : Int64} {L : List Int64} (hp : q_PR g b h t (v :: L)) : g t = v := by
  obtain ⟨q, -, h2, -⟩ := hp
  exact h2
theorem number_eq {n m tp : Nat} {s : q_s} {a : q_a} {g : q_g} {L : List Int64} (hn : 7000 ≤ n) (hm : m < L.length) (h24 : s 24 = nI tp) (ht : tp ≤ 3000) (h0 : a 22 0 = 0) (hp : q_PR g (a 21) (a 22) tp L) : f_X1_numberUnder n s a g (nI m) = some (L.getD m 0, s, a, g) := by
  have hl := q_PR_len L tp hp
  obtain ⟨q, h1, h2, h3⟩ := slot_eq (n := n) (m := m) hn (by omega) (by omega) h24 ht hp
  unfold f_X1_numberUnder
  rw [if_neg (nI_pos (by omega)), height_eq h24 ht h0 hp, q_ci_s, if_pos (nI_lt hm (by omega)), h3, q_ci_s, q_ck_in (show q < 3001 by omega) (by decide), nI_clamp (by omega)]
  rw [List.drop_eq_getElem_cons hm] at h2
  rw [PR_num h2]
  simp [List.getD_eq_getElem?_getD, hm]
theorem layY {n m u tp : Nat} {s : q_s} {a : q_a} {g : q_g} {L : List Int64} {v : Int64} (hn : 7000 ≤ n) (hm : m ≤ L.length) (hm2 : m ≤ 3000) (h23 : s 23 = nI u) (hu : u < 3000) (h24 : s 24 = nI tp) (ht : tp ≤ u) (hp : q_PR g (a 21) (a 22) tp L) :
    ∃ q, q ≤ tp ∧ q_PR g (a 21) (a 22) q (L.drop m) ∧ f_X1_lay n s a g v (nI m) = some (q_us (q_us s 23 (nI (u + 1))) 24 (nI (u + 1)), q_ua (q_ua a 21 (u + 1) (nI q)) 22 (u + 1) (a 22 q + 1), vp_updL g (u + 1) v) := by
  obtain ⟨q, h1, h2, h3⟩ := slot_eq (n := n) (m := m) hn hm hm2 h24 (by omega) hp
  refine ⟨q, h1, h2, ?_⟩
  have c1 : nI u < (3000 : Int32) := nI_lt (b := 3000) hu (by decide)
  unfold f_X1_lay
  rw [h23, if_pos c1, h3, q_ci_s]
  simp only [q_bd_b, h23, nI_1, us_eq, q_ck_in (show u + 1 < 3001 by omega) (by decide), nI_clamp (show u + 1 < 2 ^ 31 by omega), q_ck_in (show q < 3001 by omega) (by decide), nI_clamp (show q < 2 ^ 31 by omega), ua_ne _ _ _ (show (22 : Nat) ≠ 21 by decide)]
theorem layM {u Q : Nat} {s : q_s} {a : q_a} {g : q_g} {v : Int64} (h11 : s 11 = nI u) (hu : u < 3000) (hQ : Q ≤ 3000) :
    f_X3_lay s a g v (nI Q) = some (q_us (q_us s 11 (nI (u + 1))) 12 (nI (u + 1)), q_ua (q_ua a 9 (u + 1) (nI Q)) 10 (u + 1) (if Q = 0 then 1 else a 10 Q + 1), vp_updL g (u + 1) v) := by
  unfold f_X3_lay
  simp only [q_bd_b, h11, nI_1, us_eq, q_ck_in (show u + 1 < 3001 by omega) (by decide), nI_clamp (show u + 1 < 2 ^ 31 by omega), q_ck_in (show Q < 3001 by omega) (by decide), nI_clamp (show Q < 2 ^ 31 by omega), ua_ne _ _ _ (show (10 : Nat) ≠ 9 by decide)]
  by_cases c : Q = 0
  · subst c
    rw [if_pos (by decide), if_pos rfl]
  · rw [if_neg (nI_ne0 (by omega) (by omega)), if_neg c]
theorem lay_Cor {N K k q Q : Nat} {cf : Nat → Nat → Int32} {s1 : q_s} {a1 : q_a} {g1 : q_g} {S1 : q_s} {A1 : q_a} {G1 : q_g} {τ : Nat → Nat} {L L' : List Int64} {v : Int64} (hC : c_Cor N K cf (s1, a1, g1) (S1, A1, G1) τ L) (hlt : τ 1 < τ 0 ∧ τ 3 < τ 0 ∧ τ 4 < τ 0) (hq : q ≤ τ 1) (hQ : Q ≤ τ 4) (hp : q_PR g1 (a1 21) (a1 22) q L') (hP : q_PR G1 (A1 9) (A1 10) Q L') :
    c_Cor N K cf (q_us (q_us s1 23 (nI (τ 1 + 1))) 24 (nI (τ 1 + 1)), q_ua (q_ua a1 21 (τ 1 + 1) (nI q)) 22 (τ 1 + 1) (a1 22 q + 1), vp_updL g1 (τ 1 + 1) v) (q_us (q_us S1 11 (nI (τ 4 + 1))) 12 (nI (τ 4 + 1)), q_ua (q_ua A1 9 (τ 4 + 1) (nI Q)) 10 (τ 4 + 1) (if Q = 0 then 1 else A1 10 Q + 1), vp_updL G1 (τ 4 + 1) v) (q_ut (q_ut (q_ut (q_ut τ 1 (τ 1 + 1)) 2 (τ 1 + 1)) 4 (τ 4 + 1)) 5 (τ 4 + 1)) (v :: L') ∧
    c_E 2 k (s1, a1, g1) (S1, A1, G1) τ (q_us (q_us s1 23 (nI (τ 1 + 1))) 24 (nI (τ 1 + 1)), q_ua (q_ua a1 21 (τ 1 + 1) (nI q)) 22 (τ 1 + 1) (a1 22 q + 1), vp_updL g1 (τ 1 + 1) v) (q_us (q_us S1 11 (nI (τ 4 + 1))) 12 (nI (τ 4 + 1)), q_ua (q_ua A1 9 (τ 4 + 1) (nI Q)) 10 (τ 4 + 1) (if Q = 0 then 1 else A1 10 Q + 1), vp_updL G1 (τ 4 + 1) v) (q_ut (q_ut (q_ut (q_ut τ 1 (τ 1 + 1)) 2 (τ 1 + 1)) 4 (τ 4 + 1)) 5 (τ 4 + 1)) := by
  obtain ⟨hY, hM, hDY, hDM, hCO⟩ := hC
  obtain ⟨y1, y2, y3, y4, y5, y6, y7⟩ := hDY
  obtain ⟨m1, m2, m3, m4, m5, m6⟩ := hDM
  simp only at y1 y2 y3 y4 y6 y7 m1 m2 m3 m4 m6
  have sY : ∀ j, j ≤ τ 1 → vp_updL g1 (τ 1 + 1) v j = g1 j ∧ q_ua (q_ua a1 21 (τ 1 + 1) (nI q)) 22 (τ 1 + 1) (a1 22 q + 1) 21 j = a1 21 j ∧ q_ua (q_ua a1 21 (τ 1 + 1) (nI q)) 22 (τ 1 + 1) (a1 22 q + 1) 22 j = a1 22 j := by
    intro j hj
    have e : j ≠ τ 1 + 1 := by omega
    refine ⟨pk_uLn e, ?_, ?_⟩
    · simp [ua_ne, ua_eq, up_ne, e]
    · simp [ua_ne, ua_eq, up_ne, e]
  have sM : ∀ j, j ≤ τ 4 → vp_updL G1 (τ 4 + 1) v j = G1 j ∧ q_ua (q_ua A1 9 (τ 4 + 1) (nI Q)) 10 (τ 4 + 1) (if Q = 0 then 1 else A1 10 Q + 1) 9 j = A1 9 j ∧ q_ua (q_ua A1 9 (τ 4 + 1) (nI Q)) 10 (τ 4 + 1) (if Q = 0 then 1 else A1 10 Q + 1) 10 j = A1 10 j := by
    intro j hj
    have e : j ≠ τ 4 + 1 := by omega
    refine ⟨pk_uLn e, ?_, ?_⟩
    · simp [ua_ne, ua_eq, up_ne, e]
    · simp [ua_ne, ua_eq, up_ne, e]
  refine ⟨⟨?_, ?_, ?_, ?_, ?_⟩, ?_, sY, sM, ?_, ?_, ?_⟩
  · simpa [c_Y, us_ne, ua_ne] using hY
  · simpa [c_M, us_ne, ua_ne] using hM
  · refine ⟨by simpa [us_ne, q_ut] using y1, by simp [us_ne, us_eq, q_ut], by simp [us_eq, q_ut], by simpa [us_ne, q_ut] using y4, by simp [q_ut], ?_, ?_⟩
    · exact (sY 0 (by omega)).2.2.trans y6
    · have e : (q_ut (q_ut (q_ut (q_ut τ 1 (τ 1 + 1)) 2 (τ 1 + 1)) 4 (τ 4 + 1)) 5 (τ 4 + 1)) 2 = τ 1 + 1 := by simp [q_ut]
      rw [e]
      refine ⟨q, by omega, pk_uLs, ?_, ?_, q_PR_mono sY L' q hq hp⟩
      · simp [ua_ne, ua_eq, up_eq]
      · simp [ua_eq, up_eq, PR_h y6 hp, nI_1]
  · refine ⟨by simpa [us_ne, q_ut] using m1, by simp [us_ne, us_eq, q_ut], by simp [us_eq, q_ut], by simpa [us_ne, q_ut] using m4, by simp [q_ut], ?_⟩
    have e : (q_ut (q_ut (q_ut (q_ut τ 1 (τ 1 + 1)) 2 (τ 1 + 1)) 4 (τ 4 + 1)) 5 (τ 4 + 1)) 5 = τ 4 + 1 := by simp [q_ut]
    rw [e]
    refine ⟨Q, by omega, pk_uLs, ?_, ?_, q_PR_mono sM L' Q hQ hP⟩
    · simp [ua_ne, ua_eq, up_eq]
    · cases L' with
      | nil =>
        have e0 : Q = 0 := hP
        simp [ua_eq, up_eq, e0]
        rfl
      | cons w L'' =>
        obtain ⟨q2, z1, z2, z3, z4, z5⟩ := hP
        simp [ua_eq, up_eq, show Q ≠ 0 by omega, z4, nI_1]
  · obtain ⟨x1, x2, x3, x4, x5, x6, x7⟩ := hCO
    simp only at x1 x2 x3 x4 x5 x6
    refine ⟨by simpa [us_ne] using x1, by simpa [us_ne] using x2, by simpa [us_ne] using x3, by simpa [us_ne] using x4, by simpa [ua_ne] using x5, by simpa [ua_ne, q_ut] using x6, ?_⟩
    simp only [q_ut]
    simp
    omega
  · simp only [q_ut]
    simp
    omega
  · intro j _
    simp [ua_ne]
  · intro j _
    simp [ua_ne]
  · intro i h1 h2 h3 j hj
    simp [ua_ne, show i ≠ 9 by omega, show i ≠ 10 by omega]

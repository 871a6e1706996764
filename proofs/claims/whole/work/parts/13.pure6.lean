/-! the yard's body by sort; sorts that read others -/
def c_af (s1 : q_s) (x : Int32) (s : q_s) (a : q_a) (g : q_g) : Option (Int32 × q_S) := if x = -1 then q_cv (f_X2_takeBack s a g (s1 24) (s1 33)) fun s2 a2 g2 => some (x, s2, a2, g2) else some (x, s, a, g)
theorem af_no (s1 : q_s) (s : q_s) (a : q_a) (g : q_g) : c_af s1 (-1) s a g = some (-1, q_us (q_us s 24 (s1 24)) 33 (s1 33), a, g) := rfl
theorem af_ok (s1 : q_s) {x : Int32} (hx : ¬ x = -1) (s : q_s) (a : q_a) (g : q_g) : c_af s1 x s a g = some (x, s, a, g) := if_neg hx
theorem bd_4 {n k r place o : Nat} {cf : Nat → Nat → Int32} {N K : Nat} {G : q_s → q_a → q_g → Int32 → Int32 → Int32 → Int32 → Option (Int32 × q_S)} {σ0 : q_S} {s1 : q_s} {a1 : q_a} {g1 : q_g} (hSt : c_St N K cf) (hb : f_X2_begin σ0.1 σ0.2.1 σ0.2.2 (nI r) (nI (k + 1)) = some (0, s1, a1, g1)) (hY : c_Y N K cf (s1, a1, g1)) (hr : r < K) (hty : cf 1 r = 4) :
    f_X2_follow_bd G n σ0.1 σ0.2.1 σ0.2.2 (nI r) (nI place) (nI (k + 1)) (nI o) = q_ci (G s1 a1 g1 (cf 2 r) (nI place) (nI (k + 2)) (nI o)) fun x s a g => if x < 0 then c_af s1 x s a g else q_ci (G s a g (a 4 r) x (nI (k + 2)) (nI o)) fun x s a g => c_af s1 x s a g := by
  have hr5 : r < 50 := Nat.lt_of_lt_of_le hr hSt.2.2.1
  obtain ⟨y1, y2, y3, y4, y5⟩ := hY
  obtain ⟨e2, e3, e4⟩ := y4 r hr
  simp only at e2 e3 e4
  have ek : nI (k + 1) + 1 = nI (k + 2) := nI_1 (k + 1)
  unfold f_X2_follow_bd
  rw [hb, q_ci_s]
  simp only [if_true, q_ck_in hr5 (by decide), nI_clamp (show r < 2 ^ 31 by omega), e2, e3, hty, ek]
  rfl
theorem bd_5 {n k r place o : Nat} {cf : Nat → Nat → Int32} {N K : Nat} {G : q_s → q_a → q_g → Int32 → Int32 → Int32 → Int32 → Option (Int32 × q_S)} {σ0 : q_S} {s1 : q_s} {a1 : q_a} {g1 : q_g} (hSt : c_St N K cf) (hb : f_X2_begin σ0.1 σ0.2.1 σ0.2.2 (nI r) (nI (k + 1)) = some (0, s1, a1, g1)) (hY : c_Y N K cf (s1, a1, g1)) (hr : r < K) (hty : cf 1 r = 5) (hk : k < 150) :
    f_X2_follow_bd G n σ0.1 σ0.2.1 σ0.2.2 (nI r) (nI place) (nI (k + 1)) (nI o) = q_ci (G s1 (q_ua a1 8 (k + 1) 0) g1 (cf 2 r) (nI place) (nI (k + 2)) (nI (k + 1))) fun x s a g => if x = -1 then (if a 8 (k + 1) = 0 then q_ci (G s a g (a 4 r) (nI place) (nI (k + 2)) (nI o)) fun x s a g => c_af s1 x s a g else c_af s1 x s a g) else c_af s1 x s a g := by
  have hr5 : r < 50 := Nat.lt_of_lt_of_le hr hSt.2.2.1
  obtain ⟨y1, y2, y3, y4, y5⟩ := hY
  obtain ⟨e2, e3, e4⟩ := y4 r hr
  simp only at e2 e3 e4
  have ek : nI (k + 1) + 1 = nI (k + 2) := nI_1 (k + 1)
  unfold f_X2_follow_bd
  rw [hb, q_ci_s]
  simp only [if_true, q_ck_in hr5 (by decide), nI_clamp (show r < 2 ^ 31 by omega), e2, e3, hty, ek]
  simp only [q_ck_in (show k + 1 < 151 by omega) (by decide), nI_clamp (show k + 1 < 2 ^ 31 by omega), q_bd_b]
  rfl
theorem bd_6 {n k r place o : Nat} {cf : Nat → Nat → Int32} {N K : Nat} {G : q_s → q_a → q_g → Int32 → Int32 → Int32 → Int32 → Option (Int32 × q_S)} {σ0 : q_S} {s1 : q_s} {a1 : q_a} {g1 : q_g} (hSt : c_St N K cf) (hb : f_X2_begin σ0.1 σ0.2.1 σ0.2.2 (nI r) (nI (k + 1)) = some (0, s1, a1, g1)) (hY : c_Y N K cf (s1, a1, g1)) (hr : r < K) (hty : cf 1 r = 6) :
    f_X2_follow_bd G n σ0.1 σ0.2.1 σ0.2.2 (nI r) (nI place) (nI (k + 1)) (nI o) = f_X2_follow_lp G n n s1 a1 g1 (nI r) (nI place) (nI (k + 1)) (nI o) (s1 24) (s1 33) (cf 2 r) (nI place) 0 := by
  have hr5 : r < 50 := Nat.lt_of_lt_of_le hr hSt.2.2.1
  obtain ⟨y1, y2, y3, y4, y5⟩ := hY
  obtain ⟨e2, e3, e4⟩ := y4 r hr
  simp only at e2 e3 e4
  have ek : nI (k + 1) + 1 = nI (k + 2) := nI_1 (k + 1)
  unfold f_X2_follow_bd
  rw [hb, q_ci_s]
  simp only [if_true, q_ck_in hr5 (by decide), nI_clamp (show r < 2 ^ 31 by omega), e2, e3, hty, ek]
  rfl
theorem bd_t {n k r place o : Nat} {cf : Nat → Nat → Int32} {N K : Nat} {G : q_s → q_a → q_g → Int32 → Int32 → Int32 → Int32 → Option (Int32 × q_S)} {σ0 : q_S} {s1 : q_s} {a1 : q_a} {g1 : q_g} (hSt : c_St N K cf) (hb : f_X2_begin σ0.1 σ0.2.1 σ0.2.2 (nI r) (nI (k + 1)) = some (0, s1, a1, g1)) (hY : c_Y N K cf (s1, a1, g1)) (hr : r < K) {ty : Nat} (hty : cf 1 r = nI ty) (ht : ty = 7 ∨ ty = 8 ∨ ty = 9 ∨ ty = 11) :
    f_X2_follow_bd G n σ0.1 σ0.2.1 σ0.2.2 (nI r) (nI place) (nI (k + 1)) (nI o) = q_ci (G s1 a1 g1 (cf 2 r) (nI place) (nI (k + 2)) (nI o)) fun x s a g => q_ci (f_X2_turn s a g (nI r) (nI place) x (s1 24) (s1 33)) fun x s a g => c_af s1 x s a g := by
  have hr5 : r < 50 := Nat.lt_of_lt_of_le hr hSt.2.2.1
  obtain ⟨y1, y2, y3, y4, y5⟩ := hY
  obtain ⟨e2, e3, e4⟩ := y4 r hr
  simp only at e2 e3 e4
  have ek : nI (k + 1) + 1 = nI (k + 2) := nI_1 (k + 1)
  unfold f_X2_follow_bd
  rw [hb, q_ci_s]
  simp only [if_true, q_ck_in hr5 (by decide), nI_clamp (show r < 2 ^ 31 by omega), e2, e3, hty, ek]
  rcases ht with rfl | rfl | rfl | rfl <;> rfl
theorem bd_10 {n k r place o : Nat} {cf : Nat → Nat → Int32} {N K : Nat} {G : q_s → q_a → q_g → Int32 → Int32 → Int32 → Int32 → Option (Int32 × q_S)} {σ0 : q_S} {s1 : q_s} {a1 : q_a} {g1 : q_g} (hSt : c_St N K cf) (hb : f_X2_begin σ0.1 σ0.2.1 σ0.2.2 (nI r) (nI (k + 1)) = some (0, s1, a1, g1)) (hY : c_Y N K cf (s1, a1, g1)) (hr : r < K) {i : Nat} (hty : cf 1 r = 10) (hi : i < 10) (hi2 : cf 2 r = nI i) :
    f_X2_follow_bd G n σ0.1 σ0.2.1 σ0.2.2 (nI r) (nI place) (nI (k + 1)) (nI o) = if cf 4 i = -1 then some (-11, s1, a1, g1) else q_ci (G s1 a1 g1 (cf 4 i) (nI place) (nI (k + 2)) (nI o)) fun x s a g => c_af s1 x s a g := by
  have hr5 : r < 50 := Nat.lt_of_lt_of_le hr hSt.2.2.1
  obtain ⟨y1, y2, y3, y4, y5⟩ := hY
  obtain ⟨e2, e3, e4⟩ := y4 r hr
  simp only at e2 e3 e4
  have ek : nI (k + 1) + 1 = nI (k + 2) := nI_1 (k + 1)
  unfold f_X2_follow_bd
  rw [hb, q_ci_s]
  simp only [if_true, q_ck_in hr5 (by decide), nI_clamp (show r < 2 ^ 31 by omega), e2, e3, hty, ek]
  have e7 : a1 7 i = cf 4 i := y5 i hi
  simp only [hi2, q_ck_in hi (by decide), nI_clamp (show i < 2 ^ 31 by omega), e7]
  by_cases c : cf 4 i = -1
  · simp only [c, if_true]; rfl
  · simp only [c, if_false]; rfl
theorem nr_bump {cf : Nat → Nat → Int32} {k r : Nat} {S S' : q_s} {A A' : q_a} {G G' : q_g} (h18 : A' 18 k = nI r) (hr : r < 2 ^ 31) (hf : ∀ j, j < k → A' 18 j = A 18 j ∧ A' 19 j = A 19 j) (hno : ¬ (cf 1 r = 5 ∧ A' 19 k = 1)) : c_nr cf (S', A', G') (k + 1) = c_nr cf (S, A, G) k := by
  show (if _ then _ else _) = _
  rw [if_neg (by show ¬ (cf 1 ((A' 18 k).toNatClampNeg) = 5 ∧ A' 19 k = 1); rw [h18, nI_clamp hr]; exact hno)]
  exact c_nr_congr k hf
theorem nr_or {cf : Nat → Nat → Int32} {k r : Nat} {S' : q_s} {A' : q_a} {G' : q_g} (h18 : A' 18 k = nI r) (hr : r < 2 ^ 31) (h1 : cf 1 r = 5) (h2 : A' 19 k = 1) : c_nr cf (S', A', G') (k + 1) = k + 1 := by
  show (if _ then _ else _) = _
  rw [if_pos (by show cf 1 ((A' 18 k).toNatClampNeg) = 5 ∧ A' 19 k = 1; rw [h18, nI_clamp hr]; exact ⟨h1, h2⟩)]
theorem go0_j {n N K k r place : Nat} {cf : Nat → Nat → Int32} {s : q_s} {a : q_a} {g : q_g} (hSt : c_St N K cf) (hM : c_M N K cf (s, a, g)) (hk : k < 150) (hr : r < K) (h17 : s 17 = nI (k + 1)) (h18 : a 18 k = nI r) (h20 : a 20 k = nI place) {ty : Nat} (hty : cf 1 r = nI ty) (ht : ty = 4 ∨ ty = 5 ∨ ty = 7 ∨ ty = 8 ∨ ty = 9) (h19 : a 19 k = 0) : f_X3_goesOn n s a g = f_X3_begin s (q_ua a 19 k 1) g (cf 2 r) (nI place) := by
  have hr5 : r < 50 := Nat.lt_of_lt_of_le hr hSt.2.2.1
  obtain ⟨y1, y2, y3, y4, y5⟩ := id hM
  obtain ⟨e2, e3, e4⟩ := y4 r hr
  simp only at y1 y2 y5 e2 e3 e4
  rw [go_joins (ty := ty) hk h17 h18 hr5 (e2.trans hty) (by omega) (by omega)]
  unfold f_X3_joins
  simp only [q_ck_in hk (by decide), nI_clamp (show k < 2 ^ 31 by omega), q_ck_in hr5 (by decide), nI_clamp (show r < 2 ^ 31 by omega), e2, e3, e4, hty, h20, q_cv_id, asks_eq hk h17, h19, if_true]
  rw [if_neg (by rcases ht with rfl | rfl | rfl | rfl | rfl <;> decide)]
  rfl
theorem go0_11 {n N K k r place : Nat} {cf : Nat → Nat → Int32} {s : q_s} {a : q_a} {g : q_g} (hSt : c_St N K cf) (hM : c_M N K cf (s, a, g)) (hk : k < 150) (hr : r < K) (h17 : s 17 = nI (k + 1)) (h18 : a 18 k = nI r) (h20 : a 20 k = nI place) (hty : cf 1 r = nI 11) (h19 : a 19 k = 0) : f_X3_goesOn n s a g = f_X3_begin s (q_ua a 19 k 1) g (cf 2 r) (nI place) := by
  have hr5 : r < 50 := Nat.lt_of_lt_of_le hr hSt.2.2.1
  obtain ⟨y1, y2, y3, y4, y5⟩ := id hM
  obtain ⟨e2, e3, e4⟩ := y4 r hr
  simp only at y1 y2 y5 e2 e3 e4
  rw [go_others (ty := 11) hk h17 h18 hr5 (e2.trans hty) (by omega) (by omega)]
  unfold f_X3_others
  simp only [q_ck_in hk (by decide), nI_clamp (show k < 2 ^ 31 by omega), q_ck_in hr5 (by decide), nI_clamp (show r < 2 ^ 31 by omega), e2, e3, e4, hty, h20, q_cv_id, asks_eq hk h17, h19, if_true]
  rfl
theorem go0_10 {n N K k r place : Nat} {cf : Nat → Nat → Int32} {s : q_s} {a : q_a} {g : q_g} (hSt : c_St N K cf) (hM : c_M N K cf (s, a, g)) (hk : k < 150) (hr : r < K) (h17 : s 17 = nI (k + 1)) (h18 : a 18 k = nI r) (h20 : a 20 k = nI place) {i : Nat} (hty : cf 1 r = nI 10) (h19 : a 19 k = 0) (hi : i < 10) (hi2 : cf 2 r = nI i) : f_X3_goesOn n s a g = if cf 4 i = -1 then some (q_us s 30 1, a, g) else f_X3_begin s (q_ua a 19 k 1) g (cf 4 i) (nI place) := by
  have hr5 : r < 50 := Nat.lt_of_lt_of_le hr hSt.2.2.1
  obtain ⟨y1, y2, y3, y4, y5⟩ := id hM
  obtain ⟨e2, e3, e4⟩ := y4 r hr
  simp only at y1 y2 y5 e2 e3 e4
  rw [go_others (ty := 10) hk h17 h18 hr5 (e2.trans hty) (by omega) (by omega)]
  unfold f_X3_others
  simp only [q_ck_in hk (by decide), nI_clamp (show k < 2 ^ 31 by omega), q_ck_in hr5 (by decide), nI_clamp (show r < 2 ^ 31 by omega), e2, e3, e4, hty, h20, q_cv_id, asks_eq hk h17, h19, hi2, q_ck_in hi (by decide), nI_clamp (show i < 2 ^ 31 by omega), y5 i hi, q_bd_b]
  rfl
theorem go1_10 {n N K k r place : Nat} {cf : Nat → Nat → Int32} {s : q_s} {a : q_a} {g : q_g} (hSt : c_St N K cf) (hM : c_M N K cf (s, a, g)) (hk : k < 150) (hr : r < K) (h17 : s 17 = nI (k + 1)) (h18 : a 18 k = nI r) (h20 : a 20 k = nI place) (hty : cf 1 r = nI 10) (h19 : a 19 k = 1) : f_X3_goesOn n s a g = f_X3_ends s a g (s 29) := by
  have hr5 : r < 50 := Nat.lt_of_lt_of_le hr hSt.2.2.1
  obtain ⟨y1, y2, y3, y4, y5⟩ := id hM
  obtain ⟨e2, e3, e4⟩ := y4 r hr
  simp only at y1 y2 y5 e2 e3 e4
  rw [go_others (ty := 10) hk h17 h18 hr5 (e2.trans hty) (by omega) (by omega)]
  unfold f_X3_others
  simp only [q_ck_in hk (by decide), nI_clamp (show k < 2 ^ 31 by omega), q_ck_in hr5 (by decide), nI_clamp (show r < 2 ^ 31 by omega), e2, e3, e4, hty, h20, q_cv_id, asks_eq hk h17, h19]
  rfl
theorem go1_4n {n N K k r place : Nat} {cf : Nat → Nat → Int32} {s : q_s} {a : q_a} {g : q_g} (hSt : c_St N K cf) (hM : c_M N K cf (s, a, g)) (hk : k < 150) (hr : r < K) (h17 : s 17 = nI (k + 1)) (h18 : a 18 k = nI r) (h20 : a 20 k = nI place) (hty : cf 1 r = nI 4) (h19 : a 19 k = 1) (h29 : s 29 = -1) : f_X3_goesOn n s a g = f_X3_ends s a g (-1) := by
  have hr5 : r < 50 := Nat.lt_of_lt_of_le hr hSt.2.2.1
  obtain ⟨y1, y2, y3, y4, y5⟩ := id hM
  obtain ⟨e2, e3, e4⟩ := y4 r hr
  simp only at y1 y2 y5 e2 e3 e4
  rw [go_joins (ty := 4) hk h17 h18 hr5 (e2.trans hty) (by omega) (by omega)]
  unfold f_X3_joins
  simp only [q_ck_in hk (by decide), nI_clamp (show k < 2 ^ 31 by omega), q_ck_in hr5 (by decide), nI_clamp (show r < 2 ^ 31 by omega), e2, e3, e4, hty, h20, q_cv_id, asks_eq hk h17, h19, h29]
  rfl
theorem go1_4y {n N K k r place : Nat} {cf : Nat → Nat → Int32} {s : q_s} {a : q_a} {g : q_g} (hSt : c_St N K cf) (hM : c_M N K cf (s, a, g)) (hk : k < 150) (hr : r < K) (h17 : s 17 = nI (k + 1)) (h18 : a 18 k = nI r) (h20 : a 20 k = nI place) (hty : cf 1 r = nI 4) (h19 : a 19 k = 1) (h29 : ¬ s 29 = -1) : f_X3_goesOn n s a g = f_X3_begin s (q_ua a 19 k 2) g (cf 3 r) (s 29) := by
  have hr5 : r < 50 := Nat.lt_of_lt_of_le hr hSt.2.2.1
  obtain ⟨y1, y2, y3, y4, y5⟩ := id hM
  obtain ⟨e2, e3, e4⟩ := y4 r hr
  simp only at y1 y2 y5 e2 e3 e4
  rw [go_joins (ty := 4) hk h17 h18 hr5 (e2.trans hty) (by omega) (by omega)]
  unfold f_X3_joins
  simp only [q_ck_in hk (by decide), nI_clamp (show k < 2 ^ 31 by omega), q_ck_in hr5 (by decide), nI_clamp (show r < 2 ^ 31 by omega), e2, e3, e4, hty, h20, q_cv_id, asks_eq hk h17, h19, if_neg h29]
  rfl
theorem go2_4 {n N K k r place : Nat} {cf : Nat → Nat → Int32} {s : q_s} {a : q_a} {g : q_g} (hSt : c_St N K cf) (hM : c_M N K cf (s, a, g)) (hk : k < 150) (hr : r < K) (h17 : s 17 = nI (k + 1)) (h18 : a 18 k = nI r) (h20 : a 20 k = nI place) (hty : cf 1 r = nI 4) (h19 : a 19 k = 2) : f_X3_goesOn n s a g = f_X3_ends s a g (s 29) := by
  have hr5 : r < 50 := Nat.lt_of_lt_of_le hr hSt.2.2.1
  obtain ⟨y1, y2, y3, y4, y5⟩ := id hM
  obtain ⟨e2, e3, e4⟩ := y4 r hr
  simp only at y1 y2 y5 e2 e3 e4
  rw [go_joins (ty := 4) hk h17 h18 hr5 (e2.trans hty) (by omega) (by omega)]
  unfold f_X3_joins
  simp only [q_ck_in hk (by decide), nI_clamp (show k < 2 ^ 31 by omega), q_ck_in hr5 (by decide), nI_clamp (show r < 2 ^ 31 by omega), e2, e3, e4, hty, h20, q_cv_id, asks_eq hk h17, h19]
  by_cases h29 : s 29 = -1
  · simp only [h29, if_true]; rfl
  · simp only [h29, if_false]; rfl
theorem go1_5y {n N K k r place : Nat} {cf : Nat → Nat → Int32} {s : q_s} {a : q_a} {g : q_g} (hSt : c_St N K cf) (hM : c_M N K cf (s, a, g)) (hk : k < 150) (hr : r < K) (h17 : s 17 = nI (k + 1)) (h18 : a 18 k = nI r) (h20 : a 20 k = nI place) (hty : cf 1 r = nI 5) (h19 : a 19 k = 1) (h29 : ¬ s 29 = -1) : f_X3_goesOn n s a g = f_X3_ends s a g (s 29) := by
  have hr5 : r < 50 := Nat.lt_of_lt_of_le hr hSt.2.2.1
  obtain ⟨y1, y2, y3, y4, y5⟩ := id hM
  obtain ⟨e2, e3, e4⟩ := y4 r hr
  simp only at y1 y2 y5 e2 e3 e4
  rw [go_joins (ty := 5) hk h17 h18 hr5 (e2.trans hty) (by omega) (by omega)]
  unfold f_X3_joins
  simp only [q_ck_in hk (by decide), nI_clamp (show k < 2 ^ 31 by omega), q_ck_in hr5 (by decide), nI_clamp (show r < 2 ^ 31 by omega), e2, e3, e4, hty, h20, q_cv_id, asks_eq hk h17, h19, if_neg h29]
  rfl
theorem go1_5n {n N K k r place : Nat} {cf : Nat → Nat → Int32} {s : q_s} {a : q_a} {g : q_g} (hSt : c_St N K cf) (hM : c_M N K cf (s, a, g)) (hk : k < 150) (hr : r < K) (h17 : s 17 = nI (k + 1)) (h18 : a 18 k = nI r) (h20 : a 20 k = nI place) (hty : cf 1 r = nI 5) (h19 : a 19 k = 1) (h29 : s 29 = -1) : f_X3_goesOn n s a g = if a 22 k = 0 then f_X3_begin s (q_ua a 19 k 2) g (cf 3 r) (nI place) else f_X3_ends s a g (-1) := by
  have hr5 : r < 50 := Nat.lt_of_lt_of_le hr hSt.2.2.1
  obtain ⟨y1, y2, y3, y4, y5⟩ := id hM
  obtain ⟨e2, e3, e4⟩ := y4 r hr
  simp only at y1 y2 y5 e2 e3 e4
  rw [go_joins (ty := 5) hk h17 h18 hr5 (e2.trans hty) (by omega) (by omega)]
  unfold f_X3_joins
  simp only [q_ck_in hk (by decide), nI_clamp (show k < 2 ^ 31 by omega), q_ck_in hr5 (by decide), nI_clamp (show r < 2 ^ 31 by omega), e2, e3, e4, hty, h20, q_cv_id, asks_eq hk h17, h19, h29]
  rfl
theorem go2_5 {n N K k r place : Nat} {cf : Nat → Nat → Int32} {s : q_s} {a : q_a} {g : q_g} (hSt : c_St N K cf) (hM : c_M N K cf (s, a, g)) (hk : k < 150) (hr : r < K) (h17 : s 17 = nI (k + 1)) (h18 : a 18 k = nI r) (h20 : a 20 k = nI place) (hty : cf 1 r = nI 5) (h19 : a 19 k = 2) : f_X3_goesOn n s a g = f_X3_ends s a g (s 29) := by
  have hr5 : r < 50 := Nat.lt_of_lt_of_le hr hSt.2.2.1
  obtain ⟨y1, y2, y3, y4, y5⟩ := id hM
  obtain ⟨e2, e3, e4⟩ := y4 r hr
  simp only at y1 y2 y5 e2 e3 e4
  rw [go_joins (ty := 5) hk h17 h18 hr5 (e2.trans hty) (by omega) (by omega)]
  unfold f_X3_joins
  simp only [q_ck_in hk (by decide), nI_clamp (show k < 2 ^ 31 by omega), q_ck_in hr5 (by decide), nI_clamp (show r < 2 ^ 31 by omega), e2, e3, e4, hty, h20, q_cv_id, asks_eq hk h17, h19]
  by_cases h29 : s 29 = -1
  · simp only [h29, if_true]; rfl
  · simp only [h29, if_false]; rfl
theorem go1_7 {n N K k r place : Nat} {cf : Nat → Nat → Int32} {s : q_s} {a : q_a} {g : q_g} (hSt : c_St N K cf) (hM : c_M N K cf (s, a, g)) (hk : k < 150) (hr : r < K) (h17 : s 17 = nI (k + 1)) (h18 : a 18 k = nI r) (h20 : a 20 k = nI place) (hty : cf 1 r = nI 7) (h19 : a 19 k = 1) : f_X3_goesOn n s a g = f_X3_ends s a g (if s 29 = -1 then nI place else s 29) := by
  have hr5 : r < 50 := Nat.lt_of_lt_of_le hr hSt.2.2.1
  obtain ⟨y1, y2, y3, y4, y5⟩ := id hM
  obtain ⟨e2, e3, e4⟩ := y4 r hr
  simp only at y1 y2 y5 e2 e3 e4
  rw [go_joins (ty := 7) hk h17 h18 hr5 (e2.trans hty) (by omega) (by omega)]
  unfold f_X3_joins
  simp only [q_ck_in hk (by decide), nI_clamp (show k < 2 ^ 31 by omega), q_ck_in hr5 (by decide), nI_clamp (show r < 2 ^ 31 by omega), e2, e3, e4, hty, h20, q_cv_id, asks_eq hk h17, h19]
  by_cases h29 : s 29 = -1
  · simp only [h29, if_true]; rfl
  · simp only [h29, if_false]; rfl
theorem go1_8 {n N K k r place : Nat} {cf : Nat → Nat → Int32} {s : q_s} {a : q_a} {g : q_g} (hSt : c_St N K cf) (hM : c_M N K cf (s, a, g)) (hk : k < 150) (hr : r < K) (h17 : s 17 = nI (k + 1)) (h18 : a 18 k = nI r) (h20 : a 20 k = nI place) (hty : cf 1 r = nI 8) (h19 : a 19 k = 1) : f_X3_goesOn n s a g = f_X3_ends s a g (if s 29 = -1 then nI place else -1) := by
  have hr5 : r < 50 := Nat.lt_of_lt_of_le hr hSt.2.2.1
  obtain ⟨y1, y2, y3, y4, y5⟩ := id hM
  obtain ⟨e2, e3, e4⟩ := y4 r hr
  simp only at y1 y2 y5 e2 e3 e4
  rw [go_joins (ty := 8) hk h17 h18 hr5 (e2.trans hty) (by omega) (by omega)]
  unfold f_X3_joins
  simp only [q_ck_in hk (by decide), nI_clamp (show k < 2 ^ 31 by omega), q_ck_in hr5 (by decide), nI_clamp (show r < 2 ^ 31 by omega), e2, e3, e4, hty, h20, q_cv_id, asks_eq hk h17, h19]
  by_cases h29 : s 29 = -1
  · simp only [h29, if_true]; rfl
  · simp only [h29, if_false]; rfl
theorem go1_9n {n N K k r place : Nat} {cf : Nat → Nat → Int32} {s : q_s} {a : q_a} {g : q_g} (hSt : c_St N K cf) (hM : c_M N K cf (s, a, g)) (hk : k < 150) (hr : r < K) (h17 : s 17 = nI (k + 1)) (h18 : a 18 k = nI r) (h20 : a 20 k = nI place) (hty : cf 1 r = nI 9) (h19 : a 19 k = 1) (h29 : s 29 = -1) : f_X3_goesOn n s a g = f_X3_ends s a g (-1) := by
  have hr5 : r < 50 := Nat.lt_of_lt_of_le hr hSt.2.2.1
  obtain ⟨y1, y2, y3, y4, y5⟩ := id hM
  obtain ⟨e2, e3, e4⟩ := y4 r hr
  simp only at y1 y2 y5 e2 e3 e4
  rw [go_joins (ty := 9) hk h17 h18 hr5 (e2.trans hty) (by omega) (by omega)]
  unfold f_X3_joins
  simp only [q_ck_in hk (by decide), nI_clamp (show k < 2 ^ 31 by omega), q_ck_in hr5 (by decide), nI_clamp (show r < 2 ^ 31 by omega), e2, e3, e4, hty, h20, q_cv_id, asks_eq hk h17, h19, h29]
  rfl
theorem go1_9y {n N K k r place : Nat} {cf : Nat → Nat → Int32} {s : q_s} {a : q_a} {g : q_g} (hSt : c_St N K cf) (hM : c_M N K cf (s, a, g)) (hk : k < 150) (hr : r < K) (h17 : s 17 = nI (k + 1)) (h18 : a 18 k = nI r) (h20 : a 20 k = nI place) (hty : cf 1 r = nI 9) (h19 : a 19 k = 1) (h29 : ¬ s 29 = -1) : f_X3_goesOn n s a g = f_X3_ends (q_us (q_us (q_us s 12 (a 23 k)) 11 (a 24 k)) 13 (a 25 k)) a g (nI place) := by
  have hr5 : r < 50 := Nat.lt_of_lt_of_le hr hSt.2.2.1
  obtain ⟨y1, y2, y3, y4, y5⟩ := id hM
  obtain ⟨e2, e3, e4⟩ := y4 r hr
  simp only at y1 y2 y5 e2 e3 e4
  rw [go_joins (ty := 9) hk h17 h18 hr5 (e2.trans hty) (by omega) (by omega)]
  unfold f_X3_joins f_X3_takeBack
  simp only [q_ck_in hk (by decide), nI_clamp (show k < 2 ^ 31 by omega), q_ck_in hr5 (by decide), nI_clamp (show r < 2 ^ 31 by omega), e2, e3, e4, hty, h20, q_cv_id, asks_eq hk h17, h19, if_neg h29, q_bd_b, q_cv_s]
  rfl
theorem go1_11n {n N K k r place : Nat} {cf : Nat → Nat → Int32} {s : q_s} {a : q_a} {g : q_g} (hSt : c_St N K cf) (hM : c_M N K cf (s, a, g)) (hk : k < 150) (hr : r < K) (h17 : s 17 = nI (k + 1)) (h18 : a 18 k = nI r) (h20 : a 20 k = nI place) (hty : cf 1 r = nI 11) (h19 : a 19 k = 1) (h29 : s 29 = -1) : f_X3_goesOn n s a g = f_X3_ends s a g (-1) := by
  have hr5 : r < 50 := Nat.lt_of_lt_of_le hr hSt.2.2.1
  obtain ⟨y1, y2, y3, y4, y5⟩ := id hM
  obtain ⟨e2, e3, e4⟩ := y4 r hr
  simp only at y1 y2 y5 e2 e3 e4
  rw [go_others (ty := 11) hk h17 h18 hr5 (e2.trans hty) (by omega) (by omega)]
  unfold f_X3_others
  simp only [q_ck_in hk (by decide), nI_clamp (show k < 2 ^ 31 by omega), q_ck_in hr5 (by decide), nI_clamp (show r < 2 ^ 31 by omega), e2, e3, e4, hty, h20, q_cv_id, asks_eq hk h17, h19, h29]
  rfl
theorem go1_11y {n N K k r place : Nat} {cf : Nat → Nat → Int32} {s : q_s} {a : q_a} {g : q_g} (hSt : c_St N K cf) (hM : c_M N K cf (s, a, g)) (hk : k < 150) (hr : r < K) (h17 : s 17 = nI (k + 1)) (h18 : a 18 k = nI r) (h20 : a 20 k = nI place) {c : Nat} (hty : cf 1 r = nI 11) (h19 : a 19 k = 1) (h29 : ¬ s 29 = -1) (h13 : s 13 = nI c) (hc : c < 3001) : f_X3_goesOn n s a g = f_X3_ends (q_us s 13 (nI (c + 1))) (q_ua (q_ua (q_ua a 14 c (cf 3 r)) 15 c (nI place)) 16 c (s 29)) g (s 29) := by
  have hr5 : r < 50 := Nat.lt_of_lt_of_le hr hSt.2.2.1
  obtain ⟨y1, y2, y3, y4, y5⟩ := id hM
  obtain ⟨e2, e3, e4⟩ := y4 r hr
  simp only at y1 y2 y5 e2 e3 e4
  rw [go_others (ty := 11) hk h17 h18 hr5 (e2.trans hty) (by omega) (by omega)]
  unfold f_X3_others
  simp only [q_ck_in hk (by decide), nI_clamp (show k < 2 ^ 31 by omega), q_ck_in hr5 (by decide), nI_clamp (show r < 2 ^ 31 by omega), e2, e3, e4, hty, h20, q_cv_id, asks_eq hk h17, h19, if_neg h29, h13, q_ck_in hc (by decide), nI_clamp (show c < 2 ^ 31 by omega), q_bd_b, nI_1, us_ne _ _ (show (29 : Nat) ≠ 13 by decide)]
  rfl

/-! sorts 12 to 15 -/
theorem rA_12 {n N K r place : Nat} {cf : Nat → Nat → Int32} {s : q_s} {a : q_a} {g : q_g} (hSt : c_St N K cf) (hY : c_Y N K cf (s, a, g)) (hr : r < K) {o : Nat} (ho : o < 151) (hty : cf 1 r = nI 12) : f_X2_readAlone n s a g (nI r) (nI place) (nI o) = some (nI place, s, q_ua a 8 o 1, g) := by
  have hr5 : r < 50 := Nat.lt_of_lt_of_le hr hSt.2.2.1
  obtain ⟨y1, y2, y3, y4, y5⟩ := hY
  obtain ⟨e2, e3, e4⟩ := y4 r hr
  simp only at e2 e3 e4
  unfold f_X2_readAlone
  simp only [q_ck_in hr5 (by decide), nI_clamp (show r < 2 ^ 31 by omega), e2, e3, hty, q_ci_id]
  simp only [q_ck_in ho (by decide), nI_clamp (show o < 2 ^ 31 by omega), q_bd_b]
  rfl
theorem rA_13 {n N K r place : Nat} {cf : Nat → Nat → Int32} {s : q_s} {a : q_a} {g : q_g} (hSt : c_St N K cf) (hY : c_Y N K cf (s, a, g)) (hr : r < K) {o : Int32} (hty : cf 1 r = nI 13) : f_X2_readAlone n s a g (nI r) (nI place) o = q_cv (f_X1_lay n s a g ((cf 2 r).toInt64) 0) fun s a g => some (nI place, s, a, g) := by
  have hr5 : r < 50 := Nat.lt_of_lt_of_le hr hSt.2.2.1
  obtain ⟨y1, y2, y3, y4, y5⟩ := hY
  obtain ⟨e2, e3, e4⟩ := y4 r hr
  simp only at e2 e3 e4
  unfold f_X2_readAlone
  simp only [q_ck_in hr5 (by decide), nI_clamp (show r < 2 ^ 31 by omega), e2, e3, hty, q_ci_id]
  rfl
theorem rA_14 {n N K r place : Nat} {cf : Nat → Nat → Int32} {s : q_s} {a : q_a} {g : q_g} (hSt : c_St N K cf) (hY : c_Y N K cf (s, a, g)) (hr : r < K) {o : Int32} (hty : cf 1 r = nI 14) : f_X2_readAlone n s a g (nI r) (nI place) o = f_X2_readFigure n s a g (nI place) := by
  have hr5 : r < 50 := Nat.lt_of_lt_of_le hr hSt.2.2.1
  obtain ⟨y1, y2, y3, y4, y5⟩ := hY
  obtain ⟨e2, e3, e4⟩ := y4 r hr
  simp only at e2 e3 e4
  unfold f_X2_readAlone
  simp only [q_ck_in hr5 (by decide), nI_clamp (show r < 2 ^ 31 by omega), e2, e3, hty, q_ci_id]
  rfl
theorem rA_15 {n N K r place : Nat} {cf : Nat → Nat → Int32} {s : q_s} {a : q_a} {g : q_g} (hSt : c_St N K cf) (hY : c_Y N K cf (s, a, g)) (hr : r < K) {o : Int32} (hty : cf 1 r = nI 15) : f_X2_readAlone n s a g (nI r) (nI place) o = f_X2_act n s a g (cf 2 r) (nI place) := by
  have hr5 : r < 50 := Nat.lt_of_lt_of_le hr hSt.2.2.1
  obtain ⟨y1, y2, y3, y4, y5⟩ := hY
  obtain ⟨e2, e3, e4⟩ := y4 r hr
  simp only at e2 e3 e4
  unfold f_X2_readAlone
  simp only [q_ck_in hr5 (by decide), nI_clamp (show r < 2 ^ 31 by omega), e2, e3, hty, q_ci_id]
  rfl
theorem go_12 {n N K k r place : Nat} {cf : Nat → Nat → Int32} {s : q_s} {a : q_a} {g : q_g} (hSt : c_St N K cf) (hM : c_M N K cf (s, a, g)) (hk : k < 150) (hr : r < K) (h17 : s 17 = nI (k + 1)) (h18 : a 18 k = nI r) (h20 : a 20 k = nI place) (hty : cf 1 r = nI 12) : f_X3_goesOn n s a g = q_cv (f_X3_bars n s a g (nI k)) fun s a g => f_X3_ends s a g (nI place) := by
  have hr5 : r < 50 := Nat.lt_of_lt_of_le hr hSt.2.2.1
  obtain ⟨y1, y2, y3, y4, y5⟩ := id hM
  obtain ⟨e2, e3, e4⟩ := y4 r hr
  simp only at y1 y2 y5 e2 e3 e4
  rw [go_others (ty := 12) hk h17 h18 hr5 (e2.trans hty) (by omega) (by omega)]
  unfold f_X3_others
  simp only [q_ck_in hk (by decide), nI_clamp (show k < 2 ^ 31 by omega), q_ck_in hr5 (by decide), nI_clamp (show r < 2 ^ 31 by omega), e2, e3, e4, hty, h20, q_cv_id]
  rfl
theorem go_13 {n N K k r place : Nat} {cf : Nat → Nat → Int32} {s : q_s} {a : q_a} {g : q_g} (hSt : c_St N K cf) (hM : c_M N K cf (s, a, g)) (hk : k < 150) (hr : r < K) (h17 : s 17 = nI (k + 1)) (h18 : a 18 k = nI r) (h20 : a 20 k = nI place) (hty : cf 1 r = nI 13) : f_X3_goesOn n s a g = q_cv (f_X3_lay s a g ((cf 2 r).toInt64) (s 12)) fun s a g => f_X3_ends s a g (nI place) := by
  have hr5 : r < 50 := Nat.lt_of_lt_of_le hr hSt.2.2.1
  obtain ⟨y1, y2, y3, y4, y5⟩ := id hM
  obtain ⟨e2, e3, e4⟩ := y4 r hr
  simp only at y1 y2 y5 e2 e3 e4
  rw [go_others (ty := 13) hk h17 h18 hr5 (e2.trans hty) (by omega) (by omega)]
  unfold f_X3_others
  simp only [q_ck_in hk (by decide), nI_clamp (show k < 2 ^ 31 by omega), q_ck_in hr5 (by decide), nI_clamp (show r < 2 ^ 31 by omega), e2, e3, e4, hty, h20, q_cv_id]
  rfl
theorem go_14 {n N K k r place : Nat} {cf : Nat → Nat → Int32} {s : q_s} {a : q_a} {g : q_g} (hSt : c_St N K cf) (hM : c_M N K cf (s, a, g)) (hk : k < 150) (hr : r < K) (h17 : s 17 = nI (k + 1)) (h18 : a 18 k = nI r) (h20 : a 20 k = nI place) (hty : cf 1 r = nI 14) : f_X3_goesOn n s a g = f_X3_figure s a g (nI place) := by
  have hr5 : r < 50 := Nat.lt_of_lt_of_le hr hSt.2.2.1
  obtain ⟨y1, y2, y3, y4, y5⟩ := id hM
  obtain ⟨e2, e3, e4⟩ := y4 r hr
  simp only at y1 y2 y5 e2 e3 e4
  rw [go_others (ty := 14) hk h17 h18 hr5 (e2.trans hty) (by omega) (by omega)]
  unfold f_X3_others
  simp only [q_ck_in hk (by decide), nI_clamp (show k < 2 ^ 31 by omega), q_ck_in hr5 (by decide), nI_clamp (show r < 2 ^ 31 by omega), e2, e3, e4, hty, h20, q_cv_id]
  rfl
theorem go_15 {n N K k r place : Nat} {cf : Nat → Nat → Int32} {s : q_s} {a : q_a} {g : q_g} (hSt : c_St N K cf) (hM : c_M N K cf (s, a, g)) (hk : k < 150) (hr : r < K) (h17 : s 17 = nI (k + 1)) (h18 : a 18 k = nI r) (h20 : a 20 k = nI place) (hty : cf 1 r = nI 15) : f_X3_goesOn n s a g = f_X3_acts s a g (nI place) (cf 2 r) := by
  have hr5 : r < 50 := Nat.lt_of_lt_of_le hr hSt.2.2.1
  obtain ⟨y1, y2, y3, y4, y5⟩ := id hM
  obtain ⟨e2, e3, e4⟩ := y4 r hr
  simp only at y1 y2 y5 e2 e3 e4
  rw [go_others (ty := 15) hk h17 h18 hr5 (e2.trans hty) (by omega) (by omega)]
  unfold f_X3_others
  simp only [q_ck_in hk (by decide), nI_clamp (show k < 2 ^ 31 by omega), q_ck_in hr5 (by decide), nI_clamp (show r < 2 ^ 31 by omega), e2, e3, e4, hty, h20, q_cv_id]
  rfl
noncomputable def c_br (cf : Nat → Nat → Int32) (μ : q_S) (m : Nat) : q_a := if c_nr cf μ m = 0 then μ.2.1 else q_ua μ.2.1 22 (c_nr cf μ m - 1) 1
theorem bars_lp {N K : Nat} {cf : Nat → Nat → Int32} {s : q_s} {a : q_a} {g : q_g} (hSt : c_St N K cf) (hM : c_M N K cf (s, a, g)) (x1 : Int32) : ∀ (m x : Nat), m ≤ 150 → (∀ j, j < m → ∃ r, r < K ∧ a 18 j = nI r) → f_X3_bars_lp (x + m + 1) s a g x1 (nI m + (-1)) = some (s, c_br cf (s, a, g) m, g) := by
  intro m
  induction m with
  | zero =>
    intro x _ _
    show f_X3_bars_lb _ s a g _ _ = _
    unfold f_X3_bars_lb
    rw [if_pos (by decide), if_pos (by decide)]
    rfl
  | succ m ih =>
    intro x hm hf
    obtain ⟨r, hr, h18⟩ := hf m (by omega)
    have hr5 : r < 50 := Nat.lt_of_lt_of_le hr hSt.2.2.1
    have e3 : a 3 r = cf 1 r := (hM.2.2.2.1 r hr).1
    have ih' := ih x (by omega) (fun j hj => hf j (by omega))
    have e : c_nr cf (s, a, g) (m + 1) = if cf 1 r = 5 ∧ a 19 m = 1 then m + 1 else c_nr cf (s, a, g) m := by
      show (if cf 1 ((a 18 m).toNatClampNeg) = 5 ∧ a 19 m = 1 then m + 1 else c_nr cf (s, a, g) m) = _
      rw [h18, nI_clamp (by omega)]
    show f_X3_bars_lb _ s a g _ _ = _
    unfold f_X3_bars_lb
    rw [pk_m1, if_neg (nI_pos (by omega))]
    simp only [q_ck_in (show m < 150 by omega) (by decide), nI_clamp (show m < 2 ^ 31 by omega), h18, q_ck_in hr5 (by decide), nI_clamp (show r < 2 ^ 31 by omega), e3, q_bd_b, if_neg (nI_pos (show m < 2 ^ 31 by omega))]
    by_cases c1 : cf 1 r = 5
    · by_cases c2 : a 19 m = 1
      · rw [if_pos c1, if_pos c2]
        unfold c_br
        rw [e, if_pos (And.intro c1 c2), if_neg (Nat.succ_ne_zero m)]
        rfl
      · rw [if_pos c1, if_neg c2, show x + (m + 1) = x + m + 1 by omega, ih']
        unfold c_br
        rw [e, if_neg (show ¬ (cf 1 r = 5 ∧ a 19 m = 1) from fun z => c2 z.2)]
    · rw [if_neg c1, show x + (m + 1) = x + m + 1 by omega, ih']
      unfold c_br
      rw [e, if_neg (show ¬ (cf 1 r = 5 ∧ a 19 m = 1) from fun z => c1 z.1)]
theorem bars_eq {n N K k : Nat} {cf : Nat → Nat → Int32} {s : q_s} {a : q_a} {g : q_g} (hn : 7000 ≤ n) (hSt : c_St N K cf) (hM : c_M N K cf (s, a, g)) (hk : k ≤ 150) (hf : ∀ j, j < k → ∃ r, r < K ∧ a 18 j = nI r) : f_X3_bars n s a g (nI k) = some (s, c_br cf (s, a, g) k, g) := by
  unfold f_X3_bars
  have h := bars_lp (x1 := nI k) hSt hM k (n - k - 1) hk hf
  rw [show n - k - 1 + k + 1 = n by omega] at h
  rw [← h, Int32.sub_eq_add_neg]
theorem lg0 {x : Int64} : lg_cmp x 0 = 0 ↔ x = 0 := by
  unfold lg_cmp
  constructor
  · intro h
    by_cases c1 : x > 0
    · rw [if_pos c1] at h; exact absurd h (by decide)
    · rw [if_neg c1] at h
      by_cases c2 : x = 0
      · exact c2
      · rw [if_neg c2] at h; exact absurd h (by decide)
  · intro h
    subst h
    decide
theorem heightM {T : Nat} {s : q_s} {a : q_a} {g : q_g} {L : List Int64} (h12 : s 12 = nI T) (hT : T ≤ 3000) (hp : q_PR g (a 9) (a 10) T L) : f_X3_height s a g = some (nI L.length, s, a, g) := by
  unfold f_X3_height
  rw [h12]
  cases L with
  | nil =>
    have e : T = 0 := hp
    subst e
    rfl
  | cons v L =>
    obtain ⟨q, h1, h2, h3, h4, h5⟩ := hp
    rw [if_neg (nI_ne0 (by omega) (by omega)), q_ck_in (show T < 3001 by omega) (by decide), nI_clamp (by omega), h4]
    rfl
theorem reckonY {deed : Nat} (hd : deed < 4) {y x : Int64} (s : q_s) (a : q_a) (g : q_g) (hx : ¬ (deed = 3 ∧ x = 0)) : f_X2_reckon s a g (nI deed) y x = some (if deed = 0 then y + x else if deed = 1 then y - x else if deed = 2 then y * x else y / x, s, a, g) := by
  unfold f_X2_reckon
  have h : deed = 0 ∨ deed = 1 ∨ deed = 2 ∨ deed = 3 := by omega
  rcases h with rfl | rfl | rfl | rfl
  · rfl
  · rfl
  · rfl
  · have hx' : ¬ x = 0 := fun z => hx ⟨rfl, z⟩
    rw [if_neg (by decide), if_neg (by decide), if_neg (by decide), if_neg (fun z => hx' (lg0.mp z))]
    unfold q_nz
    rw [if_neg hx']
    rfl
section CASES
variable {n N K k r place o : Nat} {cf : Nat → Nat → Int32} {G : q_s → q_a → q_g → Int32 → Int32 → Int32 → Int32 → Option (Int32 × q_S)} {σ0 σ1 μ1 : q_S} {τ1 : Nat → Nat} {L1 : List Int64}
theorem case_12 (X : c_X n N K cf k r place o G σ0 σ1 μ1 τ1 L1) (hty : cf 1 r = nI 12) : c_Out 2 n N K cf k place σ1 μ1 τ1 L1 (f_X2_follow_bd G n σ0.1 σ0.2.1 σ0.2.2 (nI r) (nI place) (nI (k + 1)) (nI o)) μ1 := by
  obtain ⟨s1, a1, g1⟩ := σ1
  obtain ⟨S1, A1, G1⟩ := μ1
  obtain ⟨hSt, hn, hk, hr, hp, ho, hb, hC1, hF1, ⟨k1, k2, k3, k4, k5⟩, h19, h21, h22, hlt, hIH⟩ := X
  simp only at k1 k2 k3 k4 k5 h19 h21 h22
  have hN := hSt.1
  have hr31 : r < 2 ^ 31 := by have := hSt.2.2.1; omega
  have hr5 : r < 50 := Nat.lt_of_lt_of_le hr hSt.2.2.1
  have d1 := hC1.2.2.1
  have t24 : s1 24 = nI (τ1 2) := d1.2.2.1
  have t33 : s1 33 = nI (τ1 3) := d1.2.2.2.1
  have y24 : s1 24 = nI (τ1 2) := t24
  have y23 : s1 23 = nI (τ1 1) := d1.2.1
  have y0 : a1 22 0 = 0 := d1.2.2.2.2.2.1
  have yP : q_PR g1 (a1 21) (a1 22) (τ1 2) L1 := d1.2.2.2.2.2.2
  have ytp : τ1 2 ≤ τ1 1 := d1.2.2.2.2.1
  have m11 : S1 11 = nI (τ1 4) := hC1.2.2.2.1.2.1
  have m12 : S1 12 = nI (τ1 5) := hC1.2.2.2.1.2.2.1
  have mtp : τ1 5 ≤ τ1 4 := hC1.2.2.2.1.2.2.2.2.1
  have mP : q_PR G1 (A1 9) (A1 10) (τ1 5) L1 := hC1.2.2.2.1.2.2.2.2.2
  have hb3 : τ1 0 ≤ 3000 := hC1.2.2.2.2.2.2.2.2.2.2.1
  have hFl : ∀ (x y z : Int32) (i j : Nat) (v w : Int32) (s : q_s) (g : q_g) (G2 : q_g) (i2 j2 : Nat) (v2 w2 : Int32), c_F K cf (k + 1) (s, q_ua (q_ua a1 21 i2 v2) 22 j2 w2, g) (q_us (q_us S1 11 x) 12 y, q_ua (q_ua A1 9 i v) 10 j w, G2) := fun x y z i j v w s g G2 i2 j2 v2 w2 => by
    obtain ⟨f1, f2, f3, f4⟩ := hF1
    exact ⟨by simpa [us_ne] using f1, by simpa [us_ne] using f2, by simpa [ua_ne] using f3, by simpa [c_or, ua_ne] using f4⟩
  have hok : o ≤ k := by rw [ho]; exact c_nr_le cf _ k
  rw [bd_alone (n := n) (place := place) (o := o) (G := G) hSt hb hC1.1 hr hty (by omega), rA_12 hSt hC1.1 hr (show o < 151 by omega) hty, q_ci_s, if_neg (c_pl (show place ≤ 3000 by omega)).1]
  have hg := go_12 (n := n) hSt hC1.2.1 hk hr hF1.1 k1 k2 hty
  rw [bars_eq hn hSt hC1.2.1 (by omega) (fun j hj => hF1.2.2.1 j (by omega)), q_cv_s] at hg
  have hA : ∀ i, i ≠ 22 → c_br cf (S1, A1, G1) k i = A1 i := fun i hi => by
    unfold c_br
    split
    · rfl
    · exact ua_ne _ _ _ hi
  have hA22 : ∀ j, c_br cf (S1, A1, G1) k 22 j = if j + 1 = o then 1 else A1 22 j := fun j => by
    unfold c_br
    rw [← ho]
    by_cases c : o = 0
    · rw [if_pos c, if_neg (by omega)]
    · rw [if_neg c]
      by_cases c2 : j + 1 = o
      · rw [if_pos c2, show j = o - 1 by omega]
        simp [ua_eq, up_eq]
      · rw [if_neg c2]
        simp [ua_eq, up_ne, show j ≠ o - 1 by omega]
  have hC3 := c_Cor_A (A' := c_br cf (S1, A1, G1) k) (c_Cor_8 o 1 hC1) (fun i hi => hA i (by omega))
  refine fin_ok2 (j := 0) hN hk hC3 ?_ ?_ hF1.1 hF1.2.1 (c_R_refl _ _) (by omega) hg (Nat.le_refl _) hp rfl
  · obtain ⟨f1, f2, f3, f4⟩ := hF1
    refine ⟨f1, f2, fun j hj => by simpa [hA 18 (by decide)] using f3 j hj, fun j hj hor => ?_⟩
    have hor' : c_or cf (S1, A1, G1) j := by simpa [c_or, hA 18 (by decide), hA 19 (by decide)] using hor
    show q_ua a1 8 o 1 8 (j + 1) = c_br cf (S1, A1, G1) k 22 j
    rw [hA22 j, ua_eq]
    by_cases c2 : j + 1 = o
    · rw [if_pos c2, c2, up_eq]
    · rw [if_neg c2, up_ne _ _ c2]
      exact f4 j hj hor'
  · refine ⟨by omega, fun j _ => ?_, fun j _ => ?_, fun j _ => ?_, fun j _ => ?_, fun i h1 h2 h3 j hj => ?_⟩
    · simp [ua_ne]
    · exact ⟨rfl, congrFun (hA 9 (by decide)) j, congrFun (hA 10 (by decide)) j⟩
    · simp [ua_ne]
    · exact ⟨congrFun (hA 14 (by decide)) j, congrFun (hA 15 (by decide)) j, congrFun (hA 16 (by decide)) j⟩
    · exact congrFun (hA i h3) j
theorem case_13 (X : c_X n N K cf k r place o G σ0 σ1 μ1 τ1 L1) (hty : cf 1 r = nI 13) : c_Out 2 n N K cf k place σ1 μ1 τ1 L1 (f_X2_follow_bd G n σ0.1 σ0.2.1 σ0.2.2 (nI r) (nI place) (nI (k + 1)) (nI o)) μ1 := by
  obtain ⟨s1, a1, g1⟩ := σ1
  obtain ⟨S1, A1, G1⟩ := μ1
  obtain ⟨hSt, hn, hk, hr, hp, ho, hb, hC1, hF1, ⟨k1, k2, k3, k4, k5⟩, h19, h21, h22, hlt, hIH⟩ := X
  simp only at k1 k2 k3 k4 k5 h19 h21 h22
  have hN := hSt.1
  have hr31 : r < 2 ^ 31 := by have := hSt.2.2.1; omega
  have hr5 : r < 50 := Nat.lt_of_lt_of_le hr hSt.2.2.1
  have d1 := hC1.2.2.1
  have t24 : s1 24 = nI (τ1 2) := d1.2.2.1
  have t33 : s1 33 = nI (τ1 3) := d1.2.2.2.1
  have y24 : s1 24 = nI (τ1 2) := t24
  have y23 : s1 23 = nI (τ1 1) := d1.2.1
  have y0 : a1 22 0 = 0 := d1.2.2.2.2.2.1
  have yP : q_PR g1 (a1 21) (a1 22) (τ1 2) L1 := d1.2.2.2.2.2.2
  have ytp : τ1 2 ≤ τ1 1 := d1.2.2.2.2.1
  have m11 : S1 11 = nI (τ1 4) := hC1.2.2.2.1.2.1
  have m12 : S1 12 = nI (τ1 5) := hC1.2.2.2.1.2.2.1
  have mtp : τ1 5 ≤ τ1 4 := hC1.2.2.2.1.2.2.2.2.1
  have mP : q_PR G1 (A1 9) (A1 10) (τ1 5) L1 := hC1.2.2.2.1.2.2.2.2.2
  have hb3 : τ1 0 ≤ 3000 := hC1.2.2.2.2.2.2.2.2.2.2.1
  have hFl : ∀ (x y z : Int32) (i j : Nat) (v w : Int32) (s : q_s) (g : q_g) (G2 : q_g) (i2 j2 : Nat) (v2 w2 : Int32), c_F K cf (k + 1) (s, q_ua (q_ua a1 21 i2 v2) 22 j2 w2, g) (q_us (q_us S1 11 x) 12 y, q_ua (q_ua A1 9 i v) 10 j w, G2) := fun x y z i j v w s g G2 i2 j2 v2 w2 => by
    obtain ⟨f1, f2, f3, f4⟩ := hF1
    exact ⟨by simpa [us_ne] using f1, by simpa [us_ne] using f2, by simpa [ua_ne] using f3, by simpa [c_or, ua_ne] using f4⟩
  obtain ⟨q, q1, q2, q3⟩ := layY (n := n) (m := 0) (v := (cf 2 r).toInt64) hn (Nat.zero_le _) (by omega) y23 (by omega) y24 ytp yP
  rw [nI_0] at q3
  rw [bd_alone (n := n) (place := place) (o := o) (G := G) hSt hb hC1.1 hr hty (by omega), rA_13 hSt hC1.1 hr hty, q3, q_cv_s, q_ci_s, if_neg (c_pl (show place ≤ 3000 by omega)).1]
  have hg := go_13 (n := n) hSt hC1.2.1 hk hr hF1.1 k1 k2 hty
  rw [m12, layM m11 (by omega) (by omega), q_cv_s] at hg
  obtain ⟨hC3, hE3⟩ := lay_Cor (k := k) (v := (cf 2 r).toInt64) hC1 hlt (show q ≤ τ1 1 by omega) mtp q2 mP
  exact fin_ok2 (j := 0) hN hk hC3 (hFl _ _ 0 _ _ _ _ _ _ _ _ _ _ _) hE3 hF1.1 hF1.2.1 (c_R_refl _ _) (by omega) hg (Nat.le_refl _) hp rfl
theorem case_14 (X : c_X n N K cf k r place o G σ0 σ1 μ1 τ1 L1) (hty : cf 1 r = nI 14) : c_Out 2 n N K cf k place σ1 μ1 τ1 L1 (f_X2_follow_bd G n σ0.1 σ0.2.1 σ0.2.2 (nI r) (nI place) (nI (k + 1)) (nI o)) μ1 := by
  obtain ⟨s1, a1, g1⟩ := σ1
  obtain ⟨S1, A1, G1⟩ := μ1
  obtain ⟨hSt, hn, hk, hr, hp, ho, hb, hC1, hF1, ⟨k1, k2, k3, k4, k5⟩, h19, h21, h22, hlt, hIH⟩ := X
  simp only at k1 k2 k3 k4 k5 h19 h21 h22
  have hN := hSt.1
  have hr31 : r < 2 ^ 31 := by have := hSt.2.2.1; omega
  have hr5 : r < 50 := Nat.lt_of_lt_of_le hr hSt.2.2.1
  have d1 := hC1.2.2.1
  have t24 : s1 24 = nI (τ1 2) := d1.2.2.1
  have t33 : s1 33 = nI (τ1 3) := d1.2.2.2.1
  have y24 : s1 24 = nI (τ1 2) := t24
  have y23 : s1 23 = nI (τ1 1) := d1.2.1
  have y0 : a1 22 0 = 0 := d1.2.2.2.2.2.1
  have yP : q_PR g1 (a1 21) (a1 22) (τ1 2) L1 := d1.2.2.2.2.2.2
  have ytp : τ1 2 ≤ τ1 1 := d1.2.2.2.2.1
  have m11 : S1 11 = nI (τ1 4) := hC1.2.2.2.1.2.1
  have m12 : S1 12 = nI (τ1 5) := hC1.2.2.2.1.2.2.1
  have mtp : τ1 5 ≤ τ1 4 := hC1.2.2.2.1.2.2.2.2.1
  have mP : q_PR G1 (A1 9) (A1 10) (τ1 5) L1 := hC1.2.2.2.1.2.2.2.2.2
  have hb3 : τ1 0 ≤ 3000 := hC1.2.2.2.2.2.2.2.2.2.2.1
  have hFl : ∀ (x y z : Int32) (i j : Nat) (v w : Int32) (s : q_s) (g : q_g) (G2 : q_g) (i2 j2 : Nat) (v2 w2 : Int32), c_F K cf (k + 1) (s, q_ua (q_ua a1 21 i2 v2) 22 j2 w2, g) (q_us (q_us S1 11 x) 12 y, q_ua (q_ua A1 9 i v) 10 j w, G2) := fun x y z i j v w s g G2 i2 j2 v2 w2 => by
    obtain ⟨f1, f2, f3, f4⟩ := hF1
    exact ⟨by simpa [us_ne] using f1, by simpa [us_ne] using f2, by simpa [ua_ne] using f3, by simpa [c_or, ua_ne] using f4⟩
  have hY1 : S1 1 = nI N := hC1.2.1.1
  rw [bd_alone (n := n) (place := place) (o := o) (G := G) hSt hb hC1.1 hr hty (by omega), rA_14 hSt hC1.1 hr hty]
  have hg := go_14 (n := n) hSt hC1.2.1 hk hr hF1.1 k1 k2 hty
  unfold f_X2_readFigure
  unfold f_X3_figure at hg
  rw [passY hN hC1.1 hp, q_ci_s]
  simp only [hY1, inM, q_ci_s, q_cv_id, q_bd_b] at hg
  by_cases c1 : place < N
  · have eY : a1 0 place = cf 0 place := hC1.1.2.2.1 place c1
    have eM : A1 0 place = cf 0 place := hC1.2.1.2.2.1 place c1
    rw [if_neg (fun z => by have := (nI_leI (show N < 2 ^ 31 by omega) (show place < 2 ^ 31 by omega)).mp z; omega), q_ck_in (show place < 200 by omega) (by decide)] at hg
    simp only [nI_clamp (show place < 2 ^ 31 by omega), eM] at hg
    by_cases c2 : cf 0 place < 48
    · have e : c_pS cf N place 48 57 = -1 := by unfold c_pS; rw [if_pos c1, if_pos c2]
      rw [if_pos c2, if_pos rfl] at hg
      rw [e, if_pos rfl, q_ci_s, if_pos rfl, tbY, q_cv_s, t24, t33]
      exact fin_no (j := 0) hk hC1 hC1 hF1 (c_E_refl _ _ _ _ _) (c_R_refl _ _) (by omega) k3 k4 k5 hg rfl
    · by_cases c3 : (57 : Int32) < cf 0 place
      · have e : c_pS cf N place 48 57 = -1 := by unfold c_pS; rw [if_pos c1, if_neg c2, if_pos c3]
        rw [if_neg c2, if_pos c3, if_pos rfl] at hg
        rw [e, if_pos rfl, q_ci_s, if_pos rfl, tbY, q_cv_s, t24, t33]
        exact fin_no (j := 0) hk hC1 hC1 hF1 (c_E_refl _ _ _ _ _) (c_R_refl _ _) (by omega) k3 k4 k5 hg rfl
      · have e : c_pS cf N place 48 57 = nI (place + 1) := by unfold c_pS; rw [if_pos c1, if_neg c2, if_neg c3]
        have np := c_pl (show place + 1 ≤ 3000 by omega)
        rw [if_neg c2, if_neg c3, if_neg (by decide), m12] at hg
        rw [e, if_neg np.1, height_eq y24 (by omega) y0 yP, q_ci_s]
        cases hL : L1 with
        | nil =>
          rw [hL] at mP
          have e0 : τ1 5 = 0 := mP
          rw [if_pos (by rw [e0]; rfl)] at hg
          rw [if_neg (by decide)]
          show c_Out _ _ _ _ _ _ _ _ _ _ _ (q_ci (some (-13, s1, a1, g1)) _) _
          rw [q_ci_s, if_neg (by decide), ← hL]
          exact fin_flt (φ := 3) (j := 1) (S2 := q_us S1 30 3) (A2 := A1) (G2 := G1) (by decide) (by decide) (c_Cor_flt 3 hC1) (Nat.le_refl _) (c_R_step hk hF1.1 hF1.2.1 hg) (by simp [us_eq]; rfl) (by omega) rfl
        | cons v0 L0 =>
          rw [← hL]
          have hlen : 1 ≤ L1.length := by rw [hL]; simp
          have hlen2 := q_PR_len L1 _ yP
          rw [if_pos (show (1 : Int32) ≤ nI L1.length from nI_le (a := 1) hlen (by omega))]
          have hnum := number_eq (n := n) (m := 0) hn hlen y24 (by omega) y0 yP
          rw [nI_0] at hnum
          rw [hnum, q_cl_s, q_ck_in (show place < 200 by omega) (by decide), nI_clamp (show place < 2 ^ 31 by omega), eY]
          have ev : L1.getD 0 0 = v0 := by rw [hL]; rfl
          rw [ev]
          obtain ⟨q, q1, q2, q3⟩ := layY (n := n) (m := 1) (v := 10 * v0 + (cf 0 place).toInt64 - 48) hn hlen (by omega) y23 (by omega) y24 ytp yP
          rw [show f_X1_lay n s1 a1 g1 (10 * v0 + (cf 0 place).toInt64 - 48) 1 = _ from q3, q_cv_s, q_ci_s, if_neg np.1]
          have mP' := mP
          rw [hL] at mP'
          obtain ⟨Q, Q1, Q2, Q3, Q4, Q5⟩ := mP'
          rw [if_neg (nI_ne0 (by omega) (by omega)), q_ck_in (show τ1 5 < 3001 by omega) (by decide), q_ck_in (show place < 200 by omega) (by decide), q_ck_in (show τ1 5 < 3001 by omega) (by decide), nI_clamp (show τ1 5 < 2 ^ 31 by omega), Q2, Q3, layM m11 (by omega) (by omega), q_cv_s, nI_1] at hg
          have q2' : q_PR g1 (a1 21) (a1 22) q L0 := by rw [hL] at q2; exact q2
          obtain ⟨hC3, hE3⟩ := lay_Cor (k := k) (v := 10 * v0 + (cf 0 place).toInt64 - 48) hC1 hlt (show q ≤ τ1 1 by omega) (show Q ≤ τ1 4 by omega) q2' Q5
          exact fin_ok2 (j := 0) hN hk hC3 (hFl _ _ 0 _ _ _ _ _ _ _ _ _ _ _) hE3 hF1.1 hF1.2.1 (c_R_refl _ _) (by omega) hg (by omega) (by omega) rfl
  · have e : c_pS cf N place 48 57 = -1 := by unfold c_pS; rw [if_neg c1]
    rw [if_pos (nI_le (by omega) (by omega))] at hg
    rw [e, if_pos rfl, q_ci_s, if_pos rfl, tbY, q_cv_s, t24, t33]
    exact fin_no (j := 0) hk hC1 hC1 hF1 (c_E_refl _ _ _ _ _) (c_R_refl _ _) (by omega) k3 k4 k5 hg rfl
theorem case_15 (X : c_X n N K cf k r place o G σ0 σ1 μ1 τ1 L1) (hty : cf 1 r = nI 15) : c_Out 2 n N K cf k place σ1 μ1 τ1 L1 (f_X2_follow_bd G n σ0.1 σ0.2.1 σ0.2.2 (nI r) (nI place) (nI (k + 1)) (nI o)) μ1 := by
  obtain ⟨s1, a1, g1⟩ := σ1
  obtain ⟨S1, A1, G1⟩ := μ1
  obtain ⟨hSt, hn, hk, hr, hp, ho, hb, hC1, hF1, ⟨k1, k2, k3, k4, k5⟩, h19, h21, h22, hlt, hIH⟩ := X
  simp only at k1 k2 k3 k4 k5 h19 h21 h22
  have hN := hSt.1
  have hr31 : r < 2 ^ 31 := by have := hSt.2.2.1; omega
  have hr5 : r < 50 := Nat.lt_of_lt_of_le hr hSt.2.2.1
  have d1 := hC1.2.2.1
  have t24 : s1 24 = nI (τ1 2) := d1.2.2.1
  have t33 : s1 33 = nI (τ1 3) := d1.2.2.2.1
  have y24 : s1 24 = nI (τ1 2) := t24
  have y23 : s1 23 = nI (τ1 1) := d1.2.1
  have y0 : a1 22 0 = 0 := d1.2.2.2.2.2.1
  have yP : q_PR g1 (a1 21) (a1 22) (τ1 2) L1 := d1.2.2.2.2.2.2
  have ytp : τ1 2 ≤ τ1 1 := d1.2.2.2.2.1
  have m11 : S1 11 = nI (τ1 4) := hC1.2.2.2.1.2.1
  have m12 : S1 12 = nI (τ1 5) := hC1.2.2.2.1.2.2.1
  have mtp : τ1 5 ≤ τ1 4 := hC1.2.2.2.1.2.2.2.2.1
  have mP : q_PR G1 (A1 9) (A1 10) (τ1 5) L1 := hC1.2.2.2.1.2.2.2.2.2
  have hb3 : τ1 0 ≤ 3000 := hC1.2.2.2.2.2.2.2.2.2.2.1
  have hFl : ∀ (x y z : Int32) (i j : Nat) (v w : Int32) (s : q_s) (g : q_g) (G2 : q_g) (i2 j2 : Nat) (v2 w2 : Int32), c_F K cf (k + 1) (s, q_ua (q_ua a1 21 i2 v2) 22 j2 w2, g) (q_us (q_us S1 11 x) 12 y, q_ua (q_ua A1 9 i v) 10 j w, G2) := fun x y z i j v w s g G2 i2 j2 v2 w2 => by
    obtain ⟨f1, f2, f3, f4⟩ := hF1
    exact ⟨by simpa [us_ne] using f1, by simpa [us_ne] using f2, by simpa [ua_ne] using f3, by simpa [c_or, ua_ne] using f4⟩
  obtain ⟨deed, hd, e2⟩ := (ty_of hSt hr (by decide) hty).2.2.2 rfl
  rw [bd_alone (n := n) (place := place) (o := o) (G := G) hSt hb hC1.1 hr hty (by omega), rA_15 hSt hC1.1 hr hty, e2]
  have hg := go_15 (n := n) hSt hC1.2.1 hk hr hF1.1 k1 k2 hty
  rw [e2] at hg
  unfold f_X2_act
  unfold f_X3_acts at hg
  rw [height_eq y24 (by omega) y0 yP, q_ci_s]
  rw [heightM m12 (by omega) mP, q_ci_s] at hg
  have hlen2 := q_PR_len L1 _ yP
  by_cases c1 : 2 ≤ L1.length
  · obtain ⟨x, L0, hL⟩ : ∃ x L0, L1 = x :: L0 := by
      cases L1 with
      | nil => simp at c1
      | cons x L0 => exact ⟨x, L0, rfl⟩
    obtain ⟨y, L2, hL0⟩ : ∃ y L2, L0 = y :: L2 := by
      cases L0 with
      | nil => rw [hL] at c1; simp at c1
      | cons x L0 => exact ⟨x, L0, rfl⟩
    have mP' := mP
    rw [hL, hL0] at mP'
    obtain ⟨Q, Q1, Q2, Q3, Q4, R, R1, R2, R3, R4, R5⟩ := mP'
    have ev0 : L1.getD 0 0 = x := by rw [hL]; rfl
    have ev1 : L1.getD 1 0 = y := by rw [hL, hL0]; rfl
    have hn0 := number_eq (n := n) (m := 0) hn (by omega) y24 (by omega) y0 yP
    have hn1 := number_eq (n := n) (m := 1) hn (by omega) y24 (by omega) y0 yP
    rw [nI_0, ev0] at hn0
    rw [ev1] at hn1
    have hn1 : f_X1_numberUnder n s1 a1 g1 1 = some (y, s1, a1, g1) := hn1
    rw [if_pos (show (2 : Int32) ≤ nI L1.length from nI_le (a := 2) c1 (by omega)), hn0, q_cl_s, hn1, q_cl_s]
    rw [if_pos (show (2 : Int32) ≤ nI L1.length from nI_le (a := 2) c1 (by omega))] at hg
    simp only [m12, q_ck_in (show τ1 5 < 3001 by omega) (by decide), nI_clamp (show τ1 5 < 2 ^ 31 by omega), Q2, Q3, q_ck_in (show Q < 3001 by omega) (by decide), nI_clamp (show Q < 2 ^ 31 by omega), R2, R3, q_cv_id, layM (Q := R) m11 (show τ1 4 < 3000 by omega) (by omega), q_cv_s] at hg
    by_cases c2 : deed = 3 ∧ x = 0
    · obtain ⟨c3, c4⟩ := c2
      subst c3
      subst c4
      rw [if_pos (show nI 3 = (3 : Int32) from rfl), if_pos (lg0.mpr rfl)]
      rw [if_pos (show nI 3 = (3 : Int32) from rfl), if_pos (lg0.mpr rfl)] at hg
      show c_Out _ _ _ _ _ _ _ _ _ _ _ (q_ci (some (-12, s1, a1, g1)) _) _
      rw [q_ci_s, if_neg (by decide)]
      exact fin_flt (φ := 2) (j := 1) (S2 := q_us S1 30 2) (A2 := A1) (G2 := G1) (by decide) (by decide) (c_Cor_flt 2 hC1) (Nat.le_refl _) (c_R_step hk hF1.1 hF1.2.1 hg) (by simp [us_eq]; rfl) (by omega) rfl
    · have hrk := reckonY hd (y := y) (x := x) s1 a1 g1 c2
      generalize hv : (if deed = 0 then y + x else if deed = 1 then y - x else if deed = 2 then y * x else y / x) = v at hrk
      obtain ⟨q, q1, q2, q3⟩ := layY (n := n) (m := 2) (v := v) hn c1 (by omega) y23 (by omega) y24 ytp yP
      have q3 : f_X1_lay n s1 a1 g1 v 2 = _ := q3
      have hyy : (if nI deed = 3 then if lg_cmp x 0 = 0 then q_ci (f_X2_faultAnswer s1 a1 g1 2) fun r43 s39 a40 g41 => some (r43, s39, a40, g41) else q_cl (f_X2_reckon s1 a1 g1 (nI deed) y x) fun r33 s29 a30 g31 => q_cv (f_X1_lay n s29 a30 g31 r33 2) fun s34 a35 g36 => some (nI place, s34, a35, g36) else q_cl (f_X2_reckon s1 a1 g1 (nI deed) y x) fun r22 s18 a19 g20 => q_cv (f_X1_lay n s18 a19 g20 r22 2) fun s23 a24 g25 => some (nI place, s23, a24, g25)) = some (nI place, q_us (q_us s1 23 (nI (τ1 1 + 1))) 24 (nI (τ1 1 + 1)), q_ua (q_ua a1 21 (τ1 1 + 1) (nI q)) 22 (τ1 1 + 1) (a1 22 q + 1), vp_updL g1 (τ1 1 + 1) v) := by
        rw [hrk, q_cl_s, q3, q_cv_s]
        by_cases c3 : nI deed = 3
        · rw [if_pos c3, if_neg (fun z => c2 ⟨(nI_eq (b := 3) (by omega) (by decide)).mp c3, lg0.mp z⟩)]
        · rw [if_neg c3]
      rw [hyy, q_ci_s, if_neg (c_pl (show place ≤ 3000 by omega)).1]
      have q2' : q_PR g1 (a1 21) (a1 22) q L2 := by rw [hL, hL0] at q2; exact q2
      obtain ⟨hC3, hE3⟩ := lay_Cor (k := k) (v := v) hC1 hlt (show q ≤ τ1 1 by omega) (show R ≤ τ1 4 by omega) q2' R5
      refine fin_ok2 (j := 0) hN hk hC3 (hFl _ _ 0 _ _ _ _ _ _ _ _ _ _ _) hE3 hF1.1 hF1.2.1 (c_R_refl _ _) (by omega) ?_ (Nat.le_refl _) hp rfl
      rw [hg, ← hv]
      have h : deed = 0 ∨ deed = 1 ∨ deed = 2 ∨ deed = 3 := by omega
      rcases h with rfl | rfl | rfl | rfl
      · rfl
      · rfl
      · rfl
      · have hx' : ¬ x = 0 := fun z => c2 ⟨rfl, z⟩
        rw [if_pos (show nI 3 = (3 : Int32) from rfl), if_neg (fun z => hx' (lg0.mp z)), if_neg (show ¬ nI 3 = (0 : Int32) by decide), if_neg (show ¬ nI 3 = (1 : Int32) by decide), if_neg (show ¬ nI 3 = (2 : Int32) by decide)]
        unfold q_nz
        rw [if_neg hx']
        rfl
  · have c3 : ¬ (2 : Int32) ≤ nI L1.length := fun z => by have := (nI_leI (a := 2) (by decide) (show L1.length < 2 ^ 31 by omega)).mp z; omega
    rw [if_neg c3]
    rw [if_neg c3] at hg
    show c_Out _ _ _ _ _ _ _ _ _ _ _ (q_ci (some (-13, s1, a1, g1)) _) _
    rw [q_ci_s, if_neg (by decide)]
    exact fin_flt (φ := 3) (j := 1) (S2 := q_us S1 30 3) (A2 := A1) (G2 := G1) (by decide) (by decide) (c_Cor_flt 3 hC1) (Nat.le_refl _) (c_R_step hk hF1.1 hF1.2.1 hg) (by simp [us_eq]; rfl) (by omega) rfl
end CASES

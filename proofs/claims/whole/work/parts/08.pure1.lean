/-! The two machines side by side: words for their states. τ: 0 steps, 1 the yard's used slots, 2 its top, 3 marks, 4 the reference's chain, 5 its top. cf: 0 signs, 1 sorts, 2 first numbers, 3 second numbers, 4 names. -/
theorem q_ck_in {α : Type} {i n : Nat} (h : i < n) (hn : n < 2 ^ 31) (x : Option α) : q_ck (nI i) n x = x := by
  unfold q_ck
  rw [if_neg (nI_in h hn)]
theorem q_cv_id (x : Option q_S) : q_cv x (fun s a g => some (s, a, g)) = x := by
  rcases x with _ | ⟨s, a, g⟩ <;> rfl
theorem q_ci_id (x : Option (Int32 × q_S)) : q_ci x (fun r s a g => some (r, s, a, g)) = x := by
  rcases x with _ | ⟨r, s, a, g⟩ <;> rfl
theorem q_ci_s {β : Type} (r : Int32) (s : q_s) (a : q_a) (g : q_g) (f : Int32 → q_s → q_a → q_g → Option β) : q_ci (some (r, s, a, g)) f = f r s a g := rfl
theorem q_ci_s2 {β : Type} (r : Int32) (σ : q_S) (f : Int32 → q_s → q_a → q_g → Option β) : q_ci (some (r, σ)) f = f r σ.1 σ.2.1 σ.2.2 := rfl
theorem q_cl_s {β : Type} (r : Int64) (s : q_s) (a : q_a) (g : q_g) (f : Int64 → q_s → q_a → q_g → Option β) : q_cl (some (r, s, a, g)) f = f r s a g := rfl
theorem q_cv_s {β : Type} (s : q_s) (a : q_a) (g : q_g) (f : q_s → q_a → q_g → Option β) : q_cv (some (s, a, g)) f = f s a g := rfl
theorem q_cv_s2 {β : Type} (σ : q_S) (f : q_s → q_a → q_g → Option β) : q_cv (some σ) f = f σ.1 σ.2.1 σ.2.2 := rfl
theorem q_bd_b {α β : Type} (x : α) (f : α → Option β) : q_bd x f = f x := rfl
theorem us_eq (s : q_s) (k : Nat) (v : Int32) : q_us s k v k = v := by simp [q_us]
theorem us_ne (s : q_s) {k j : Nat} (v : Int32) (h : j ≠ k) : q_us s k v j = s j := by simp [q_us, h]
theorem ua_eq (a : q_a) (k i : Nat) (v : Int32) : q_ua a k i v k = upd (a k) i v := by simp [q_ua]
theorem ua_ne (a : q_a) {k j : Nat} (i : Nat) (v : Int32) (h : j ≠ k) : q_ua a k i v j = a j := by simp [q_ua, h]
theorem up_eq (f : Nat → Int32) (k : Nat) (v : Int32) : upd f k v k = v := by simp [upd]
theorem up_ne (f : Nat → Int32) {k j : Nat} (v : Int32) (h : j ≠ k) : upd f k v j = f j := by simp [upd, h]
def q_ut (τ : Nat → Nat) (k v : Nat) : Nat → Nat := fun j => if j = k then v else τ j
/-- the pile that stands at slot t -/
def q_PR (g : Nat → Int64) (b h : Nat → Int32) : Nat → List Int64 → Prop
  | t, [] => t = 0
  | t, v :: L => ∃ q : Nat, q < t ∧ g t = v ∧ b t = nI q ∧ h t = nI (L.length + 1) ∧ q_PR g b h q L
theorem q_PR_mono {g g' : Nat → Int64} {b b' h h' : Nat → Int32} {u : Nat} (hs : ∀ j, j ≤ u → g' j = g j ∧ b' j = b j ∧ h' j = h j) : ∀ (L : List Int64) (t : Nat), t ≤ u → q_PR g b h t L → q_PR g' b' h' t L := by
  intro L
  induction L with
  | nil => intro t _ h; exact h
  | cons v L ih =>
    intro t ht hp
    obtain ⟨q, h1, h2, h3, h4, h5⟩ := hp
    obtain ⟨e1, e2, e3⟩ := hs t ht
    exact ⟨q, h1, by rw [e1]; exact h2, by rw [e2]; exact h3, by rw [e3]; exact h4, ih q (by omega) h5⟩
theorem q_PR_len {g : Nat → Int64} {b h : Nat → Int32} : ∀ (L : List Int64) (t : Nat), q_PR g b h t L → L.length ≤ t := by
  intro L
  induction L with
  | nil => intro t _; simp
  | cons v L ih =>
    intro t hp
    obtain ⟨q, h1, h2, h3, h4, h5⟩ := hp
    have := ih q h5
    simp only [List.length_cons]
    omega
def c_St (N K : Nat) (cf : Nat → Nat → Int32) : Prop := N ≤ 200 ∧ 2 ≤ K ∧ K ≤ 50 ∧ (∀ i, i < N → ∃ v, v < 128 ∧ cf 0 i = nI v) ∧
  (∀ i, i < K → ∃ ty, ty < 16 ∧ cf 1 i = nI ty ∧ ((4 ≤ ty ∧ ty ≤ 9 ∨ ty = 11) → ∃ r, r < K ∧ cf 2 i = nI r) ∧ ((ty = 4 ∨ ty = 5) → ∃ r, r < K ∧ cf 3 i = nI r) ∧ (ty = 10 → ∃ j, j < 10 ∧ cf 2 i = nI j) ∧ (ty = 15 → ∃ j, j < 4 ∧ cf 2 i = nI j)) ∧
  (∀ i, i < 10 → cf 4 i = -1 ∨ ∃ r, r < K ∧ cf 4 i = nI r)
def c_Y (N K : Nat) (cf : Nat → Nat → Int32) (σ : q_S) : Prop := σ.1 1 = nI N ∧ σ.1 6 = nI K ∧ (∀ i, i < N → σ.2.1 0 i = cf 0 i) ∧ (∀ i, i < K → σ.2.1 2 i = cf 1 i ∧ σ.2.1 3 i = cf 2 i ∧ σ.2.1 4 i = cf 3 i) ∧ (∀ i, i < 10 → σ.2.1 7 i = cf 4 i)
def c_M (N K : Nat) (cf : Nat → Nat → Int32) (μ : q_S) : Prop := μ.1 1 = nI N ∧ μ.1 2 = nI K ∧ (∀ i, i < N → μ.2.1 0 i = cf 0 i) ∧ (∀ i, i < K → μ.2.1 3 i = cf 1 i ∧ μ.2.1 4 i = cf 2 i ∧ μ.2.1 5 i = cf 3 i) ∧ (∀ i, i < 10 → μ.2.1 7 i = cf 4 i)
def c_DY (σ : q_S) (τ : Nat → Nat) (L : List Int64) : Prop := σ.1 11 = nI (τ 0) ∧ σ.1 23 = nI (τ 1) ∧ σ.1 24 = nI (τ 2) ∧ σ.1 33 = nI (τ 3) ∧ τ 2 ≤ τ 1 ∧ σ.2.1 22 0 = 0 ∧ q_PR σ.2.2 (σ.2.1 21) (σ.2.1 22) (τ 2) L
def c_DM (μ : q_S) (τ : Nat → Nat) (L : List Int64) : Prop := μ.1 31 = nI (τ 0) ∧ μ.1 11 = nI (τ 4) ∧ μ.1 12 = nI (τ 5) ∧ μ.1 13 = nI (τ 3) ∧ τ 5 ≤ τ 4 ∧ q_PR μ.2.2 (μ.2.1 9) (μ.2.1 10) (τ 5) L
def c_CO (σ μ : q_S) (τ : Nat → Nat) : Prop := σ.1 12 = μ.1 33 ∧ σ.1 13 = μ.1 32 ∧ σ.1 14 = μ.1 34 ∧ σ.1 15 = μ.1 35 ∧ (∀ i, σ.2.1 5 i = μ.2.1 6 i) ∧ (∀ i, i < τ 3 → σ.2.1 30 i = μ.2.1 14 i ∧ σ.2.1 31 i = μ.2.1 15 i ∧ σ.2.1 32 i = μ.2.1 16 i) ∧ τ 0 ≤ 3000 ∧ τ 1 ≤ τ 0 ∧ τ 3 ≤ τ 0 ∧ τ 4 ≤ τ 0
def c_Cor (N K : Nat) (cf : Nat → Nat → Int32) (σ μ : q_S) (τ : Nat → Nat) (L : List Int64) : Prop := c_Y N K cf σ ∧ c_M N K cf μ ∧ c_DY σ τ L ∧ c_DM μ τ L ∧ c_CO σ μ τ
/-- frame j is an OR whose first reader reads -/
def c_or (cf : Nat → Nat → Int32) (μ : q_S) (j : Nat) : Prop := cf 1 ((μ.2.1 18 j).toNatClampNeg) = 5 ∧ μ.2.1 19 j = 1
def c_F (K : Nat) (cf : Nat → Nat → Int32) (k : Nat) (σ μ : q_S) : Prop := μ.1 17 = nI k ∧ μ.1 30 = 0 ∧ (∀ j, j < k → ∃ r, r < K ∧ μ.2.1 18 j = nI r) ∧ (∀ j, j < k → c_or cf μ j → σ.2.1 8 (j + 1) = μ.2.1 22 j)
noncomputable def c_nr (cf : Nat → Nat → Int32) (μ : q_S) : Nat → Nat
  | 0 => 0
  | k + 1 => if cf 1 ((μ.2.1 18 k).toNatClampNeg) = 5 ∧ μ.2.1 19 k = 1 then k + 1 else c_nr cf μ k
def c_E (b k : Nat) (σ μ : q_S) (τ : Nat → Nat) (σ' μ' : q_S) (τ' : Nat → Nat) : Prop :=
  (τ 0 ≤ τ' 0 ∧ τ 1 ≤ τ' 1 ∧ τ 3 ≤ τ' 3 ∧ τ 4 ≤ τ' 4 ∧ 2 * (τ' 1 + τ 0) ≤ 2 * (τ 1 + τ' 0) + b ∧ 2 * (τ' 3 + τ 0) ≤ 2 * (τ 3 + τ' 0) + b ∧ 2 * (τ' 4 + τ 0) ≤ 2 * (τ 4 + τ' 0) + b) ∧
  (∀ j, j ≤ τ 1 → σ'.2.2 j = σ.2.2 j ∧ σ'.2.1 21 j = σ.2.1 21 j ∧ σ'.2.1 22 j = σ.2.1 22 j) ∧
  (∀ j, j ≤ τ 4 → μ'.2.2 j = μ.2.2 j ∧ μ'.2.1 9 j = μ.2.1 9 j ∧ μ'.2.1 10 j = μ.2.1 10 j) ∧
  (∀ j, j < τ 3 → σ'.2.1 30 j = σ.2.1 30 j ∧ σ'.2.1 31 j = σ.2.1 31 j ∧ σ'.2.1 32 j = σ.2.1 32 j) ∧
  (∀ j, j < τ 3 → μ'.2.1 14 j = μ.2.1 14 j ∧ μ'.2.1 15 j = μ.2.1 15 j ∧ μ'.2.1 16 j = μ.2.1 16 j) ∧
  (∀ i, 18 ≤ i → i ≤ 28 → i ≠ 22 → ∀ j, j < k → μ'.2.1 i j = μ.2.1 i j)
theorem c_E_refl (b k : Nat) (σ μ : q_S) (τ : Nat → Nat) : c_E b k σ μ τ σ μ τ := ⟨by omega, fun _ _ => ⟨rfl, rfl, rfl⟩, fun _ _ => ⟨rfl, rfl, rfl⟩, fun _ _ => ⟨rfl, rfl, rfl⟩, fun _ _ => ⟨rfl, rfl, rfl⟩, fun _ _ _ _ _ _ => rfl⟩
theorem c_E_weak {b k k' : Nat} {σ μ : q_S} {τ : Nat → Nat} {σ' μ' : q_S} {τ' : Nat → Nat} (h : c_E b k' σ μ τ σ' μ' τ') (hk : k ≤ k') : c_E b k σ μ τ σ' μ' τ' := ⟨h.1, h.2.1, h.2.2.1, h.2.2.2.1, h.2.2.2.2.1, fun i h1 h2 h3 j hj => h.2.2.2.2.2 i h1 h2 h3 j (by omega)⟩
theorem c_E_b {b b' k : Nat} {σ μ : q_S} {τ : Nat → Nat} {σ' μ' : q_S} {τ' : Nat → Nat} (h : c_E b k σ μ τ σ' μ' τ') (hb : b ≤ b') : c_E b' k σ μ τ σ' μ' τ' := ⟨by have := h.1; omega, h.2⟩
theorem c_E_trans {b b2 k : Nat} {σ μ : q_S} {τ : Nat → Nat} {σ' μ' : q_S} {τ' : Nat → Nat} {σ2 μ2 : q_S} {τ2 : Nat → Nat} (h : c_E b k σ μ τ σ' μ' τ') (h2 : c_E b2 k σ' μ' τ' σ2 μ2 τ2) : c_E (b + b2) k σ μ τ σ2 μ2 τ2 := by
  obtain ⟨a1, a2, a3, a4, a5, a6⟩ := h
  obtain ⟨b1, b2, b3, b4, b5, b6⟩ := h2
  refine ⟨by omega, fun j hj => ?_, fun j hj => ?_, fun j hj => ?_, fun j hj => ?_, fun i h1 h2 h3 j hj => ?_⟩
  · obtain ⟨x1, x2, x3⟩ := a2 j hj
    obtain ⟨y1, y2, y3⟩ := b2 j (by omega)
    exact ⟨y1.trans x1, y2.trans x2, y3.trans x3⟩
  · obtain ⟨x1, x2, x3⟩ := a3 j hj
    obtain ⟨y1, y2, y3⟩ := b3 j (by omega)
    exact ⟨y1.trans x1, y2.trans x2, y3.trans x3⟩
  · obtain ⟨x1, x2, x3⟩ := a4 j hj
    obtain ⟨y1, y2, y3⟩ := b4 j (by omega)
    exact ⟨y1.trans x1, y2.trans x2, y3.trans x3⟩
  · obtain ⟨x1, x2, x3⟩ := a5 j hj
    obtain ⟨y1, y2, y3⟩ := b5 j (by omega)
    exact ⟨y1.trans x1, y2.trans x2, y3.trans x3⟩
  · exact (b6 i h1 h2 h3 j hj).trans (a6 i h1 h2 h3 j hj)
/-- the reference's loop goes in j rounds from m to m2 -/
def c_R (n j : Nat) (m m2 : q_S) : Prop := ∀ x : Nat, f_X3_reads_lp n (x + j) m.1 m.2.1 m.2.2 = f_X3_reads_lp n x m2.1 m2.2.1 m2.2.2
theorem c_R_refl (n : Nat) (m : q_S) : c_R n 0 m m := fun _ => rfl
theorem c_R_trans {n i j : Nat} {m m1 m2 : q_S} (h1 : c_R n i m m1) (h2 : c_R n j m1 m2) : c_R n (i + j) m m2 := by
  intro x
  rw [show x + (i + j) = (x + j) + i by omega, h1, h2]
theorem c_R_step {n k : Nat} {m m2 : q_S} (hk : k < 150) (h17 : m.1 17 = nI (k + 1)) (h30 : m.1 30 = 0) (hg : f_X3_goesOn n m.1 m.2.1 m.2.2 = some m2) : c_R n 1 m m2 := by
  intro x
  show f_X3_reads_lb n (f_X3_reads_lp n x) m.1 m.2.1 m.2.2 = _
  unfold f_X3_reads_lb
  rw [if_neg (by rw [h17]; exact nI_nle (by omega) (by omega)), if_pos h30, hg, q_cv_s2]
/-- what a reader's reading comes to: beside the yard's answer y, the reference from m -/
def c_Out (b n N K : Nat) (cf : Nat → Nat → Int32) (k place : Nat) (σ μ : q_S) (τ : Nat → Nat) (L : List Int64) (y : Option (Int32 × q_S)) (m : q_S) : Prop :=
  ∃ (res : Int32) (σ' μ' : q_S) (τ' : Nat → Nat) (L' : List Int64) (j : Nat), y = some (res, σ') ∧ c_R n j m μ' ∧ c_Cor N K cf σ' μ' τ' L' ∧ τ 0 ≤ τ' 0 ∧
    ((∃ φ : Nat, 1 ≤ φ ∧ φ ≤ 5 ∧ res = -10 - nI φ ∧ μ'.1 30 = nI φ ∧ j ≤ 2 * (τ' 0 - τ 0) + b) ∨
     (c_E b k σ μ τ σ' μ' τ' ∧ c_F K cf k σ' μ' ∧ μ'.1 29 = res ∧ j + 1 ≤ 2 * (τ' 0 - τ 0) + b ∧
       ((res = -1 ∧ L' = L ∧ τ' 2 = τ 2 ∧ τ' 3 = τ 3 ∧ τ' 4 = τ 4 ∧ τ' 5 = τ 5) ∨ ∃ q : Nat, res = nI q ∧ place ≤ q ∧ q ≤ N)))
theorem c_flt {φ : Nat} (h1 : 1 ≤ φ) (h2 : φ ≤ 5) : ¬ ((-10 : Int32) - nI φ = -1) ∧ ((-10 : Int32) - nI φ < 0) ∧ ¬ ((-10 : Int32) ≤ -10 - nI φ) ∧ ¬ ((-10 : Int32) - nI φ = 0) ∧ ((-10 : Int32) - (-10 - nI φ) = nI φ) := by
  have h : φ = 1 ∨ φ = 2 ∨ φ = 3 ∨ φ = 4 ∨ φ = 5 := by omega
  rcases h with rfl | rfl | rfl | rfl | rfl <;> decide
theorem c_pl {q : Nat} (h : q ≤ 3000) : ¬ (nI q = (-1 : Int32)) ∧ ¬ (nI q < 0) ∧ (-10 : Int32) ≤ nI q ∧ ¬ (nI q = (-2 : Int32)) := by
  have e := nI_toInt (n := q) (by omega)
  refine ⟨fun z => ?_, nI_pos (by omega), ?_, fun z => ?_⟩
  · have := congrArg Int32.toInt z
    rw [e] at this
    have h2 : (-1 : Int32).toInt = -1 := by decide
    omega
  · rw [Int32.le_iff_toInt_le, e]
    have h2 : (-10 : Int32).toInt = -10 := by decide
    omega
  · have := congrArg Int32.toInt z
    rw [e] at this
    have h2 : (-2 : Int32).toInt = -2 := by decide
    omega

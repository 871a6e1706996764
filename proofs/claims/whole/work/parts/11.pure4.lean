/-! what a frame may count on; a reader read within a frame -/
def c_IH (n N K : Nat) (cf : Nat → Nat → Int32) (k : Nat) (G : q_s → q_a → q_g → Int32 → Int32 → Int32 → Int32 → Option (Int32 × q_S)) : Prop :=
  ∀ (r place : Nat) (σ μ : q_S) (τ : Nat → Nat) (L : List Int64), r < K → place ≤ N → c_Cor N K cf σ μ τ L → c_F K cf (k + 1) σ μ →
    ∃ μb : q_S, f_X3_begin μ.1 μ.2.1 μ.2.2 (nI r) (nI place) = some μb ∧ c_Out 0 n N K cf (k + 1) place σ μ τ L (G σ.1 σ.2.1 σ.2.2 (nI r) (nI place) (nI (k + 2)) (nI (c_nr cf μ (k + 1)))) μb
def c_X (n N K : Nat) (cf : Nat → Nat → Int32) (k r place o : Nat) (G : q_s → q_a → q_g → Int32 → Int32 → Int32 → Int32 → Option (Int32 × q_S)) (σ0 σ1 μ1 : q_S) (τ1 : Nat → Nat) (L1 : List Int64) : Prop :=
  c_St N K cf ∧ 7000 ≤ n ∧ k < 150 ∧ r < K ∧ place ≤ N ∧ o = c_nr cf μ1 k ∧ f_X2_begin σ0.1 σ0.2.1 σ0.2.2 (nI r) (nI (k + 1)) = some (0, σ1) ∧ c_Cor N K cf σ1 μ1 τ1 L1 ∧ c_F K cf (k + 1) σ1 μ1 ∧ c_K k r place τ1 μ1 ∧ μ1.2.1 19 k = 0 ∧ μ1.2.1 21 k = nI place ∧ μ1.2.1 22 k = 0 ∧ (τ1 1 < τ1 0 ∧ τ1 3 < τ1 0 ∧ τ1 4 < τ1 0) ∧ c_IH n N K cf k G
theorem c_Cor_A {N K : Nat} {cf : Nat → Nat → Int32} {σ : q_S} {S : q_s} {A A' : q_a} {G : q_g} {τ : Nat → Nat} {L : List Int64} (hC : c_Cor N K cf σ (S, A, G) τ L) (h : ∀ i, i < 18 → A' i = A i) : c_Cor N K cf σ (S, A', G) τ L := by
  obtain ⟨hY, hM, hDY, hDM, hCO⟩ := hC
  have e : ∀ i, i < 18 → A' i = A i := h
  refine ⟨hY, ?_, hDY, ?_, ?_⟩
  · simpa [c_M, e 0 (by decide), e 3 (by decide), e 4 (by decide), e 5 (by decide), e 7 (by decide)] using hM
  · simpa [c_DM, e 9 (by decide), e 10 (by decide)] using hDM
  · simpa [c_CO, e 6 (by decide), e 14 (by decide), e 15 (by decide), e 16 (by decide)] using hCO
/-- the yard's row of bars may change -/
theorem c_Cor_8 {N K : Nat} {cf : Nat → Nat → Int32} {μ : q_S} {s : q_s} {a : q_a} {g : q_g} {τ : Nat → Nat} {L : List Int64} (i : Nat) (v : Int32) (hC : c_Cor N K cf (s, a, g) μ τ L) : c_Cor N K cf (s, q_ua a 8 i v, g) μ τ L := by
  obtain ⟨hY, hM, hDY, hDM, hCO⟩ := hC
  refine ⟨?_, hM, ?_, hDM, ?_⟩
  · simpa [c_Y, ua_ne] using hY
  · simpa [c_DY, ua_ne] using hDY
  · simpa [c_CO, ua_ne] using hCO
theorem F_bump {K k r : Nat} {cf : Nat → Nat → Int32} {σ : q_S} {S : q_s} {A A' : q_a} {G : q_g} (hF : c_F K cf (k + 1) σ (S, A, G)) (h18 : A' 18 = A 18) (h19 : ∀ j, j < k → A' 19 j = A 19 j) (h22 : A' 22 = A 22) (hk : A 18 k = nI r) (hr : r < 2 ^ 31) (hor : cf 1 r = 5 → A' 19 k = 1 → σ.2.1 8 (k + 1) = A 22 k) : c_F K cf (k + 1) σ (S, A', G) := by
  obtain ⟨f1, f2, f3, f4⟩ := hF
  refine ⟨f1, f2, fun j hj => by simpa [h18] using f3 j hj, fun j hj ho => ?_⟩
  show _ = A' 22 j
  rw [h22]
  by_cases c : j = k
  · subst c
    obtain ⟨o1, o2⟩ := ho
    simp only [h18, hk, nI_clamp hr] at o1 o2
    exact hor o1 o2
  · have hjk : j < k := by omega
    refine f4 j hj ⟨?_, ?_⟩
    · have := ho.1
      simpa [h18] using this
    · have := ho.2
      simpa [h19 j hjk] using this
theorem E_bump {k : Nat} {σ σ' : q_S} {S S' : q_s} {A A' : q_a} {G : q_g} {τ : Nat → Nat} (hg : σ'.2.2 = σ.2.2) (ha : ∀ i, 20 ≤ i → σ'.2.1 i = σ.2.1 i) (hA : ∀ i, i < 18 → A' i = A i) (hA2 : ∀ i j, 18 ≤ i → j < k → A' i j = A i j) : c_E 0 k σ (S, A, G) τ σ' (S', A', G) τ := by
  refine ⟨by omega, fun j _ => ?_, fun j _ => ?_, fun j _ => ?_, fun j _ => ?_, fun i h1 _ _ j hj => hA2 i j h1 hj⟩
  · rw [hg, ha 21 (by decide), ha 22 (by decide)]
    exact ⟨rfl, rfl, rfl⟩
  · exact ⟨rfl, congrFun (hA 9 (by decide)) j, congrFun (hA 10 (by decide)) j⟩
  · rw [ha 30 (by decide), ha 31 (by decide), ha 32 (by decide)]
    exact ⟨rfl, rfl, rfl⟩
  · exact ⟨congrFun (hA 14 (by decide)) j, congrFun (hA 15 (by decide)) j, congrFun (hA 16 (by decide)) j⟩
theorem c_sub {n N K k r2 pl o : Nat} {cf : Nat → Nat → Int32} {G : q_s → q_a → q_g → Int32 → Int32 → Int32 → Int32 → Option (Int32 × q_S)} {σ m : q_S} {S : q_s} {A : q_a} {Gm : q_g} {τ : Nat → Nat} {L : List Int64} (hIH : c_IH n N K cf k G) (hk : k < 150) (h17 : m.1 17 = nI (k + 1)) (h30 : m.1 30 = 0)
    (hC : c_Cor N K cf σ (S, A, Gm) τ L) (hF : c_F K cf (k + 1) σ (S, A, Gm)) (hg : f_X3_goesOn n m.1 m.2.1 m.2.2 = f_X3_begin S A Gm (nI r2) (nI pl)) (hr2 : r2 < K) (hpl : pl ≤ N) (ho : o = c_nr cf (S, A, Gm) (k + 1)) :
    ∃ (res : Int32) (s2 : q_s) (a2 : q_a) (g2 : q_g) (S2 : q_s) (A2 : q_a) (G2 : q_g) (τ2 : Nat → Nat) (L2 : List Int64) (j : Nat), G σ.1 σ.2.1 σ.2.2 (nI r2) (nI pl) (nI (k + 2)) (nI o) = some (res, s2, a2, g2) ∧ c_R n j m (S2, A2, G2) ∧ c_Cor N K cf (s2, a2, g2) (S2, A2, G2) τ2 L2 ∧ τ 0 ≤ τ2 0 ∧
      ((∃ φ : Nat, 1 ≤ φ ∧ φ ≤ 5 ∧ res = -10 - nI φ ∧ S2 30 = nI φ ∧ j ≤ 2 * (τ2 0 - τ 0) + 1) ∨
       (c_E 0 (k + 1) σ (S, A, Gm) τ (s2, a2, g2) (S2, A2, G2) τ2 ∧ c_F K cf (k + 1) (s2, a2, g2) (S2, A2, G2) ∧ S2 29 = res ∧ j ≤ 2 * (τ2 0 - τ 0) ∧
         ((res = -1 ∧ L2 = L ∧ τ2 2 = τ 2 ∧ τ2 3 = τ 3 ∧ τ2 4 = τ 4 ∧ τ2 5 = τ 5) ∨ ∃ q : Nat, res = nI q ∧ pl ≤ q ∧ q ≤ N))) := by
  obtain ⟨μb, h1, res, ⟨s2, a2, g2⟩, ⟨S2, A2, G2⟩, τ2, L2, j, h2, h3, h4, h5, h6⟩ := hIH r2 pl σ (S, A, Gm) τ L hr2 hpl hC hF
  rw [show f_X3_begin S A Gm (nI r2) (nI pl) = some μb from h1] at hg
  refine ⟨res, s2, a2, g2, S2, A2, G2, τ2, L2, 1 + j, by rw [ho]; exact h2, c_R_trans (c_R_step hk h17 h30 hg) h3, h4, h5, ?_⟩
  rcases h6 with ⟨φ, x1, x2, x3, x4, x5⟩ | ⟨x1, x2, x3, x4, x5⟩
  · exact Or.inl ⟨φ, x1, x2, x3, x4, by omega⟩
  · exact Or.inr ⟨x1, x2, x3, by omega, x5⟩
theorem tbY (s : q_s) (a : q_a) (g : q_g) (x y : Int32) : f_X2_takeBack s a g x y = some (q_us (q_us s 24 x) 33 y, a, g) := rfl
/-- a sign's reading -/
noncomputable def c_pS (cf : Nat → Nat → Int32) (N place : Nat) (lo hi : Int32) : Int32 := if place < N then (if cf 0 place < lo then -1 else if hi < cf 0 place then -1 else nI (place + 1)) else -1
theorem c_pS_or (cf : Nat → Nat → Int32) (N place : Nat) (lo hi : Int32) : c_pS cf N place lo hi = -1 ∨ ∃ q : Nat, c_pS cf N place lo hi = nI q ∧ place ≤ q ∧ q ≤ N := by
  unfold c_pS
  by_cases h : place < N
  · rw [if_pos h]
    by_cases h1 : cf 0 place < lo
    · rw [if_pos h1]; exact Or.inl rfl
    · rw [if_neg h1]
      by_cases h2 : hi < cf 0 place
      · rw [if_pos h2]; exact Or.inl rfl
      · rw [if_neg h2]; exact Or.inr ⟨place + 1, rfl, by omega, by omega⟩
  · rw [if_neg h]; exact Or.inl rfl
theorem passY {N K place : Nat} {cf : Nat → Nat → Int32} {s : q_s} {a : q_a} {g : q_g} {lo hi : Int32} (hN : N ≤ 200) (hY : c_Y N K cf (s, a, g)) (hp : place ≤ N) : f_X2_passSign s a g (nI place) lo hi = some (c_pS cf N place lo hi, s, a, g) := by
  obtain ⟨h1, -, h0, -, -⟩ := hY
  have h1 : s 1 = nI N := h1
  unfold f_X2_passSign c_pS
  rw [if_neg (nI_pos (by omega)), h1]
  by_cases h : place < N
  · have e : a 0 place = cf 0 place := h0 place h
    rw [if_pos (nI_lt h (by omega)), if_pos h, q_ck_in (show place < 200 by omega) (by decide), nI_clamp (by omega), e, nI_1]
    split
    · rfl
    · split <;> rfl
  · rw [if_neg (nI_nlt (by omega) (by omega)), if_neg h]
theorem inM (s : q_s) (a : q_a) (g : q_g) (v lo hi : Int32) : f_X3_in s a g v lo hi = some (if v < lo then 0 else if hi < v then 0 else 1, s, a, g) := by
  unfold f_X3_in
  split
  · rfl
  · split <;> rfl

/-! reader, name -/
def okA (K ty : Nat) (x : Int32) : Prop := ((4 ≤ ty ∧ ty ≤ 9 ∨ ty = 11) → ∃ r, r < K ∧ x = nI r) ∧ (ty = 10 → ∃ j, j < 10 ∧ x = nI j) ∧ (ty = 15 → ∃ j, j < 4 ∧ x = nI j)
def okB (K ty : Nat) (x : Int32) : Prop := (ty = 4 ∨ ty = 5) → ∃ r, r < K ∧ x = nI r
theorem isN_yes {i : Nat} (s : q_s) (a : q_a) (g : q_g) (h : i < 10) : f_X2_isName s a g (nI i) = some (1, s, a, g) := by
  unfold f_X2_isName
  rw [if_neg (nI_pos (by omega)), if_neg (show ¬ (10 : Int32) ≤ nI i from nI_ge (b := 10) h (by decide))]
theorem isN_no (s : q_s) (a : q_a) (g : q_g) {x : Int32} (h : x < 0 ∨ nI 10 ≤ x) : f_X2_isName s a g x = some (0, s, a, g) := by
  unfold f_X2_isName
  by_cases c : x < 0
  · rw [if_pos c]
  · rw [if_neg c]
    rcases h with h | h
    · exact absurd h c
    · rw [if_pos (show (10 : Int32) ≤ x from h)]
section RD
variable {K ty : Nat} {s S : q_s} {a A : q_a} {g Gm : q_g} {p2 p3 : Int32}
theorem ff_yes (h6 : s 6 = nI K) (hK : K ≤ 50) (hK2 : 2 ≤ K) (ht : ty < 16) (h : okA K ty p2) : f_X2_fitsFirst s a g (nI ty) p2 = some (1, s, a, g) := by
  unfold f_X2_fitsFirst
  have e : (4 ≤ ty ∧ ty ≤ 9 ∨ ty = 11) ∨ ty = 10 ∨ ty = 15 ∨ (ty < 4 ∨ ty = 12 ∨ ty = 13 ∨ ty = 14) := by omega
  rcases e with e | e | e | e
  · obtain ⟨r, hr, rfl⟩ := h.1 e
    have e' : ty = 4 ∨ ty = 5 ∨ ty = 6 ∨ ty = 7 ∨ ty = 8 ∨ ty = 9 ∨ ty = 11 := by omega
    rw [(isR_yes (S := fun _ => nI K) a a g g h6 rfl hK hr).1]
    rcases e' with rfl | rfl | rfl | rfl | rfl | rfl | rfl <;> rfl
  · subst e
    obtain ⟨r, hr, rfl⟩ := h.2.1 rfl
    rw [isN_yes _ _ _ hr]
    rfl
  · subst e
    obtain ⟨r, hr, rfl⟩ := h.2.2 rfl
    have b1 : ¬ nI r < 0 := nI_pos (by omega)
    have b2 : ¬ (3 : Int32) < nI r := nI_nlt (a := 3) (by omega) (by decide)
    rw [if_neg (by decide), if_neg (by decide), if_pos (by decide), if_neg b1, if_neg b2]
  · have e' : ty = 0 ∨ ty = 1 ∨ ty = 2 ∨ ty = 3 ∨ ty = 12 ∨ ty = 13 ∨ ty = 14 := by omega
    rcases e' with rfl | rfl | rfl | rfl | rfl | rfl | rfl <;> rfl
theorem ff_no (h6 : s 6 = nI K) (hK : K ≤ 50) (hK2 : 2 ≤ K) (ht : ty < 16) (h : ¬ okA K ty p2) : f_X2_fitsFirst s a g (nI ty) p2 = some (0, s, a, g) := by
  unfold f_X2_fitsFirst
  have e : (4 ≤ ty ∧ ty ≤ 9 ∨ ty = 11) ∨ ty = 10 ∨ ty = 15 ∨ (ty < 4 ∨ ty = 12 ∨ ty = 13 ∨ ty = 14) := by omega
  rcases e with e | e | e | e
  · have e' : ty = 4 ∨ ty = 5 ∨ ty = 6 ∨ ty = 7 ∨ ty = 8 ∨ ty = 9 ∨ ty = 11 := by omega
    have hx : p2 < 0 ∨ nI K ≤ p2 := by
      rcases pk_ix p2 (n := K) (by omega) with c | c | c
      · exact Or.inl c
      · exact Or.inr c
      · exact absurd ⟨fun _ => c, fun z => by omega, fun z => by omega⟩ h
    rw [(isR_no (S := fun _ => nI K) a a g g h6 rfl hK hK2 hx).1]
    rcases e' with rfl | rfl | rfl | rfl | rfl | rfl | rfl <;> rfl
  · subst e
    have hx : p2 < 0 ∨ nI 10 ≤ p2 := by
      rcases pk_ix p2 (n := 10) (by omega) with c | c | c
      · exact Or.inl c
      · exact Or.inr c
      · exact absurd ⟨fun z => by omega, fun _ => c, fun z => by omega⟩ h
    rw [isN_no _ _ _ hx]
    rfl
  · subst e
    rw [if_neg (by decide), if_neg (by decide), if_pos (by decide)]
    rcases pk_ix p2 (n := 4) (by omega) with c | c | c
    · rw [if_pos c]
    · have b2 : (3 : Int32) < p2 := Int32.lt_of_lt_of_le (by decide) c
      by_cases c1 : p2 < 0
      · rw [if_pos c1]
      · rw [if_neg c1, if_pos b2]
    · exact absurd ⟨fun z => by omega, fun z => by omega, fun _ => c⟩ h
  · exact absurd ⟨fun z => by omega, fun z => by omega, fun z => by omega⟩ h
theorem fs_yes (h6 : s 6 = nI K) (hK : K ≤ 50) (hK2 : 2 ≤ K) (ht : ty < 16) (h : okB K ty p3) : f_X2_fitsSecond s a g (nI ty) p3 = some (1, s, a, g) := by
  unfold f_X2_fitsSecond
  by_cases c : ty = 4
  · obtain ⟨r, hr, rfl⟩ := h (Or.inl c)
    subst c
    rw [(isR_yes (S := fun _ => nI K) a a g g h6 rfl hK hr).1]
    rfl
  · have n4 : ¬ nI ty = (4 : Int32) := fun z => c ((nI_eq (b := 4) (by omega) (by decide)).mp z)
    rw [if_neg n4]
    by_cases c2 : ty = 5
    · obtain ⟨r, hr, rfl⟩ := h (Or.inr c2)
      subst c2
      rw [(isR_yes (S := fun _ => nI K) a a g g h6 rfl hK hr).1]
      rfl
    · have n5 : ¬ nI ty = (5 : Int32) := fun z => c2 ((nI_eq (b := 5) (by omega) (by decide)).mp z)
      rw [if_neg n5]
theorem fs_no (h6 : s 6 = nI K) (hK : K ≤ 50) (hK2 : 2 ≤ K) (ht : ty < 16) (h : ¬ okB K ty p3) : f_X2_fitsSecond s a g (nI ty) p3 = some (0, s, a, g) := by
  unfold f_X2_fitsSecond
  have e : ty = 4 ∨ ty = 5 := by
    rcases Nat.decEq ty 4 with c | c
    · rcases Nat.decEq ty 5 with c2 | c2
      · exact absurd (fun z => by omega) h
      · exact Or.inr c2
    · exact Or.inl c
  have hx : p3 < 0 ∨ nI K ≤ p3 := by
    rcases pk_ix p3 (n := K) (by omega) with c | c | c
    · exact Or.inl c
    · exact Or.inr c
    · exact absurd (fun _ => c) h
  rw [(isR_no (S := fun _ => nI K) a a g g h6 rfl hK hK2 hx).1]
  rcases e with rfl | rfl <;> rfl
theorem rb70_yes (h : okA K ty p2) (ht : ty < 16) : f_X3_reader_b70 S A Gm (nI ty) p2 p3 = f_X3_reader_b104 S A Gm (nI ty) p2 p3 := by
  unfold f_X3_reader_b70
  by_cases c : ty = 10
  · obtain ⟨r, hr, rfl⟩ := h.2.1 c
    subst c
    rw [show f_X3_in S A Gm (nI r) 0 9 = some (1, S, A, Gm) from inM_yes (lo := 0) (n := 9) _ _ _ (by omega) (by omega) (by decide)]
    rfl
  · have n10 : ¬ nI ty = (10 : Int32) := fun z => c ((nI_eq (b := 10) (by omega) (by decide)).mp z)
    rw [if_neg n10]
    by_cases c2 : ty = 15
    · obtain ⟨r, hr, rfl⟩ := h.2.2 c2
      subst c2
      rw [show f_X3_in S A Gm (nI r) 0 3 = some (1, S, A, Gm) from inM_yes (lo := 0) (n := 3) _ _ _ (by omega) (by omega) (by decide)]
      rfl
    · have n15 : ¬ nI ty = (15 : Int32) := fun z => c2 ((nI_eq (b := 15) (by omega) (by decide)).mp z)
      rw [if_neg n15]
theorem rb70_no (h : ¬ okA K ty p2) (ht : ty < 16) (e : ty = 10 ∨ ty = 15) : f_X3_reader_b70 S A Gm (nI ty) p2 p3 = some (-2, S, A, Gm) := by
  unfold f_X3_reader_b70
  rcases e with rfl | rfl
  · rw [if_pos (by decide)]
    rcases pk_ix p2 (n := 10) (by omega) with c | c | c
    · rw [inM_lo _ _ _ c]; rfl
    · rw [inM_hi _ _ _ (Int32.lt_of_lt_of_le (by decide) c)]; rfl
    · exact absurd ⟨fun z => by omega, fun _ => c, fun z => by omega⟩ h
  · rw [if_neg (by decide), if_pos (by decide)]
    rcases pk_ix p2 (n := 4) (by omega) with c | c | c
    · rw [inM_lo _ _ _ c]; rfl
    · rw [inM_hi _ _ _ (Int32.lt_of_lt_of_le (by decide) c)]; rfl
    · exact absurd ⟨fun z => by omega, fun z => by omega, fun _ => c⟩ h
theorem rb49_yes (h2 : S 2 = nI K) (hK : K ≤ 50) (ht : ty < 16) (h : okB K ty p3) : f_X3_reader_b49 S A Gm (nI ty) p2 p3 = f_X3_reader_b70 S A Gm (nI ty) p2 p3 := by
  unfold f_X3_reader_b49
  by_cases c : ty = 4
  · obtain ⟨r, hr, rfl⟩ := h (Or.inl c)
    subst c
    rw [(isR_yes (s := fun _ => nI K) A A Gm Gm rfl h2 hK hr).2]
    rfl
  · have n4 : ¬ nI ty = (4 : Int32) := fun z => c ((nI_eq (b := 4) (by omega) (by decide)).mp z)
    rw [if_neg n4]
    by_cases c2 : ty = 5
    · obtain ⟨r, hr, rfl⟩ := h (Or.inr c2)
      subst c2
      rw [(isR_yes (s := fun _ => nI K) A A Gm Gm rfl h2 hK hr).2]
      rfl
    · have n5 : ¬ nI ty = (5 : Int32) := fun z => c2 ((nI_eq (b := 5) (by omega) (by decide)).mp z)
      rw [if_neg n5]
theorem rb49_no (h2 : S 2 = nI K) (hK : K ≤ 50) (hK2 : 2 ≤ K) (ht : ty < 16) (h : ¬ okB K ty p3) : f_X3_reader_b49 S A Gm (nI ty) p2 p3 = some (-2, S, A, Gm) := by
  unfold f_X3_reader_b49
  have e : ty = 4 ∨ ty = 5 := by
    rcases Nat.decEq ty 4 with c | c
    · rcases Nat.decEq ty 5 with c2 | c2
      · exact absurd (fun z => by omega) h
      · exact Or.inr c2
    · exact Or.inl c
  have hx : p3 < 0 ∨ nI K ≤ p3 := by
    rcases pk_ix p3 (n := K) (by omega) with c | c | c
    · exact Or.inl c
    · exact Or.inr c
    · exact absurd (fun _ => c) h
  rw [(isR_no (s := fun _ => nI K) A A Gm Gm rfl h2 hK hK2 hx).2]
  rcases e with rfl | rfl <;> rfl
theorem rM_in (ht : ty < 16) : f_X3_in S A Gm (nI ty) 0 15 = some (1, S, A, Gm) := inM_yes (lo := 0) (n := 15) _ _ _ (by omega) (by omega) (by decide)
theorem rM_yes (h2 : S 2 = nI K) (hK : K ≤ 50) (ht : ty < 16) (hA : okA K ty p2) (hB : okB K ty p3) : f_X3_reader S A Gm (nI ty) p2 p3 = f_X3_reader_b104 S A Gm (nI ty) p2 p3 := by
  have hb : f_X3_reader_b49 S A Gm (nI ty) p2 p3 = f_X3_reader_b104 S A Gm (nI ty) p2 p3 := (rb49_yes h2 hK ht hB).trans (rb70_yes hA ht)
  unfold f_X3_reader
  rw [rM_in ht, q_ci_s, if_neg (by decide)]
  by_cases c : 4 ≤ ty ∧ ty ≤ 9
  · obtain ⟨r, hr, rfl⟩ := hA.1 (Or.inl c)
    rw [show f_X3_in S A Gm (nI ty) 4 9 = some (1, S, A, Gm) from inM_yes (lo := 4) (n := 9) _ _ _ c.1 c.2 (by decide), q_ci_s, if_neg (by decide), (isR_yes (s := fun _ => nI K) A A Gm Gm rfl h2 hK hr).2, q_ci_s, if_neg (by decide), hb]
  · have e : f_X3_in S A Gm (nI ty) 4 9 = some (0, S, A, Gm) := by
      by_cases c1 : ty < 4
      · exact inM_lo _ _ _ (nI_lt (b := 4) c1 (by decide))
      · exact inM_hi _ _ _ (nI_lt (a := 9) (by omega) (by omega))
    rw [e, q_ci_s, if_pos rfl]
    by_cases c1 : ty = 11
    · obtain ⟨r, hr, rfl⟩ := hA.1 (Or.inr c1)
      subst c1
      rw [if_pos (by decide), (isR_yes (s := fun _ => nI K) A A Gm Gm rfl h2 hK hr).2, q_ci_s, if_neg (by decide), hb]
    · have n11 : ¬ nI ty = (11 : Int32) := fun z => c1 ((nI_eq (b := 11) (by omega) (by decide)).mp z)
      rw [if_neg n11, hb]
theorem rM_no (h2 : S 2 = nI K) (hK : K ≤ 50) (hK2 : 2 ≤ K) (ht : ty < 16) (h : ¬ (okA K ty p2 ∧ okB K ty p3)) : f_X3_reader S A Gm (nI ty) p2 p3 = some (-2, S, A, Gm) := by
  unfold f_X3_reader
  rw [rM_in ht, q_ci_s, if_neg (by decide)]
  by_cases c : 4 ≤ ty ∧ ty ≤ 9 ∨ ty = 11
  · by_cases hx : p2 < 0 ∨ nI K ≤ p2
    · have e := (isR_no (s := fun _ => nI K) A A Gm Gm rfl h2 hK hK2 hx).2
      rcases c with c | c
      · rw [show f_X3_in S A Gm (nI ty) 4 9 = some (1, S, A, Gm) from inM_yes (lo := 4) (n := 9) _ _ _ c.1 c.2 (by decide), q_ci_s, if_neg (by decide), e]
        rfl
      · subst c
        rw [show f_X3_in S A Gm (nI 11) 4 9 = some (0, S, A, Gm) from inM_hi _ _ _ (by decide), q_ci_s, if_pos rfl, if_pos (by decide), e]
        rfl
    · obtain ⟨r, hr, rfl⟩ : ∃ r, r < K ∧ p2 = nI r := by
        rcases pk_ix p2 (n := K) (by omega) with c | c | c
        · exact absurd (Or.inl c) hx
        · exact absurd (Or.inr c) hx
        · exact c
      have hA : okA K ty (nI r) := ⟨fun _ => ⟨r, hr, rfl⟩, fun z => by omega, fun z => by omega⟩
      have hB : ¬ okB K ty p3 := fun z => h ⟨hA, z⟩
      have e := (isR_yes (s := fun _ => nI K) A A Gm Gm rfl h2 hK hr).2
      have e3 := rb49_no (p2 := nI r) (A := A) (Gm := Gm) h2 hK hK2 ht hB
      rcases c with c | c
      · rw [show f_X3_in S A Gm (nI ty) 4 9 = some (1, S, A, Gm) from inM_yes (lo := 4) (n := 9) _ _ _ c.1 c.2 (by decide), q_ci_s, if_neg (by decide), e, q_ci_s, if_neg (by decide), e3]
      · subst c
        rw [show f_X3_in S A Gm (nI 11) 4 9 = some (0, S, A, Gm) from inM_hi _ _ _ (by decide), q_ci_s, if_pos rfl, if_pos (by decide), e, q_ci_s, if_neg (by decide), e3]
  · have e : f_X3_in S A Gm (nI ty) 4 9 = some (0, S, A, Gm) := by
      by_cases c1 : ty < 4
      · exact inM_lo _ _ _ (nI_lt (b := 4) c1 (by decide))
      · exact inM_hi _ _ _ (nI_lt (a := 9) (by omega) (by omega))
    have n11 : ¬ nI ty = (11 : Int32) := fun z => c (Or.inr ((nI_eq (b := 11) (by omega) (by decide)).mp z))
    have hB : okB K ty p3 := fun z => by omega
    have hA : ¬ okA K ty p2 := fun z => h ⟨z, hB⟩
    have e2 : ty = 10 ∨ ty = 15 := by
      rcases Nat.decEq ty 10 with d | d
      · rcases Nat.decEq ty 15 with d2 | d2
        · exact absurd ⟨fun z => by omega, fun z => by omega, fun z => by omega⟩ hA
        · exact Or.inr d2
      · exact Or.inl d
    rw [e, q_ci_s, if_pos rfl, if_neg n11, rb49_yes h2 hK ht hB, rb70_no hA ht e2]
end RD
theorem r_reader {σ μ : q_S} (h : c_RR σ μ) (p1 p2 p3 : Int32) : ∃ (r : Int32) (σ' μ' : q_S), f_X2_reader σ.1 σ.2.1 σ.2.2 p1 p2 p3 = some (r, σ') ∧ f_X3_reader μ.1 μ.2.1 μ.2.2 p1 p2 p3 = some (r, μ') ∧ c_RR σ' μ' := by
  obtain ⟨N, K, cf, τ, L, hSt, hC⟩ := id h
  obtain ⟨s, a, g⟩ := σ
  obtain ⟨S, A, Gm⟩ := μ
  have h6 : s 6 = nI K := hC.1.2.1
  have h2 : S 2 = nI K := hC.2.1.2.1
  have hK2 := hSt.2.1
  have hK := hSt.2.2.1
  simp only
  rcases pk_ix p1 (n := 16) (by decide) with c | c | ⟨ty, c, rfl⟩
  · refine ⟨-2, _, _, ?_, ?_, h⟩
    · unfold f_X2_reader
      rw [if_pos c]
    · unfold f_X3_reader
      rw [inM_lo _ _ _ c, q_ci_s, if_pos rfl]
  · have b : (15 : Int32) < p1 := Int32.lt_of_lt_of_le (by decide) c
    refine ⟨-2, _, _, ?_, ?_, h⟩
    · unfold f_X2_reader
      by_cases c0 : p1 < 0
      · rw [if_pos c0]
      · rw [if_neg c0, if_pos b]
    · unfold f_X3_reader
      rw [inM_hi _ _ _ b, q_ci_s, if_pos rfl]
  · have b0 : ¬ nI ty < 0 := nI_pos (by omega)
    have b1 : ¬ (15 : Int32) < nI ty := nI_nlt (a := 15) (by omega) (by decide)
    unfold f_X2_reader
    rw [if_neg b0, if_neg b1]
    by_cases hA : okA K ty p2
    · rw [ff_yes h6 hK hK2 c hA, q_ci_s, if_neg (by decide)]
      by_cases hB : okB K ty p3
      · rw [fs_yes h6 hK hK2 c hB, q_ci_s, if_neg (by decide), rM_yes h2 hK c hA hB, h6]
        unfold f_X3_reader_b104
        rw [h2]
        by_cases c5 : K < 50
        · have b5 : nI K < (50 : Int32) := nI_lt (b := 50) c5 (by decide)
          have b6 : ¬ nI K = (50 : Int32) := fun z => by have := (nI_eq (b := 50) (by omega) (by decide)).mp z; omega
          rw [if_pos b5, if_neg b6]
          unfold f_X2_addReader
          simp only [h6, h2, q_ck_in c5 (by decide), nI_clamp (show K < 2 ^ 31 by omega), q_bd_b, q_ci_s, nI_1, us_eq, nI_pred]
          refine ⟨_, _, _, rfl, rfl, N, K + 1, fun i j => if j = K then (if i = 1 then nI ty else if i = 2 then p2 else if i = 3 then p3 else cf i j) else cf i j, τ, L, ?_, ?_⟩
          · refine ⟨hSt.1, by omega, by omega, fun i hi => ?_, fun i hi => ?_, fun i hi => ?_⟩
            · have := hSt.2.2.2.1 i hi
              by_cases e : i = K <;> simpa [e] using this
            · by_cases e : i = K
              · subst e
                refine ⟨ty, c, by simp, fun z => ?_, fun z => ?_, fun z => ?_, fun z => ?_⟩
                · obtain ⟨r, r1, r2⟩ := hA.1 z
                  exact ⟨r, by omega, by simpa using r2⟩
                · obtain ⟨r, r1, r2⟩ := hB z
                  exact ⟨r, by omega, by simpa using r2⟩
                · obtain ⟨r, r1, r2⟩ := hA.2.1 z
                  exact ⟨r, r1, by simpa using r2⟩
                · obtain ⟨r, r1, r2⟩ := hA.2.2 z
                  exact ⟨r, r1, by simpa using r2⟩
              · obtain ⟨t, t1, t2, t3, t4, t5, t6⟩ := hSt.2.2.2.2.1 i (by omega)
                refine ⟨t, t1, by simpa [e] using t2, fun z => ?_, fun z => ?_, fun z => ?_, fun z => ?_⟩
                · obtain ⟨r, r1, r2⟩ := t3 z
                  exact ⟨r, by omega, by simpa [e] using r2⟩
                · obtain ⟨r, r1, r2⟩ := t4 z
                  exact ⟨r, by omega, by simpa [e] using r2⟩
                · obtain ⟨r, r1, r2⟩ := t5 z
                  exact ⟨r, r1, by simpa [e] using r2⟩
                · obtain ⟨r, r1, r2⟩ := t6 z
                  exact ⟨r, r1, by simpa [e] using r2⟩
            · have e0 : (if i = K then (if (4 : Nat) = 1 then nI ty else if (4 : Nat) = 2 then p2 else if (4 : Nat) = 3 then p3 else cf 4 i) else cf 4 i) = cf 4 i := by split <;> rfl
              rcases hSt.2.2.2.2.2 i hi with d | ⟨r, r1, r2⟩
              · exact Or.inl (e0.trans d)
              · exact Or.inr ⟨r, by omega, e0.trans r2⟩
          · obtain ⟨hY, hM, hDY, hDM, hCO⟩ := hC
            have e0 : ∀ i, (if i = K then (if (0 : Nat) = 1 then nI ty else if (0 : Nat) = 2 then p2 else if (0 : Nat) = 3 then p3 else cf 0 i) else cf 0 i) = cf 0 i := fun i => by split <;> rfl
            have e4 : ∀ i, (if i = K then (if (4 : Nat) = 1 then nI ty else if (4 : Nat) = 2 then p2 else if (4 : Nat) = 3 then p3 else cf 4 i) else cf 4 i) = cf 4 i := fun i => by split <;> rfl
            refine ⟨⟨by simpa [us_ne] using hY.1, by simp [us_eq], fun i hi => ?_, fun i hi => ?_, fun i hi => ?_⟩, ⟨by simpa [us_ne] using hM.1, by simp [us_eq], fun i hi => ?_, fun i hi => ?_, fun i hi => ?_⟩, ?_, ?_, ?_⟩
            · have := hY.2.2.1 i hi
              exact (by simpa [ua_ne] using this : _ = cf 0 i).trans (e0 i).symm
            · by_cases e : i = K
              · subst e
                simp [ua_ne, ua_eq, up_eq]
              · have := hY.2.2.2.1 i (by omega)
                simpa [ua_ne, ua_eq, up_ne, e] using this
            · have := hY.2.2.2.2 i hi
              exact (by simpa [ua_ne] using this : _ = cf 4 i).trans (e4 i).symm
            · have := hM.2.2.1 i hi
              exact (by simpa [ua_ne] using this : _ = cf 0 i).trans (e0 i).symm
            · by_cases e : i = K
              · subst e
                simp [ua_ne, ua_eq, up_eq]
              · have := hM.2.2.2.1 i (by omega)
                simpa [ua_ne, ua_eq, up_ne, e] using this
            · have := hM.2.2.2.2 i hi
              exact (by simpa [ua_ne] using this : _ = cf 4 i).trans (e4 i).symm
            · simpa [c_DY, us_ne, ua_ne] using hDY
            · simpa [c_DM, us_ne, ua_ne] using hDM
            · simpa [c_CO, us_ne, ua_ne] using hCO
        · have e5 : K = 50 := by omega
          subst e5
          rw [if_neg (by decide), if_pos (by decide)]
          exact ⟨_, _, _, rfl, rfl, h⟩
      · rw [fs_no h6 hK hK2 c hB, q_ci_s, if_pos rfl, rM_no h2 hK hK2 c (fun z => hB z.2)]
        exact ⟨_, _, _, rfl, rfl, h⟩
    · rw [ff_no h6 hK hK2 c hA, q_ci_s, if_pos rfl, rM_no h2 hK hK2 c (fun z => hA z.1)]
      exact ⟨_, _, _, rfl, rfl, h⟩

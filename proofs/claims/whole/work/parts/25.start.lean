/-! the two stand alike at the start -/
theorem fill_lp {v : Int32} {s : q_s} {g : q_g} : ∀ (w i x : Nat) (a : q_a), i + w = 10 → ∃ a' : q_a, f_J7_fill_53178_lp (x + w + 1) s a g v (nI i) 10 = some (s, a', g) ∧ (∀ t, t ≠ 7 → a' t = a t) ∧ (∀ j, i ≤ j → j < 10 → a' 7 j = v) ∧ (∀ j, j < i → a' 7 j = a 7 j) := by
  intro w
  induction w with
  | zero =>
    intro i x a hi
    have e : i = 10 := by omega
    subst e
    refine ⟨a, ?_, fun _ _ => rfl, fun j h1 h2 => absurd h2 (by omega), fun _ _ => rfl⟩
    show f_J7_fill_53178_lb _ s a g _ _ _ = _
    unfold f_J7_fill_53178_lb
    rw [if_pos (by decide)]
  | succ w ih =>
    intro i x a hi
    obtain ⟨a', x1, x2, x3, x4⟩ := ih (i + 1) x (q_ua a 7 i v) (by omega)
    have b : ¬ (10 : Int32) ≤ nI i := nI_ge (b := 10) (by omega) (by decide)
    refine ⟨a', ?_, fun t ht => (x2 t ht).trans (ua_ne _ _ _ ht), fun j h1 h2 => ?_, fun j hj => ?_⟩
    · show f_J7_fill_53178_lb _ s a g _ _ _ = _
      unfold f_J7_fill_53178_lb
      rw [if_neg b, q_ck_in (show i < 10 by omega) (by decide), nI_clamp (by omega), q_bd_b, nI_1]
      exact x1
    · by_cases c : j = i
      · subst c
        rw [x4 j (by omega), ua_eq, up_eq]
      · exact x3 j (by omega) h2
    · rw [x4 j (by omega), ua_eq, up_ne _ _ (by omega)]
theorem init_lp {s : q_s} {g : q_g} : ∀ (w i x : Nat) (a : q_a), i + w = 10 → ∃ a' : q_a, f_X3_init_lp (x + w + 1) s a g (nI i) = some (q_us s 2 2, q_ua (q_ua a' 3 0 2) 3 1 3, g) ∧ (∀ t, t ≠ 7 → a' t = a t) ∧ (∀ j, i ≤ j → j < 10 → a' 7 j = -1) ∧ (∀ j, j < i → a' 7 j = a 7 j) := by
  intro w
  induction w with
  | zero =>
    intro i x a hi
    have e : i = 10 := by omega
    subst e
    refine ⟨a, ?_, fun _ _ => rfl, fun j h1 h2 => absurd h2 (by omega), fun _ _ => rfl⟩
    show f_X3_init_lb _ s a g _ = _
    unfold f_X3_init_lb
    rw [if_pos (by decide)]
    rfl
  | succ w ih =>
    intro i x a hi
    obtain ⟨a', x1, x2, x3, x4⟩ := ih (i + 1) x (q_ua a 7 i (-1)) (by omega)
    have b : ¬ (10 : Int32) ≤ nI i := nI_ge (b := 10) (by omega) (by decide)
    refine ⟨a', ?_, fun t ht => (x2 t ht).trans (ua_ne _ _ _ ht), fun j h1 h2 => ?_, fun j hj => ?_⟩
    · show f_X3_init_lb _ s a g _ = _
      unfold f_X3_init_lb
      rw [if_neg b, q_ck_in (show i < 10 by omega) (by decide), nI_clamp (by omega), q_bd_b, nI_1]
      exact x1
    · by_cases c : j = i
      · subst c
        rw [x4 j (by omega), ua_eq, up_eq]
      · exact x3 j (by omega) h2
    · rw [x4 j (by omega), ua_eq, up_ne _ _ (by omega)]
theorem addY {K : Nat} (hK : K < 50) {s : q_s} (a : q_a) (g : q_g) (h6 : s 6 = nI K) (x y z : Int32) : f_X2_addReader s a g x y z = some (nI K, q_us s 6 (nI (K + 1)), q_ua (q_ua (q_ua a 2 K x) 3 K y) 4 K z, g) := by
  unfold f_X2_addReader
  simp only [h6, q_ck_in hK (by decide), nI_clamp (show K < 2 ^ 31 by omega), q_bd_b, nI_1]
theorem r_init : ∃ (s : q_s) (a : q_a) (g : q_g) (S : q_s) (A : q_a) (Gm : q_g), f_X2_init 7000 (fun _ => 0) (fun _ _ => 0) (fun _ => 0) = some (s, a, g) ∧ f_X3_init 7000 (fun _ => 0) (fun _ _ => 0) (fun _ => 0) = some (S, A, Gm) ∧ c_RR (s, a, g) (S, A, Gm) := by
  obtain ⟨a', x1, x2, x3, x4⟩ := fill_lp (v := -1) (s := fun _ => 0) (g := fun _ => 0) 10 0 6989 (fun _ _ => 0) rfl
  obtain ⟨A', z1, z2, z3, z4⟩ := init_lp (s := fun _ => 0) (g := fun _ => 0) 10 0 6989 (fun _ _ => 0) rfl
  rw [nI_0] at x1 z1
  refine ⟨q_us (q_us (fun _ => 0) 6 (nI 1)) 6 (nI 2), q_ua (q_ua (q_ua (q_ua (q_ua (q_ua a' 2 0 2) 3 0 0) 4 0 0) 2 1 3) 3 1 0) 4 1 0, fun _ => 0, _, _, _, ?_, z1, 0, 2, fun t j => if t = 1 then (if j = 0 then 2 else 3) else if t = 4 then -1 else 0, fun _ => 0, [], ?_, ?_⟩
  · unfold f_X2_init f_J7_fill_53178
    rw [show f_J7_fill_53178_lp 7000 (fun _ => 0) (fun _ _ => 0) (fun _ => 0) (-1) 0 10 = _ from x1, q_cv_s, addY (K := 0) (by decide) _ _ rfl, q_ci_s, addY (K := 1) (by decide) _ _ (by simp [us_eq]), q_ci_s]
  · refine ⟨by omega, by omega, by omega, fun i hi => absurd hi (by omega), fun i hi => ?_, fun i hi => Or.inl (by simp)⟩
    have h : i = 0 ∨ i = 1 := by omega
    rcases h with rfl | rfl
    · exact ⟨2, by omega, by simp; rfl, fun z => by omega, fun z => by omega, fun z => by omega, fun z => by omega⟩
    · exact ⟨3, by omega, by simp; rfl, fun z => by omega, fun z => by omega, fun z => by omega, fun z => by omega⟩
  · refine ⟨⟨?_, ?_, fun i hi => absurd hi (by omega), fun i hi => ?_, fun i hi => ?_⟩, ⟨?_, ?_, fun i hi => absurd hi (by omega), fun i hi => ?_, fun i hi => ?_⟩, ⟨?_, ?_, ?_, ?_, Nat.le_refl _, ?_, rfl⟩, ⟨?_, ?_, ?_, ?_, Nat.le_refl _, rfl⟩, ⟨?_, ?_, ?_, ?_, fun i => ?_, fun i hi => absurd hi (Nat.not_lt_zero i), Nat.zero_le _, Nat.le_refl _, Nat.le_refl _, Nat.le_refl _⟩⟩
    · simp [us_ne]; rfl
    · simp [us_eq]
    · have h : i = 0 ∨ i = 1 := by omega
      rcases h with rfl | rfl <;> simp [ua_ne, ua_eq, up_eq, up_ne]
    · simp [ua_ne, x3 i (by omega) hi]
    · simp [us_ne]; rfl
    · simp [us_eq]; rfl
    · have h : i = 0 ∨ i = 1 := by omega
      rcases h with rfl | rfl <;> simp [ua_ne, ua_eq, up_eq, up_ne, z2 4 (by decide), z2 5 (by decide)]
    · simp [ua_ne, z3 i (by omega) hi]
    · simp [us_ne]; rfl
    · simp [us_ne]; rfl
    · simp [us_ne]; rfl
    · simp [us_ne]; rfl
    · simp [ua_ne, x2 22 (by decide)]
    · simp [us_ne]; rfl
    · simp [us_ne]; rfl
    · simp [us_ne]; rfl
    · simp [us_ne]; rfl
    · simp [us_ne]
    · simp [us_ne]
    · simp [us_ne]
    · simp [us_ne]
    · simp [ua_ne, x2 5 (by decide), z2 6 (by decide)]
/-! a call in the law: the callee's cells stand first, the others behind them; behind the call it is the other way round -/
section QL
variable {p : Program} {l : Launch} {e : Env} {R : Room} {st : State} {m : MethodId} {args : Array Value} {below : List Frame} {meth : Method} {c : Code} {H : Heap} {locs : List Loc} {cells slots : Nat} {Q : State → Prop}
variable {cc : ByteArray} {pc : Nat} {ls : Array Slot} {rest : List Value} {D : va_G} {A : Nat → Prop} {tys : List (ClassId × FieldType)} {H0 : Heap} {Ts : List Cond} {own : String} {s s1 : q_s} {a a1 : q_a} {g g1 : q_g} {w : q_s → q_a → q_g → va_W} {wr : va_W}
variable {y : MethodName} {bytes : ByteArray} {maxL nL n index : Nat} {ret : Option FieldType} {wsy : List Cond} {rm : Room} {Cn : String} {b : Nat} {As : List Value} {st0 : List Value}
theorem q_lawi {r : Int32} (C : q_C p m c cc st args Ts own D tys) (hml : c.maxLocals = nL) (hM : q_Mi l y wsy rm D tys w (.ref b :: As) s a g r s1 a1 g1) (cw : CallW R st args own Cn index y bytes maxL ret wsy rm 0 0 n) (hI : q_I D A H0 H locs (w s a g ++ wr)) (hA : ∀ q, H0.size ≤ q → A q) (isC isR : List Nat) (i1 : isC.filterMap (fun i => (w s a g ++ wr)[i]?) = w s a g) (i2 : va_nd isC = true) (i3 : isC.map (fun i => (w s a g ++ wr)[i]?) = (w s a g).map some) (i4 : isR.map (fun i => (w s a g ++ wr)[i]?) = wr.map some) (i5 : va_nd isR = true) (i6 : ∀ i ∈ isR, i ∉ isC) {q0 ci : Nat} {qc : vw_C} {fs : List Value} (hc : q_cl4[ci]? = some qc) (hq : qc.1 = Cn) (he : (w s a g)[q0]? = some (b, .inr (ci, fs))) (hn : As.length = n) (hl : ls.size = nL) (hst : st0 = As.reverse ++ .ref b :: rest) (hrest : (rest.map fun v => v.category).sum ≤ 8) (hdg : decode cc pc = .ok (.invokevirtual index, 3)) (hf : cells ≤ R.cells ∧ slots ≤ R.slots)
    (kk : ∀ (H1 : Heap) (locs1 : List Loc), q_I D A H0 H1 locs1 (wr ++ w s1 a1 g1) → W p l e R st m args below meth c H1 locs1 cells slots Q (F0 m (pc + 3) ls (.int r :: rest))) : W p l e R st m args below meth c H locs cells slots Q (F0 m pc ls st0) := by
  subst hq
  have hPc := hI.1.sub (ws' := w s a g) isC i1
  have hDc := hI.2.1.sub (ws' := w s a g) isC i2 i3
  have hFc := va_free (wc := w s a g) hI.2.1 hI.2.2 hA isC i3
  have hpre : PreS st H (q_Pc D tys (.ref b :: As) (w s a g) H.size) (.ref b :: As) := q_pre (A := A) (locs := locs) (H0 := H0) C ⟨hPc, hDc, hI.2.2⟩ (.ref b :: As)
  refine va_calli (va_runV (As := As) (rest := rest) ⟨C.1, C.2.1, hml, C.2.2.1, C.2.2.2.1⟩ (hM H.size) cw ⟨hpre.1, va_recv C.2.2.2.2 hPc hc he, hpre.2⟩ rfl hn hl hst (lv_room hrest) hdg hf) hI.2.2 (fun q _ h => hFc q h) hFc (fun r2 u t H1 locs1 ht hvm hw hB hz1 hk1 hS => ?_)
  obtain ⟨rfl, rfl⟩ := hw
  obtain ⟨hP1, hK1, hD1⟩ := hB
  rw [ht] at hP1
  obtain ⟨hP, hD⟩ := va_join (wr := wr) (w1 := w s1 a1 g1) hI.1 hI.2.1 isC isR i3 i4 i5 i6 hk1 hFc hP1 hD1
  exact kk H1 locs1 ⟨hP, hD, hS⟩
theorem q_lawl {r : Int64} (C : q_C p m c cc st args Ts own D tys) (hml : c.maxLocals = nL) (hM : q_Ml l y wsy rm D tys w (.ref b :: As) s a g r s1 a1 g1) (cw : CallW R st args own Cn index y bytes maxL ret wsy rm 0 0 n) (hI : q_I D A H0 H locs (w s a g ++ wr)) (hA : ∀ q, H0.size ≤ q → A q) (isC isR : List Nat) (i1 : isC.filterMap (fun i => (w s a g ++ wr)[i]?) = w s a g) (i2 : va_nd isC = true) (i3 : isC.map (fun i => (w s a g ++ wr)[i]?) = (w s a g).map some) (i4 : isR.map (fun i => (w s a g ++ wr)[i]?) = wr.map some) (i5 : va_nd isR = true) (i6 : ∀ i ∈ isR, i ∉ isC) {q0 ci : Nat} {qc : vw_C} {fs : List Value} (hc : q_cl4[ci]? = some qc) (hq : qc.1 = Cn) (he : (w s a g)[q0]? = some (b, .inr (ci, fs))) (hn : As.length = n) (hl : ls.size = nL) (hst : st0 = As.reverse ++ .ref b :: rest) (hrest : (rest.map fun v => v.category).sum ≤ 8) (hdg : decode cc pc = .ok (.invokevirtual index, 3)) (hf : cells ≤ R.cells ∧ slots ≤ R.slots)
    (kk : ∀ (H1 : Heap) (locs1 : List Loc), q_I D A H0 H1 locs1 (wr ++ w s1 a1 g1) → W p l e R st m args below meth c H1 locs1 cells slots Q (F0 m (pc + 3) ls (.long r :: rest))) : W p l e R st m args below meth c H locs cells slots Q (F0 m pc ls st0) := by
  subst hq
  have hPc := hI.1.sub (ws' := w s a g) isC i1
  have hDc := hI.2.1.sub (ws' := w s a g) isC i2 i3
  have hFc := va_free (wc := w s a g) hI.2.1 hI.2.2 hA isC i3
  have hpre : PreS st H (q_Pc D tys (.ref b :: As) (w s a g) H.size) (.ref b :: As) := q_pre (A := A) (locs := locs) (H0 := H0) C ⟨hPc, hDc, hI.2.2⟩ (.ref b :: As)
  refine va_calll (va_runV (As := As) (rest := rest) ⟨C.1, C.2.1, hml, C.2.2.1, C.2.2.2.1⟩ (hM H.size) cw ⟨hpre.1, va_recv C.2.2.2.2 hPc hc he, hpre.2⟩ rfl hn hl hst (lv_room hrest) hdg hf) hI.2.2 (fun q _ h => hFc q h) hFc (fun r2 u t H1 locs1 ht hvm hw hB hz1 hk1 hS => ?_)
  obtain ⟨rfl, rfl⟩ := hw
  obtain ⟨hP1, hK1, hD1⟩ := hB
  rw [ht] at hP1
  obtain ⟨hP, hD⟩ := va_join (wr := wr) (w1 := w s1 a1 g1) hI.1 hI.2.1 isC isR i3 i4 i5 i6 hk1 hFc hP1 hD1
  exact kk H1 locs1 ⟨hP, hD, hS⟩
end QL

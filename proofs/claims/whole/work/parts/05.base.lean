/-! Worlds and rows: a method is walked beside a partial function of what its cells hold (none: an index outside its row, a divisor 0, or too little fuel). s: the int fields by number, a: the rows of ints by the number of their field, g: the row of longs. -/
abbrev q_s : Type := Nat → Int32
abbrev q_a : Type := Nat → Nat → Int32
abbrev q_g : Type := Nat → Int64
abbrev q_S : Type := q_s × q_a × q_g
def q_us (s : q_s) (k : Nat) (v : Int32) : q_s := fun j => if j = k then v else s j
def q_ua (a : q_a) (k i : Nat) (v : Int32) : q_a := fun j => if j = k then upd (a k) i v else a j
def q_ck {α : Type} (i : Int32) (n : Nat) (x : Option α) : Option α := if i < 0 ∨ n ≤ i.toNatClampNeg then none else x
def q_nz {α : Type} (y : Int64) (x : Option α) : Option α := if y = 0 then none else x
def q_bd {α β : Type} (x : α) (f : α → Option β) : Option β := f x
def q_ci {β : Type} (x : Option (Int32 × q_S)) (f : Int32 → q_s → q_a → q_g → Option β) : Option β := match x with
  | none => none
  | some (r, s, a, g) => f r s a g
def q_cl {β : Type} (x : Option (Int64 × q_S)) (f : Int64 → q_s → q_a → q_g → Option β) : Option β := match x with
  | none => none
  | some (r, s, a, g) => f r s a g
def q_cv {β : Type} (x : Option q_S) (f : q_s → q_a → q_g → Option β) : Option β := match x with
  | none => none
  | some (s, a, g) => f s a g
theorem q_ck_some {α : Type} {i : Int32} {n : Nat} {x : Option α} {y : α} (h : q_ck i n x = some y) : vp_in i n ∧ x = some y := by
  unfold q_ck at h
  split at h
  · cases h
  · next c => exact ⟨c, h⟩
theorem q_nz_some {α : Type} {z : Int64} {x : Option α} {y : α} (h : q_nz z x = some y) : ¬ z = 0 ∧ x = some y := by
  unfold q_nz at h
  split at h
  · cases h
  · next c => exact ⟨c, h⟩
theorem q_bd_some {α β : Type} {x : α} {f : α → Option β} {y : β} (h : q_bd x f = some y) : ∃ z, z = x ∧ f z = some y := ⟨x, rfl, h⟩
theorem q_ci_some {β : Type} {x : Option (Int32 × q_S)} {f : Int32 → q_s → q_a → q_g → Option β} {y : β} (h : q_ci x f = some y) : ∃ r s a g, x = some (r, s, a, g) ∧ f r s a g = some y := by
  unfold q_ci at h
  split at h
  · cases h
  · next r s a g => exact ⟨r, s, a, g, rfl, h⟩
theorem q_cl_some {β : Type} {x : Option (Int64 × q_S)} {f : Int64 → q_s → q_a → q_g → Option β} {y : β} (h : q_cl x f = some y) : ∃ r s a g, x = some (r, s, a, g) ∧ f r s a g = some y := by
  unfold q_cl at h
  split at h
  · cases h
  · next r s a g => exact ⟨r, s, a, g, rfl, h⟩
theorem q_cv_some {β : Type} {x : Option q_S} {f : q_s → q_a → q_g → Option β} {y : β} (h : q_cv x f = some y) : ∃ s a g, x = some (s, a, g) ∧ f s a g = some y := by
  unfold q_cv at h
  split at h
  · cases h
  · next s a g => exact ⟨s, a, g, rfl, h⟩
theorem q_if_t {c : Prop} {d : Decidable c} {β : Type} {A B : Option β} {y : Option β} (h : @ite _ c d A B = y) (hc : c) : A = y := by rw [if_pos hc] at h; exact h
theorem q_if_f {c : Prop} {d : Decidable c} {β : Type} {A B : Option β} {y : Option β} (h : @ite _ c d A B = y) (hc : ¬ c) : B = y := by rw [if_neg hc] at h; exact h
theorem q_some2 {α β : Type} {a a' : α} {b b' : β} (h : some (a, b) = some (a', b')) : a = a' ∧ b = b' := by cases h; exact ⟨rfl, rfl⟩
theorem q_some3 {α β γ : Type} {a a' : α} {b b' : β} {c c' : γ} (h : some (a, b, c) = some (a', b', c')) : a = a' ∧ b = b' ∧ c = c' := by cases h; exact ⟨rfl, rfl, rfl⟩
theorem q_some4 {α β γ δ : Type} {a a' : α} {b b' : β} {c c' : γ} {d d' : δ} (h : some (a, b, c, d) = some (a', b', c', d')) : a = a' ∧ b = b' ∧ c = c' ∧ d = d' := by cases h; exact ⟨rfl, rfl, rfl, rfl⟩
abbrev q_cl4 : List vw_C := [(RX0, TX0, 4), (RX1, TX1, 5), (RX2, TX2, 16), (RX3, TX3, 36)]
/-- the cells of a yard: the object, its pile, its marks, their rows -/
def q_wY (h : Nat) (ad : Nat → Nat) (ca : Nat → ClassId) (s : q_s) (a : q_a) (g : q_g) : va_W := [(h, .inr (2, [.ref (ad 0), .int (s 1), .ref (ad 2), .ref (ad 3), .ref (ad 4), .ref (ad 5), .int (s 6), .ref (ad 7), .ref (ad 8), .ref (ad 9), .ref (ad 10), .int (s 11), .int (s 12), .int (s 13), .int (s 14), .int (s 15)])), (ad 9, .inr (1, [.ref (ad 20), .ref (ad 21), .ref (ad 22), .int (s 23), .int (s 24)])), (ad 10, .inr (0, [.ref (ad 30), .ref (ad 31), .ref (ad 32), .int (s 33)])), (ad 0, .inl (ca 0, 200, .inl (a 0))), (ad 2, .inl (ca 2, 50, .inl (a 2))), (ad 3, .inl (ca 3, 50, .inl (a 3))), (ad 4, .inl (ca 4, 50, .inl (a 4))), (ad 5, .inl (ca 5, 50, .inl (a 5))), (ad 7, .inl (ca 7, 10, .inl (a 7))), (ad 8, .inl (ca 8, 151, .inl (a 8))), (ad 20, .inl (ca 20, 3001, .inr (.inl g))), (ad 21, .inl (ca 21, 3001, .inl (a 21))), (ad 22, .inl (ca 22, 3001, .inl (a 22))), (ad 30, .inl (ca 30, 3000, .inl (a 30))), (ad 31, .inl (ca 31, 3000, .inl (a 31))), (ad 32, .inl (ca 32, 3000, .inl (a 32)))]
/-- the cells of the reference -/
def q_wM (h : Nat) (ad : Nat → Nat) (ca : Nat → ClassId) (s : q_s) (a : q_a) (g : q_g) : va_W := [(h, .inr (3, [.ref (ad 0), .int (s 1), .int (s 2), .ref (ad 3), .ref (ad 4), .ref (ad 5), .ref (ad 6), .ref (ad 7), .ref (ad 8), .ref (ad 9), .ref (ad 10), .int (s 11), .int (s 12), .int (s 13), .ref (ad 14), .ref (ad 15), .ref (ad 16), .int (s 17), .ref (ad 18), .ref (ad 19), .ref (ad 20), .ref (ad 21), .ref (ad 22), .ref (ad 23), .ref (ad 24), .ref (ad 25), .ref (ad 26), .ref (ad 27), .ref (ad 28), .int (s 29), .int (s 30), .int (s 31), .int (s 32), .int (s 33), .int (s 34), .int (s 35)])), (ad 0, .inl (ca 0, 200, .inl (a 0))), (ad 3, .inl (ca 3, 50, .inl (a 3))), (ad 4, .inl (ca 4, 50, .inl (a 4))), (ad 5, .inl (ca 5, 50, .inl (a 5))), (ad 6, .inl (ca 6, 50, .inl (a 6))), (ad 7, .inl (ca 7, 10, .inl (a 7))), (ad 8, .inl (ca 8, 3001, .inr (.inl g))), (ad 9, .inl (ca 9, 3001, .inl (a 9))), (ad 10, .inl (ca 10, 3001, .inl (a 10))), (ad 14, .inl (ca 14, 3001, .inl (a 14))), (ad 15, .inl (ca 15, 3001, .inl (a 15))), (ad 16, .inl (ca 16, 3001, .inl (a 16))), (ad 18, .inl (ca 18, 150, .inl (a 18))), (ad 19, .inl (ca 19, 150, .inl (a 19))), (ad 20, .inl (ca 20, 150, .inl (a 20))), (ad 21, .inl (ca 21, 150, .inl (a 21))), (ad 22, .inl (ca 22, 150, .inl (a 22))), (ad 23, .inl (ca 23, 150, .inl (a 23))), (ad 24, .inl (ca 24, 150, .inl (a 24))), (ad 25, .inl (ca 25, 150, .inl (a 25))), (ad 26, .inl (ca 26, 150, .inl (a 26))), (ad 27, .inl (ca 27, 150, .inl (a 27))), (ad 28, .inl (ca 28, 150, .inl (a 28)))]
def q_tY (ca : Nat → ClassId) : List (ClassId × FieldType) := [(ca 0, .byte), (ca 2, .int), (ca 3, .int), (ca 4, .int), (ca 5, .int), (ca 7, .int), (ca 8, .boolean), (ca 20, .long), (ca 21, .int), (ca 22, .int), (ca 30, .int), (ca 31, .int), (ca 32, .int)]
def q_tM (ca : Nat → ClassId) : List (ClassId × FieldType) := [(ca 0, .int), (ca 3, .int), (ca 4, .int), (ca 5, .int), (ca 6, .int), (ca 7, .int), (ca 8, .long), (ca 9, .int), (ca 10, .int), (ca 14, .int), (ca 15, .int), (ca 16, .int), (ca 18, .int), (ca 19, .int), (ca 20, .int), (ca 21, .int), (ca 22, .boolean), (ca 23, .int), (ca 24, .int), (ca 25, .int), (ca 26, .int), (ca 27, .int), (ca 28, .int)]
/-- what stays through a method: the machine, the code, the class, the words, the classes -/
abbrev q_C (p : Program) (m : MethodId) (c : Code) (cc : ByteArray) (st : State) (args : Array Value) (Ts : List Cond) (own : String) (D : va_G) (tys : List (ClassId × FieldType)) : Prop :=
  p.tables.exec = Jvm.exec ∧ c.code = cc ∧ st.vm.findClass own = some m.cls ∧ (∀ w ∈ Ts, w.before args st = true) ∧ va_K D q_cl4 tys st
/-- the world now -/
abbrev q_I (D : va_G) (A : Nat → Prop) (H0 H : Heap) (locs : List Loc) (ws : va_W) : Prop := va_P D q_cl4 ws H ∧ va_D A ws ∧ va_S A H0 H locs
/-- contracts: from the cells s, a, g the method answers r and leaves s1, a1, g1 -/
abbrev q_B (D : va_G) (tys : List (ClassId × FieldType)) (w : q_s → q_a → q_g → va_W) (A : Nat → Prop) (u : q_S) (t : State) : Prop := va_P D q_cl4 (w u.1 u.2.1 u.2.2) t.heap ∧ va_K D q_cl4 tys t ∧ va_D A (w u.1 u.2.1 u.2.2)
abbrev q_Pc (D : va_G) (tys : List (ClassId × FieldType)) (av : List Value) (ws : va_W) (sz : Nat) : Array Value → State → Prop := va_Pc av (fun U => U.heap.size = sz ∧ va_P D q_cl4 ws U.heap ∧ va_K D q_cl4 tys U ∧ va_D (fun _ => True) ws)
def q_Mi (l : Launch) (y : MethodName) (ws : List Cond) (rm : Room) (D : va_G) (tys : List (ClassId × FieldType)) (w : q_s → q_a → q_g → va_W) (av : List Value) (s : q_s) (a : q_a) (g : q_g) (r : Int32) (s1 : q_s) (a1 : q_a) (g1 : q_g) : Prop :=
  ∀ sz : Nat, Met l y ws rm (q_Pc D tys av (w s a g) sz) (va_Qi (fun (r2 : Int32) (u : q_S) => r2 = r ∧ u = (s1, a1, g1)) (q_B D tys w (va_A (w s a g) sz)) (va_A (w s a g) sz)) 0 0 (va_A (w s a g) sz)
def q_Ml (l : Launch) (y : MethodName) (ws : List Cond) (rm : Room) (D : va_G) (tys : List (ClassId × FieldType)) (w : q_s → q_a → q_g → va_W) (av : List Value) (s : q_s) (a : q_a) (g : q_g) (r : Int64) (s1 : q_s) (a1 : q_a) (g1 : q_g) : Prop :=
  ∀ sz : Nat, Met l y ws rm (q_Pc D tys av (w s a g) sz) (va_Ql (fun (r2 : Int64) (u : q_S) => r2 = r ∧ u = (s1, a1, g1)) (q_B D tys w (va_A (w s a g) sz)) (va_A (w s a g) sz)) 0 0 (va_A (w s a g) sz)
def q_Mv (l : Launch) (y : MethodName) (ws : List Cond) (rm : Room) (D : va_G) (tys : List (ClassId × FieldType)) (w : q_s → q_a → q_g → va_W) (av : List Value) (s : q_s) (a : q_a) (g : q_g) (s1 : q_s) (a1 : q_a) (g1 : q_g) : Prop :=
  ∀ sz : Nat, Met l y ws rm (q_Pc D tys av (w s a g) sz) (va_Qv (fun u : q_S => u = (s1, a1, g1)) (q_B D tys w (va_A (w s a g) sz)) (va_A (w s a g) sz)) 0 0 (va_A (w s a g) sz)
section QW
variable {p : Program} {l : Launch} {e : Env} {R : Room} {st : State} {m : MethodId} {args : Array Value} {below : List Frame} {meth : Method} {c : Code} {H : Heap} {locs : List Loc} {cells slots : Nat} {Q : State → Prop}
variable {cc : ByteArray} {pc : Nat} {ls : Array Slot} {rest : List Value} {D : va_G} {A : Nat → Prop} {tys : List (ClassId × FieldType)} {H0 : Heap} {Ts : List Cond} {own : String} {h : Nat} {ad : Nat → Nat} {ca : Nat → ClassId} {s s1 : q_s} {a a1 : q_a} {g g1 : q_g} {w : q_s → q_a → q_g → va_W}
theorem q_ent (ws : va_W) : va_S A H0 H0 [] := va_S.rf
theorem q_vret (C : q_C p m c cc st args Ts own D tys) (hr : meth.sig.returnType = none) (hlocks : meth.locks = false) (I : q_I D A st.heap H locs (w s a g)) (hdg : decode cc pc = .ok (.return_, 1)) : W p l e R st m args below meth c H locs 0 0 (MQ below (va_Qv (fun u : q_S => u = (s, a, g)) (q_B D tys w A) A) args st 0 0 A) (F0 m pc ls []) :=
  W.vret C.1 C.2.1 hr (fun t ht hW => ⟨⟨(s, a, g), rfl, rfl, by rw [ht]; exact I.1, va_K.moved hW.alike C.2.2.2.2, I.2.1⟩, I.2.2.F ht⟩) I.2.2.2.2 hdg hlocks
theorem q_iret {r : Int32} (C : q_C p m c cc st args Ts own D tys) (hr : meth.sig.returnType = some .int) (hlocks : meth.locks = false) (I : q_I D A st.heap H locs (w s a g)) (hdg : decode cc pc = .ok (.ireturn, 1)) : W p l e R st m args below meth c H locs 0 0 (MQ below (va_Qi (fun (r2 : Int32) (u : q_S) => r2 = r ∧ u = (s, a, g)) (q_B D tys w A) A) args st 0 0 A) (F0 m pc ls [.int r]) :=
  W.iret C.1 C.2.1 hr (fun t ht hW => ⟨⟨r, (s, a, g), rfl, ⟨rfl, rfl⟩, by rw [ht]; exact I.1, va_K.moved hW.alike C.2.2.2.2, I.2.1⟩, I.2.2.F ht⟩) I.2.2.2.2 hdg hlocks
theorem q_zret {r : Int32} (C : q_C p m c cc st args Ts own D tys) (hr : meth.sig.returnType = some .boolean) (hn : narrow .boolean (.int r) = .int r) (hlocks : meth.locks = false) (I : q_I D A st.heap H locs (w s a g)) (hdg : decode cc pc = .ok (.ireturn, 1)) : W p l e R st m args below meth c H locs 0 0 (MQ below (va_Qi (fun (r2 : Int32) (u : q_S) => r2 = r ∧ u = (s, a, g)) (q_B D tys w A) A) args st 0 0 A) (F0 m pc ls [.int r]) :=
  W.zret C.1 C.2.1 hr hn (fun t ht hW => ⟨⟨r, (s, a, g), rfl, ⟨rfl, rfl⟩, by rw [ht]; exact I.1, va_K.moved hW.alike C.2.2.2.2, I.2.1⟩, I.2.2.F ht⟩) I.2.2.2.2 hdg hlocks
theorem q_lret {r : Int64} (C : q_C p m c cc st args Ts own D tys) (hr : meth.sig.returnType = some .long) (hlocks : meth.locks = false) (I : q_I D A st.heap H locs (w s a g)) (hdg : decode cc pc = .ok (.lreturn, 1)) : W p l e R st m args below meth c H locs 0 0 (MQ below (va_Ql (fun (r2 : Int64) (u : q_S) => r2 = r ∧ u = (s, a, g)) (q_B D tys w A) A) args st 0 0 A) (F0 m pc ls [.long r]) :=
  W.lret C.1 C.2.1 hr (fun t ht hW => ⟨⟨r, (s, a, g), rfl, ⟨rfl, rfl⟩, by rw [ht]; exact I.1, va_K.moved hW.alike C.2.2.2.2, I.2.1⟩, I.2.2.F ht⟩) I.2.2.2.2 hdg hlocks
/-- behind a call whose cells are all the world -/
theorem q_back (hI : q_I D A H0 H locs (w s a g)) (hA : ∀ q, H0.size ≤ q → A q) : ∀ q, va_A (w s a g) H.size q → A q := by
  intro q hq
  rcases hq with ⟨k, x, hq⟩ | hq
  · exact hI.2.1.2 k _ hq
  · exact hA q (Nat.le_trans hI.2.2.1 hq)
variable {y : MethodName} {bytes : ByteArray} {maxL nL n index : Nat} {ret : Option FieldType} {wsy : List Cond} {rm : Room} {Cn : String} {b : Nat} {As : List Value} {st0 : List Value}
theorem q_pre (C : q_C p m c cc st args Ts own D tys) (hI : q_I D A H0 H locs (w s a g)) (av : List Value) : PreS st H (q_Pc D tys av (w s a g) H.size) av :=
  ⟨fun a U g mk q => by obtain ⟨q0, q1, qP, qK, qD⟩ := q; exact ⟨q0, q1, qP, va_K.moved (u := U) (U := U.calling g mk a) (Vm.Alike.refl U.vm) qK, qD⟩, fun U hU hW => ⟨rfl, by rw [hU], by rw [hU]; exact hI.1, va_K.moved hW.alike C.2.2.2.2, hI.2.1.weaken (fun _ _ _ _ => trivial)⟩⟩

theorem q_callVi {r : Int32} (C : q_C p m c cc st args Ts own D tys) (hml : c.maxLocals = nL) (hM : q_Mi l y wsy rm D tys w (.ref b :: As) s a g r s1 a1 g1) (cw : CallW R st args own Cn index y bytes maxL ret wsy rm 0 0 n) (hI : q_I D A H0 H locs (w s a g)) (hA : ∀ q, H0.size ≤ q → A q) {q0 ci : Nat} {qc : vw_C} {fs : List Value} (hc : q_cl4[ci]? = some qc) (hq : qc.1 = Cn) (he : (w s a g)[q0]? = some (b, .inr (ci, fs))) (hn : As.length = n) (hl : ls.size = nL) (hst : st0 = As.reverse ++ .ref b :: rest) (hrest : (rest.map fun v => v.category).sum ≤ 8) (hdg : decode cc pc = .ok (.invokevirtual index, 3)) (hf : cells ≤ R.cells ∧ slots ≤ R.slots)
    (kk : ∀ (H1 : Heap) (locs1 : List Loc), q_I D A H0 H1 locs1 (w s1 a1 g1) → W p l e R st m args below meth c H1 locs1 cells slots Q (F0 m (pc + 3) ls (.int r :: rest))) : W p l e R st m args below meth c H locs cells slots Q (F0 m pc ls st0) := by
  subst hq
  have hFc := q_back hI hA
  refine va_calli (va_runV (As := As) (rest := rest) ⟨C.1, C.2.1, hml, C.2.2.1, C.2.2.2.1⟩ (hM H.size) cw ⟨(q_pre C hI (.ref b :: As)).1, va_recv C.2.2.2.2 hI.1 hc he, (q_pre C hI (.ref b :: As)).2⟩ rfl hn hl hst (lv_room hrest) hdg hf) hI.2.2 (fun q _ h => hFc q h) hFc (fun r2 u t H1 locs1 ht hvm hw hB hz1 hk1 hS => ?_)
  obtain ⟨rfl, rfl⟩ := hw
  obtain ⟨hP1, hK1, hD1⟩ := hB
  rw [ht] at hP1
  exact kk H1 locs1 ⟨hP1, hD1.weaken (fun _ q _ hq => hFc q.1 hq), hS⟩
theorem q_callSi {r : Int32} (C : q_C p m c cc st args Ts own D tys) (hml : c.maxLocals = nL) (hM : q_Mi l y wsy rm D tys w As s a g r s1 a1 g1) (cw : CallB R st args own index y bytes maxL ret wsy rm 0 0 n ∧ (Cond.static y).before args st = true) (hI : q_I D A H0 H locs (w s a g)) (hA : ∀ q, H0.size ≤ q → A q) (hn : As.length = n) (hl : ls.size = nL) (hst : st0 = As.reverse ++ rest) (hrest : (rest.map fun v => v.category).sum ≤ 8) (hdg : decode cc pc = .ok (.invokestatic index, 3)) (hf : cells ≤ R.cells ∧ slots ≤ R.slots)
    (kk : ∀ (H1 : Heap) (locs1 : List Loc), q_I D A H0 H1 locs1 (w s1 a1 g1) → W p l e R st m args below meth c H1 locs1 cells slots Q (F0 m (pc + 3) ls (.int r :: rest))) : W p l e R st m args below meth c H locs cells slots Q (F0 m pc ls st0) := by
  have hFc := q_back hI hA
  refine va_calli (va_runS (As := As) (rest := rest) ⟨C.1, C.2.1, hml, C.2.2.1, C.2.2.2.1⟩ (hM H.size) cw (q_pre C hI As) rfl hn hl hst (lv_room hrest) hdg hf) hI.2.2 (fun q _ h => hFc q h) hFc (fun r2 u t H1 locs1 ht hvm hw hB hz1 hk1 hS => ?_)
  obtain ⟨rfl, rfl⟩ := hw
  obtain ⟨hP1, hK1, hD1⟩ := hB
  rw [ht] at hP1
  exact kk H1 locs1 ⟨hP1, hD1.weaken (fun _ q _ hq => hFc q.1 hq), hS⟩
theorem q_callVl {r : Int64} (C : q_C p m c cc st args Ts own D tys) (hml : c.maxLocals = nL) (hM : q_Ml l y wsy rm D tys w (.ref b :: As) s a g r s1 a1 g1) (cw : CallW R st args own Cn index y bytes maxL ret wsy rm 0 0 n) (hI : q_I D A H0 H locs (w s a g)) (hA : ∀ q, H0.size ≤ q → A q) {q0 ci : Nat} {qc : vw_C} {fs : List Value} (hc : q_cl4[ci]? = some qc) (hq : qc.1 = Cn) (he : (w s a g)[q0]? = some (b, .inr (ci, fs))) (hn : As.length = n) (hl : ls.size = nL) (hst : st0 = As.reverse ++ .ref b :: rest) (hrest : (rest.map fun v => v.category).sum ≤ 8) (hdg : decode cc pc = .ok (.invokevirtual index, 3)) (hf : cells ≤ R.cells ∧ slots ≤ R.slots)
    (kk : ∀ (H1 : Heap) (locs1 : List Loc), q_I D A H0 H1 locs1 (w s1 a1 g1) → W p l e R st m args below meth c H1 locs1 cells slots Q (F0 m (pc + 3) ls (.long r :: rest))) : W p l e R st m args below meth c H locs cells slots Q (F0 m pc ls st0) := by
  subst hq
  have hFc := q_back hI hA
  refine va_calll (va_runV (As := As) (rest := rest) ⟨C.1, C.2.1, hml, C.2.2.1, C.2.2.2.1⟩ (hM H.size) cw ⟨(q_pre C hI (.ref b :: As)).1, va_recv C.2.2.2.2 hI.1 hc he, (q_pre C hI (.ref b :: As)).2⟩ rfl hn hl hst (lv_room hrest) hdg hf) hI.2.2 (fun q _ h => hFc q h) hFc (fun r2 u t H1 locs1 ht hvm hw hB hz1 hk1 hS => ?_)
  obtain ⟨rfl, rfl⟩ := hw
  obtain ⟨hP1, hK1, hD1⟩ := hB
  rw [ht] at hP1
  exact kk H1 locs1 ⟨hP1, hD1.weaken (fun _ q _ hq => hFc q.1 hq), hS⟩
theorem q_callSl {r : Int64} (C : q_C p m c cc st args Ts own D tys) (hml : c.maxLocals = nL) (hM : q_Ml l y wsy rm D tys w As s a g r s1 a1 g1) (cw : CallB R st args own index y bytes maxL ret wsy rm 0 0 n ∧ (Cond.static y).before args st = true) (hI : q_I D A H0 H locs (w s a g)) (hA : ∀ q, H0.size ≤ q → A q) (hn : As.length = n) (hl : ls.size = nL) (hst : st0 = As.reverse ++ rest) (hrest : (rest.map fun v => v.category).sum ≤ 8) (hdg : decode cc pc = .ok (.invokestatic index, 3)) (hf : cells ≤ R.cells ∧ slots ≤ R.slots)
    (kk : ∀ (H1 : Heap) (locs1 : List Loc), q_I D A H0 H1 locs1 (w s1 a1 g1) → W p l e R st m args below meth c H1 locs1 cells slots Q (F0 m (pc + 3) ls (.long r :: rest))) : W p l e R st m args below meth c H locs cells slots Q (F0 m pc ls st0) := by
  have hFc := q_back hI hA
  refine va_calll (va_runS (As := As) (rest := rest) ⟨C.1, C.2.1, hml, C.2.2.1, C.2.2.2.1⟩ (hM H.size) cw (q_pre C hI As) rfl hn hl hst (lv_room hrest) hdg hf) hI.2.2 (fun q _ h => hFc q h) hFc (fun r2 u t H1 locs1 ht hvm hw hB hz1 hk1 hS => ?_)
  obtain ⟨rfl, rfl⟩ := hw
  obtain ⟨hP1, hK1, hD1⟩ := hB
  rw [ht] at hP1
  exact kk H1 locs1 ⟨hP1, hD1.weaken (fun _ q _ hq => hFc q.1 hq), hS⟩
theorem q_callVv (C : q_C p m c cc st args Ts own D tys) (hml : c.maxLocals = nL) (hM : q_Mv l y wsy rm D tys w (.ref b :: As) s a g s1 a1 g1) (cw : CallW R st args own Cn index y bytes maxL ret wsy rm 0 0 n) (hI : q_I D A H0 H locs (w s a g)) (hA : ∀ q, H0.size ≤ q → A q) {q0 ci : Nat} {qc : vw_C} {fs : List Value} (hc : q_cl4[ci]? = some qc) (hq : qc.1 = Cn) (he : (w s a g)[q0]? = some (b, .inr (ci, fs))) (hn : As.length = n) (hl : ls.size = nL) (hst : st0 = As.reverse ++ .ref b :: rest) (hrest : (rest.map fun v => v.category).sum ≤ 8) (hdg : decode cc pc = .ok (.invokevirtual index, 3)) (hf : cells ≤ R.cells ∧ slots ≤ R.slots)
    (kk : ∀ (H1 : Heap) (locs1 : List Loc), q_I D A H0 H1 locs1 (w s1 a1 g1) → W p l e R st m args below meth c H1 locs1 cells slots Q (F0 m (pc + 3) ls (rest))) : W p l e R st m args below meth c H locs cells slots Q (F0 m pc ls st0) := by
  subst hq
  have hFc := q_back hI hA
  refine va_callv (va_runV (As := As) (rest := rest) ⟨C.1, C.2.1, hml, C.2.2.1, C.2.2.2.1⟩ (hM H.size) cw ⟨(q_pre C hI (.ref b :: As)).1, va_recv C.2.2.2.2 hI.1 hc he, (q_pre C hI (.ref b :: As)).2⟩ rfl hn hl hst (lv_room hrest) hdg hf) hI.2.2 (fun q _ h => hFc q h) hFc (fun u t H1 locs1 ht hvm hw hB hz1 hk1 hS => ?_)
  subst hw
  obtain ⟨hP1, hK1, hD1⟩ := hB
  rw [ht] at hP1
  exact kk H1 locs1 ⟨hP1, hD1.weaken (fun _ q _ hq => hFc q.1 hq), hS⟩
theorem q_callSv (C : q_C p m c cc st args Ts own D tys) (hml : c.maxLocals = nL) (hM : q_Mv l y wsy rm D tys w As s a g s1 a1 g1) (cw : CallB R st args own index y bytes maxL ret wsy rm 0 0 n ∧ (Cond.static y).before args st = true) (hI : q_I D A H0 H locs (w s a g)) (hA : ∀ q, H0.size ≤ q → A q) (hn : As.length = n) (hl : ls.size = nL) (hst : st0 = As.reverse ++ rest) (hrest : (rest.map fun v => v.category).sum ≤ 8) (hdg : decode cc pc = .ok (.invokestatic index, 3)) (hf : cells ≤ R.cells ∧ slots ≤ R.slots)
    (kk : ∀ (H1 : Heap) (locs1 : List Loc), q_I D A H0 H1 locs1 (w s1 a1 g1) → W p l e R st m args below meth c H1 locs1 cells slots Q (F0 m (pc + 3) ls (rest))) : W p l e R st m args below meth c H locs cells slots Q (F0 m pc ls st0) := by
  have hFc := q_back hI hA
  refine va_callv (va_runS (As := As) (rest := rest) ⟨C.1, C.2.1, hml, C.2.2.1, C.2.2.2.1⟩ (hM H.size) cw (q_pre C hI As) rfl hn hl hst (lv_room hrest) hdg hf) hI.2.2 (fun q _ h => hFc q h) hFc (fun u t H1 locs1 ht hvm hw hB hz1 hk1 hS => ?_)
  subst hw
  obtain ⟨hP1, hK1, hD1⟩ := hB
  rw [ht] at hP1
  exact kk H1 locs1 ⟨hP1, hD1.weaken (fun _ q _ hq => hFc q.1 hq), hS⟩
theorem q_zn {r : Int32} (h : r = 0 ∨ r = 1) : narrow .boolean (.int r) = .int r := by
  rcases h with rfl | rfl <;> rfl
theorem q_out {x : Int32} {lo hi : Int} (h : ∀ k : Int, lo ≤ k → k ≤ hi → ¬ x = Int32.ofInt k) : x.toInt < lo ∨ hi < x.toInt := by
  rcases Int.lt_or_le x.toInt lo with h1 | h1
  · exact Or.inl h1
  · rcases Int.lt_or_le hi x.toInt with h2 | h2
    · exact Or.inr h2
    · exact absurd (Int32.ofInt_toInt x).symm (h x.toInt h1 h2)
theorem q_tabD (hexec : p.tables.exec = Jvm.exec) (hb : c.code = cc) {dflt lo hi : Int} {offs : Array Int} {len : Nat} {x : Int32} {tgt : Nat} (hdg : decode cc pc = .ok (.tableswitch dflt lo hi offs, len)) (h : (x.toInt < lo ∨ hi < x.toInt) ∨ (¬ x.toInt < lo ∧ ¬ hi < x.toInt ∧ offs[(x.toInt - lo).toNat]? = some dflt)) (ht : (pc : Int) + dflt = (tgt : Int))
    (k : W p l e R st m args below meth c H locs cells slots Q (F0 m tgt ls rest)) : W p l e R st m args below meth c H locs cells slots Q (F0 m pc ls (.int x :: rest)) := by
  rcases h with h | ⟨h1, h2, h3⟩
  · exact lv_tableOut hexec hb hdg h ht k
  · exact lv_tableIn hexec hb hdg h1 h2 h3 ht k
theorem q_entI {r : Int32} {ws' : List Cond} {av : List Value} (hy : plainName y.cls = true) (hw : wsy = Cond.code y cc maxL ret :: ws') (hn : (lg_sl av).length ≤ maxL)
    (body : ∀ (p : Program) (e : Env) (st : State) (m : MethodId) (args : Array Value) (below : List Frame) (meth : Method) (c : Code) (A : Nat → Prop) (ls : Array Slot), q_C p m c cc st args wsy y.cls D tys → meth.sig.returnType = ret → meth.locks = false → c.maxLocals = maxL → (∀ q : Nat, st.heap.size ≤ q → A q) → q_I D A st.heap st.heap [] (w s a g) → lv_has ls maxL (lv_args 0 av) →
      W p l e rm st m args below meth c st.heap [] 0 0 (MQ below (va_Qi (fun (r2 : Int32) (u : q_S) => r2 = r ∧ u = (s1, a1, g1)) (q_B D tys w A) A) args st 0 0 A) (F0 m 0 ls [])) : q_Mi l y wsy rm D tys w av s a g r s1 a1 g1 := by
  intro sz
  refine Met.ofW (cc := cc) (maxL := maxL) (ret := ret) hy hw ?_
  intro p e st m args below meth c s₁ B hml hv
  obtain ⟨ha, hsz, hP, hK, hD0⟩ := hv
  subst hsz
  have hD := hD0.self (sz := st.heap.size)
  generalize hAe : va_A (w s a g) st.heap.size = A at hD ⊢
  have hA : ∀ q : Nat, st.heap.size ≤ q → A q := fun q h => by rw [← hAe]; exact Or.inr h
  have hl := lv_entry av (n := maxL) hn
  subst ha
  rw [lg_entry_eq]
  exact body p e st m _ below meth c A _ ⟨B.exec, B.bytes, findClass_of_methodNamed B.named, atoms_spec (ws := wsy) B.pre, hK⟩ B.returns B.notSynchronized hml hA ⟨hP, hD, va_S.rf⟩ hl
theorem q_entL {r : Int64} {ws' : List Cond} {av : List Value} (hy : plainName y.cls = true) (hw : wsy = Cond.code y cc maxL ret :: ws') (hn : (lg_sl av).length ≤ maxL)
    (body : ∀ (p : Program) (e : Env) (st : State) (m : MethodId) (args : Array Value) (below : List Frame) (meth : Method) (c : Code) (A : Nat → Prop) (ls : Array Slot), q_C p m c cc st args wsy y.cls D tys → meth.sig.returnType = ret → meth.locks = false → c.maxLocals = maxL → (∀ q : Nat, st.heap.size ≤ q → A q) → q_I D A st.heap st.heap [] (w s a g) → lv_has ls maxL (lv_args 0 av) →
      W p l e rm st m args below meth c st.heap [] 0 0 (MQ below (va_Ql (fun (r2 : Int64) (u : q_S) => r2 = r ∧ u = (s1, a1, g1)) (q_B D tys w A) A) args st 0 0 A) (F0 m 0 ls [])) : q_Ml l y wsy rm D tys w av s a g r s1 a1 g1 := by
  intro sz
  refine Met.ofW (cc := cc) (maxL := maxL) (ret := ret) hy hw ?_
  intro p e st m args below meth c s₁ B hml hv
  obtain ⟨ha, hsz, hP, hK, hD0⟩ := hv
  subst hsz
  have hD := hD0.self (sz := st.heap.size)
  generalize hAe : va_A (w s a g) st.heap.size = A at hD ⊢
  have hA : ∀ q : Nat, st.heap.size ≤ q → A q := fun q h => by rw [← hAe]; exact Or.inr h
  have hl := lv_entry av (n := maxL) hn
  subst ha
  rw [lg_entry_eq]
  exact body p e st m _ below meth c A _ ⟨B.exec, B.bytes, findClass_of_methodNamed B.named, atoms_spec (ws := wsy) B.pre, hK⟩ B.returns B.notSynchronized hml hA ⟨hP, hD, va_S.rf⟩ hl
theorem q_entV {ws' : List Cond} {av : List Value} (hy : plainName y.cls = true) (hw : wsy = Cond.code y cc maxL ret :: ws') (hn : (lg_sl av).length ≤ maxL)
    (body : ∀ (p : Program) (e : Env) (st : State) (m : MethodId) (args : Array Value) (below : List Frame) (meth : Method) (c : Code) (A : Nat → Prop) (ls : Array Slot), q_C p m c cc st args wsy y.cls D tys → meth.sig.returnType = ret → meth.locks = false → c.maxLocals = maxL → (∀ q : Nat, st.heap.size ≤ q → A q) → q_I D A st.heap st.heap [] (w s a g) → lv_has ls maxL (lv_args 0 av) →
      W p l e rm st m args below meth c st.heap [] 0 0 (MQ below (va_Qv (fun u : q_S => u = (s1, a1, g1)) (q_B D tys w A) A) args st 0 0 A) (F0 m 0 ls [])) : q_Mv l y wsy rm D tys w av s a g s1 a1 g1 := by
  intro sz
  refine Met.ofW (cc := cc) (maxL := maxL) (ret := ret) hy hw ?_
  intro p e st m args below meth c s₁ B hml hv
  obtain ⟨ha, hsz, hP, hK, hD0⟩ := hv
  subst hsz
  have hD := hD0.self (sz := st.heap.size)
  generalize hAe : va_A (w s a g) st.heap.size = A at hD ⊢
  have hA : ∀ q : Nat, st.heap.size ≤ q → A q := fun q h => by rw [← hAe]; exact Or.inr h
  have hl := lv_entry av (n := maxL) hn
  subst ha
  rw [lg_entry_eq]
  exact body p e st m _ below meth c A _ ⟨B.exec, B.bytes, findClass_of_methodNamed B.named, atoms_spec (ws := wsy) B.pre, hK⟩ B.returns B.notSynchronized hml hA ⟨hP, hD, va_S.rf⟩ hl
theorem q_get_RX0_9 (C : q_C p m c cc st args Ts RX0 D (q_tY ca)) (hin : ∀ w ∈ wsX00, w ∈ Ts) (hlk : Cond.fieldLink RX0 9 "ReaderYard$Marks" "labels" "[I" ∈ Ts) (hI : q_I D A H0 H locs (q_wY h ad ca s a g)) (hdg : decode cc pc = .ok (.getfield 9, 3))
    (kk : W p l e R st m args below meth c H locs cells slots Q (F0 m (pc + 3) ls (.ref (ad 30) :: rest))) : W p l e R st m args below meth c H locs cells slots Q (F0 m pc ls (.ref (ad 10) :: rest)) :=
  va_get (D := D) (ci := 0) (C := RX0) (T := TX0) (N := 4) C.1 C.2.1 C.2.2.2.1 hin C.2.2.1 C.2.2.2.2 hI.1 2 rfl rfl 0 (by decide) (C.2.2.2.1 _ hlk) (fun _ h9 => h9) rfl hdg kk
theorem q_get_RX0_15 (C : q_C p m c cc st args Ts RX0 D (q_tY ca)) (hin : ∀ w ∈ wsX00, w ∈ Ts) (hlk : Cond.fieldLink RX0 15 "ReaderYard$Marks" "froms" "[I" ∈ Ts) (hI : q_I D A H0 H locs (q_wY h ad ca s a g)) (hdg : decode cc pc = .ok (.getfield 15, 3))
    (kk : W p l e R st m args below meth c H locs cells slots Q (F0 m (pc + 3) ls (.ref (ad 31) :: rest))) : W p l e R st m args below meth c H locs cells slots Q (F0 m pc ls (.ref (ad 10) :: rest)) :=
  va_get (D := D) (ci := 0) (C := RX0) (T := TX0) (N := 4) C.1 C.2.1 C.2.2.2.1 hin C.2.2.1 C.2.2.2.2 hI.1 2 rfl rfl 1 (by decide) (C.2.2.2.1 _ hlk) (fun _ h9 => h9) rfl hdg kk
theorem q_get_RX0_18 (C : q_C p m c cc st args Ts RX0 D (q_tY ca)) (hin : ∀ w ∈ wsX00, w ∈ Ts) (hlk : Cond.fieldLink RX0 18 "ReaderYard$Marks" "tos" "[I" ∈ Ts) (hI : q_I D A H0 H locs (q_wY h ad ca s a g)) (hdg : decode cc pc = .ok (.getfield 18, 3))
    (kk : W p l e R st m args below meth c H locs cells slots Q (F0 m (pc + 3) ls (.ref (ad 32) :: rest))) : W p l e R st m args below meth c H locs cells slots Q (F0 m pc ls (.ref (ad 10) :: rest)) :=
  va_get (D := D) (ci := 0) (C := RX0) (T := TX0) (N := 4) C.1 C.2.1 C.2.2.2.1 hin C.2.2.1 C.2.2.2.2 hI.1 2 rfl rfl 2 (by decide) (C.2.2.2.1 _ hlk) (fun _ h9 => h9) rfl hdg kk
theorem q_get_RX0_21 (C : q_C p m c cc st args Ts RX0 D (q_tY ca)) (hin : ∀ w ∈ wsX00, w ∈ Ts) (hlk : Cond.fieldLink RX0 21 "ReaderYard$Marks" "size" "I" ∈ Ts) (hI : q_I D A H0 H locs (q_wY h ad ca s a g)) (hdg : decode cc pc = .ok (.getfield 21, 3))
    (kk : W p l e R st m args below meth c H locs cells slots Q (F0 m (pc + 3) ls (.int (s 33) :: rest))) : W p l e R st m args below meth c H locs cells slots Q (F0 m pc ls (.ref (ad 10) :: rest)) :=
  va_get (D := D) (ci := 0) (C := RX0) (T := TX0) (N := 4) C.1 C.2.1 C.2.2.2.1 hin C.2.2.1 C.2.2.2.2 hI.1 2 rfl rfl 3 (by decide) (C.2.2.2.1 _ hlk) (fun _ h9 => h9) rfl hdg kk
theorem q_put_RX0_21 (C : q_C p m c cc st args Ts RX0 D (q_tY ca)) (hin : ∀ w ∈ wsX00, w ∈ Ts) (hlk : Cond.fieldLink RX0 21 "ReaderYard$Marks" "size" "I" ∈ Ts) {v : Int32} (e1 : s1 = q_us s 33 v) (hI : q_I D A H0 H locs (q_wY h ad ca s a g)) (hdg : decode cc pc = .ok (.putfield 21, 3))
    (kk : ∀ (H1 : Heap) (locs1 : List Loc), q_I D A H0 H1 locs1 (q_wY h ad ca s1 a g) → W p l e R st m args below meth c H1 locs1 cells slots Q (F0 m (pc + 3) ls rest)) : W p l e R st m args below meth c H locs cells slots Q (F0 m pc ls (.int v :: .ref (ad 10) :: rest)) := by
  subst e1
  exact va_put (D := D) (ci := 0) (v := .int v) (ty := .int) (C := RX0) (T := TX0) (N := 4) C.1 C.2.1 C.2.2.2.1 hin tyX0 tyX0_ok nmX0 C.2.2.1 C.2.2.2.2 hI.1 hI.2.1 hI.2.2 2 rfl rfl 3 (by decide) (C.2.2.2.1 _ hlk) (fun _ h9 => h9) rfl (by decide +kernel) rfl rfl (Nat.le_of_ble_eq_true rfl) hdg (fun H1 locs1 hP hD hS => kk H1 locs1 ⟨hP, hD, hS⟩)
theorem q_get_RX1_9 (C : q_C p m c cc st args Ts RX1 D (q_tY ca)) (hin : ∀ w ∈ wsX10, w ∈ Ts) (hlk : Cond.fieldLink RX1 9 "ReaderYard$Pile" "values" "[J" ∈ Ts) (hI : q_I D A H0 H locs (q_wY h ad ca s a g)) (hdg : decode cc pc = .ok (.getfield 9, 3))
    (kk : W p l e R st m args below meth c H locs cells slots Q (F0 m (pc + 3) ls (.ref (ad 20) :: rest))) : W p l e R st m args below meth c H locs cells slots Q (F0 m pc ls (.ref (ad 9) :: rest)) :=
  va_get (D := D) (ci := 1) (C := RX1) (T := TX1) (N := 5) C.1 C.2.1 C.2.2.2.1 hin C.2.2.1 C.2.2.2.2 hI.1 1 rfl rfl 0 (by decide) (C.2.2.2.1 _ hlk) (fun _ h9 => h9) rfl hdg kk
theorem q_get_RX1_15 (C : q_C p m c cc st args Ts RX1 D (q_tY ca)) (hin : ∀ w ∈ wsX10, w ∈ Ts) (hlk : Cond.fieldLink RX1 15 "ReaderYard$Pile" "belows" "[I" ∈ Ts) (hI : q_I D A H0 H locs (q_wY h ad ca s a g)) (hdg : decode cc pc = .ok (.getfield 15, 3))
    (kk : W p l e R st m args below meth c H locs cells slots Q (F0 m (pc + 3) ls (.ref (ad 21) :: rest))) : W p l e R st m args below meth c H locs cells slots Q (F0 m pc ls (.ref (ad 9) :: rest)) :=
  va_get (D := D) (ci := 1) (C := RX1) (T := TX1) (N := 5) C.1 C.2.1 C.2.2.2.1 hin C.2.2.1 C.2.2.2.2 hI.1 1 rfl rfl 1 (by decide) (C.2.2.2.1 _ hlk) (fun _ h9 => h9) rfl hdg kk
theorem q_get_RX1_19 (C : q_C p m c cc st args Ts RX1 D (q_tY ca)) (hin : ∀ w ∈ wsX10, w ∈ Ts) (hlk : Cond.fieldLink RX1 19 "ReaderYard$Pile" "heights" "[I" ∈ Ts) (hI : q_I D A H0 H locs (q_wY h ad ca s a g)) (hdg : decode cc pc = .ok (.getfield 19, 3))
    (kk : W p l e R st m args below meth c H locs cells slots Q (F0 m (pc + 3) ls (.ref (ad 22) :: rest))) : W p l e R st m args below meth c H locs cells slots Q (F0 m pc ls (.ref (ad 9) :: rest)) :=
  va_get (D := D) (ci := 1) (C := RX1) (T := TX1) (N := 5) C.1 C.2.1 C.2.2.2.1 hin C.2.2.1 C.2.2.2.2 hI.1 1 rfl rfl 2 (by decide) (C.2.2.2.1 _ hlk) (fun _ h9 => h9) rfl hdg kk
theorem q_get_RX1_22 (C : q_C p m c cc st args Ts RX1 D (q_tY ca)) (hin : ∀ w ∈ wsX10, w ∈ Ts) (hlk : Cond.fieldLink RX1 22 "ReaderYard$Pile" "used" "I" ∈ Ts) (hI : q_I D A H0 H locs (q_wY h ad ca s a g)) (hdg : decode cc pc = .ok (.getfield 22, 3))
    (kk : W p l e R st m args below meth c H locs cells slots Q (F0 m (pc + 3) ls (.int (s 23) :: rest))) : W p l e R st m args below meth c H locs cells slots Q (F0 m pc ls (.ref (ad 9) :: rest)) :=
  va_get (D := D) (ci := 1) (C := RX1) (T := TX1) (N := 5) C.1 C.2.1 C.2.2.2.1 hin C.2.2.1 C.2.2.2.2 hI.1 1 rfl rfl 3 (by decide) (C.2.2.2.1 _ hlk) (fun _ h9 => h9) rfl hdg kk
theorem q_put_RX1_22 (C : q_C p m c cc st args Ts RX1 D (q_tY ca)) (hin : ∀ w ∈ wsX10, w ∈ Ts) (hlk : Cond.fieldLink RX1 22 "ReaderYard$Pile" "used" "I" ∈ Ts) {v : Int32} (e1 : s1 = q_us s 23 v) (hI : q_I D A H0 H locs (q_wY h ad ca s a g)) (hdg : decode cc pc = .ok (.putfield 22, 3))
    (kk : ∀ (H1 : Heap) (locs1 : List Loc), q_I D A H0 H1 locs1 (q_wY h ad ca s1 a g) → W p l e R st m args below meth c H1 locs1 cells slots Q (F0 m (pc + 3) ls rest)) : W p l e R st m args below meth c H locs cells slots Q (F0 m pc ls (.int v :: .ref (ad 9) :: rest)) := by
  subst e1
  exact va_put (D := D) (ci := 1) (v := .int v) (ty := .int) (C := RX1) (T := TX1) (N := 5) C.1 C.2.1 C.2.2.2.1 hin tyX1 tyX1_ok nmX1 C.2.2.1 C.2.2.2.2 hI.1 hI.2.1 hI.2.2 1 rfl rfl 3 (by decide) (C.2.2.2.1 _ hlk) (fun _ h9 => h9) rfl (by decide +kernel) rfl rfl (Nat.le_of_ble_eq_true rfl) hdg (fun H1 locs1 hP hD hS => kk H1 locs1 ⟨hP, hD, hS⟩)
theorem q_get_RX1_26 (C : q_C p m c cc st args Ts RX1 D (q_tY ca)) (hin : ∀ w ∈ wsX10, w ∈ Ts) (hlk : Cond.fieldLink RX1 26 "ReaderYard$Pile" "top" "I" ∈ Ts) (hI : q_I D A H0 H locs (q_wY h ad ca s a g)) (hdg : decode cc pc = .ok (.getfield 26, 3))
    (kk : W p l e R st m args below meth c H locs cells slots Q (F0 m (pc + 3) ls (.int (s 24) :: rest))) : W p l e R st m args below meth c H locs cells slots Q (F0 m pc ls (.ref (ad 9) :: rest)) :=
  va_get (D := D) (ci := 1) (C := RX1) (T := TX1) (N := 5) C.1 C.2.1 C.2.2.2.1 hin C.2.2.1 C.2.2.2.2 hI.1 1 rfl rfl 4 (by decide) (C.2.2.2.1 _ hlk) (fun _ h9 => h9) rfl hdg kk
theorem q_put_RX1_26 (C : q_C p m c cc st args Ts RX1 D (q_tY ca)) (hin : ∀ w ∈ wsX10, w ∈ Ts) (hlk : Cond.fieldLink RX1 26 "ReaderYard$Pile" "top" "I" ∈ Ts) {v : Int32} (e1 : s1 = q_us s 24 v) (hI : q_I D A H0 H locs (q_wY h ad ca s a g)) (hdg : decode cc pc = .ok (.putfield 26, 3))
    (kk : ∀ (H1 : Heap) (locs1 : List Loc), q_I D A H0 H1 locs1 (q_wY h ad ca s1 a g) → W p l e R st m args below meth c H1 locs1 cells slots Q (F0 m (pc + 3) ls rest)) : W p l e R st m args below meth c H locs cells slots Q (F0 m pc ls (.int v :: .ref (ad 9) :: rest)) := by
  subst e1
  exact va_put (D := D) (ci := 1) (v := .int v) (ty := .int) (C := RX1) (T := TX1) (N := 5) C.1 C.2.1 C.2.2.2.1 hin tyX1 tyX1_ok nmX1 C.2.2.1 C.2.2.2.2 hI.1 hI.2.1 hI.2.2 1 rfl rfl 4 (by decide) (C.2.2.2.1 _ hlk) (fun _ h9 => h9) rfl (by decide +kernel) rfl rfl (Nat.le_of_ble_eq_true rfl) hdg (fun H1 locs1 hP hD hS => kk H1 locs1 ⟨hP, hD, hS⟩)
theorem q_get_RX2_9 (C : q_C p m c cc st args Ts RX2 D (q_tY ca)) (hin : ∀ w ∈ wsX20, w ∈ Ts) (hlk : Cond.fieldLink RX2 9 "ReaderYard" "signs" "[B" ∈ Ts) (hI : q_I D A H0 H locs (q_wY h ad ca s a g)) (hdg : decode cc pc = .ok (.getfield 9, 3))
    (kk : W p l e R st m args below meth c H locs cells slots Q (F0 m (pc + 3) ls (.ref (ad 0) :: rest))) : W p l e R st m args below meth c H locs cells slots Q (F0 m pc ls (.ref h :: rest)) :=
  va_get (D := D) (ci := 2) (C := RX2) (T := TX2) (N := 16) C.1 C.2.1 C.2.2.2.1 hin C.2.2.1 C.2.2.2.2 hI.1 0 rfl rfl 0 (by decide) (C.2.2.2.1 _ hlk) (fun _ h9 => h9) rfl hdg kk
theorem q_get_RX2_13 (C : q_C p m c cc st args Ts RX2 D (q_tY ca)) (hin : ∀ w ∈ wsX20, w ∈ Ts) (hlk : Cond.fieldLink RX2 13 "ReaderYard" "sorts" "[I" ∈ Ts) (hI : q_I D A H0 H locs (q_wY h ad ca s a g)) (hdg : decode cc pc = .ok (.getfield 13, 3))
    (kk : W p l e R st m args below meth c H locs cells slots Q (F0 m (pc + 3) ls (.ref (ad 2) :: rest))) : W p l e R st m args below meth c H locs cells slots Q (F0 m pc ls (.ref h :: rest)) :=
  va_get (D := D) (ci := 2) (C := RX2) (T := TX2) (N := 16) C.1 C.2.1 C.2.2.2.1 hin C.2.2.1 C.2.2.2.2 hI.1 0 rfl rfl 2 (by decide) (C.2.2.2.1 _ hlk) (fun _ h9 => h9) rfl hdg kk
theorem q_get_RX2_17 (C : q_C p m c cc st args Ts RX2 D (q_tY ca)) (hin : ∀ w ∈ wsX20, w ∈ Ts) (hlk : Cond.fieldLink RX2 17 "ReaderYard" "firsts" "[I" ∈ Ts) (hI : q_I D A H0 H locs (q_wY h ad ca s a g)) (hdg : decode cc pc = .ok (.getfield 17, 3))
    (kk : W p l e R st m args below meth c H locs cells slots Q (F0 m (pc + 3) ls (.ref (ad 3) :: rest))) : W p l e R st m args below meth c H locs cells slots Q (F0 m pc ls (.ref h :: rest)) :=
  va_get (D := D) (ci := 2) (C := RX2) (T := TX2) (N := 16) C.1 C.2.1 C.2.2.2.1 hin C.2.2.1 C.2.2.2.2 hI.1 0 rfl rfl 3 (by decide) (C.2.2.2.1 _ hlk) (fun _ h9 => h9) rfl hdg kk
theorem q_get_RX2_20 (C : q_C p m c cc st args Ts RX2 D (q_tY ca)) (hin : ∀ w ∈ wsX20, w ∈ Ts) (hlk : Cond.fieldLink RX2 20 "ReaderYard" "seconds" "[I" ∈ Ts) (hI : q_I D A H0 H locs (q_wY h ad ca s a g)) (hdg : decode cc pc = .ok (.getfield 20, 3))
    (kk : W p l e R st m args below meth c H locs cells slots Q (F0 m (pc + 3) ls (.ref (ad 4) :: rest))) : W p l e R st m args below meth c H locs cells slots Q (F0 m pc ls (.ref h :: rest)) :=
  va_get (D := D) (ci := 2) (C := RX2) (T := TX2) (N := 16) C.1 C.2.1 C.2.2.2.1 hin C.2.2.1 C.2.2.2.2 hI.1 0 rfl rfl 4 (by decide) (C.2.2.2.1 _ hlk) (fun _ h9 => h9) rfl hdg kk
theorem q_get_RX2_23 (C : q_C p m c cc st args Ts RX2 D (q_tY ca)) (hin : ∀ w ∈ wsX20, w ∈ Ts) (hlk : Cond.fieldLink RX2 23 "ReaderYard" "begun" "[I" ∈ Ts) (hI : q_I D A H0 H locs (q_wY h ad ca s a g)) (hdg : decode cc pc = .ok (.getfield 23, 3))
    (kk : W p l e R st m args below meth c H locs cells slots Q (F0 m (pc + 3) ls (.ref (ad 5) :: rest))) : W p l e R st m args below meth c H locs cells slots Q (F0 m pc ls (.ref h :: rest)) :=
  va_get (D := D) (ci := 2) (C := RX2) (T := TX2) (N := 16) C.1 C.2.1 C.2.2.2.1 hin C.2.2.1 C.2.2.2.2 hI.1 0 rfl rfl 5 (by decide) (C.2.2.2.1 _ hlk) (fun _ h9 => h9) rfl hdg kk
theorem q_get_RX2_26 (C : q_C p m c cc st args Ts RX2 D (q_tY ca)) (hin : ∀ w ∈ wsX20, w ∈ Ts) (hlk : Cond.fieldLink RX2 26 "ReaderYard" "names" "[I" ∈ Ts) (hI : q_I D A H0 H locs (q_wY h ad ca s a g)) (hdg : decode cc pc = .ok (.getfield 26, 3))
    (kk : W p l e R st m args below meth c H locs cells slots Q (F0 m (pc + 3) ls (.ref (ad 7) :: rest))) : W p l e R st m args below meth c H locs cells slots Q (F0 m pc ls (.ref h :: rest)) :=
  va_get (D := D) (ci := 2) (C := RX2) (T := TX2) (N := 16) C.1 C.2.1 C.2.2.2.1 hin C.2.2.1 C.2.2.2.2 hI.1 0 rfl rfl 7 (by decide) (C.2.2.2.1 _ hlk) (fun _ h9 => h9) rfl hdg kk
theorem q_get_RX2_29 (C : q_C p m c cc st args Ts RX2 D (q_tY ca)) (hin : ∀ w ∈ wsX20, w ∈ Ts) (hlk : Cond.fieldLink RX2 29 "ReaderYard" "barred" "[Z" ∈ Ts) (hI : q_I D A H0 H locs (q_wY h ad ca s a g)) (hdg : decode cc pc = .ok (.getfield 29, 3))
    (kk : W p l e R st m args below meth c H locs cells slots Q (F0 m (pc + 3) ls (.ref (ad 8) :: rest))) : W p l e R st m args below meth c H locs cells slots Q (F0 m pc ls (.ref h :: rest)) :=
  va_get (D := D) (ci := 2) (C := RX2) (T := TX2) (N := 16) C.1 C.2.1 C.2.2.2.1 hin C.2.2.1 C.2.2.2.2 hI.1 0 rfl rfl 8 (by decide) (C.2.2.2.1 _ hlk) (fun _ h9 => h9) rfl hdg kk
theorem q_get_RX2_36 (C : q_C p m c cc st args Ts RX2 D (q_tY ca)) (hin : ∀ w ∈ wsX20, w ∈ Ts) (hlk : Cond.fieldLink RX2 36 "ReaderYard" "numbers" "LReaderYard$Pile;" ∈ Ts) (hI : q_I D A H0 H locs (q_wY h ad ca s a g)) (hdg : decode cc pc = .ok (.getfield 36, 3))
    (kk : W p l e R st m args below meth c H locs cells slots Q (F0 m (pc + 3) ls (.ref (ad 9) :: rest))) : W p l e R st m args below meth c H locs cells slots Q (F0 m pc ls (.ref h :: rest)) :=
  va_get (D := D) (ci := 2) (C := RX2) (T := TX2) (N := 16) C.1 C.2.1 C.2.2.2.1 hin C.2.2.1 C.2.2.2.2 hI.1 0 rfl rfl 9 (by decide) (C.2.2.2.1 _ hlk) (fun _ h9 => h9) rfl hdg kk
theorem q_get_RX2_43 (C : q_C p m c cc st args Ts RX2 D (q_tY ca)) (hin : ∀ w ∈ wsX20, w ∈ Ts) (hlk : Cond.fieldLink RX2 43 "ReaderYard" "marks" "LReaderYard$Marks;" ∈ Ts) (hI : q_I D A H0 H locs (q_wY h ad ca s a g)) (hdg : decode cc pc = .ok (.getfield 43, 3))
    (kk : W p l e R st m args below meth c H locs cells slots Q (F0 m (pc + 3) ls (.ref (ad 10) :: rest))) : W p l e R st m args below meth c H locs cells slots Q (F0 m pc ls (.ref h :: rest)) :=
  va_get (D := D) (ci := 2) (C := RX2) (T := TX2) (N := 16) C.1 C.2.1 C.2.2.2.1 hin C.2.2.1 C.2.2.2.2 hI.1 0 rfl rfl 10 (by decide) (C.2.2.2.1 _ hlk) (fun _ h9 => h9) rfl hdg kk
theorem q_get_RX2_57 (C : q_C p m c cc st args Ts RX2 D (q_tY ca)) (hin : ∀ w ∈ wsX20, w ∈ Ts) (hlk : Cond.fieldLink RX2 57 "ReaderYard" "signCount" "I" ∈ Ts) (hI : q_I D A H0 H locs (q_wY h ad ca s a g)) (hdg : decode cc pc = .ok (.getfield 57, 3))
    (kk : W p l e R st m args below meth c H locs cells slots Q (F0 m (pc + 3) ls (.int (s 1) :: rest))) : W p l e R st m args below meth c H locs cells slots Q (F0 m pc ls (.ref h :: rest)) :=
  va_get (D := D) (ci := 2) (C := RX2) (T := TX2) (N := 16) C.1 C.2.1 C.2.2.2.1 hin C.2.2.1 C.2.2.2.2 hI.1 0 rfl rfl 1 (by decide) (C.2.2.2.1 _ hlk) (fun _ h9 => h9) rfl hdg kk
theorem q_put_RX2_57 (C : q_C p m c cc st args Ts RX2 D (q_tY ca)) (hin : ∀ w ∈ wsX20, w ∈ Ts) (hlk : Cond.fieldLink RX2 57 "ReaderYard" "signCount" "I" ∈ Ts) {v : Int32} (e1 : s1 = q_us s 1 v) (hI : q_I D A H0 H locs (q_wY h ad ca s a g)) (hdg : decode cc pc = .ok (.putfield 57, 3))
    (kk : ∀ (H1 : Heap) (locs1 : List Loc), q_I D A H0 H1 locs1 (q_wY h ad ca s1 a g) → W p l e R st m args below meth c H1 locs1 cells slots Q (F0 m (pc + 3) ls rest)) : W p l e R st m args below meth c H locs cells slots Q (F0 m pc ls (.int v :: .ref h :: rest)) := by
  subst e1
  exact va_put (D := D) (ci := 2) (v := .int v) (ty := .int) (C := RX2) (T := TX2) (N := 16) C.1 C.2.1 C.2.2.2.1 hin tyX2 tyX2_ok nmX2 C.2.2.1 C.2.2.2.2 hI.1 hI.2.1 hI.2.2 0 rfl rfl 1 (by decide) (C.2.2.2.1 _ hlk) (fun _ h9 => h9) rfl (by decide +kernel) rfl rfl (Nat.le_of_ble_eq_true rfl) hdg (fun H1 locs1 hP hD hS => kk H1 locs1 ⟨hP, hD, hS⟩)
theorem q_get_RX2_70 (C : q_C p m c cc st args Ts RX2 D (q_tY ca)) (hin : ∀ w ∈ wsX20, w ∈ Ts) (hlk : Cond.fieldLink RX2 70 "ReaderYard" "readerCount" "I" ∈ Ts) (hI : q_I D A H0 H locs (q_wY h ad ca s a g)) (hdg : decode cc pc = .ok (.getfield 70, 3))
    (kk : W p l e R st m args below meth c H locs cells slots Q (F0 m (pc + 3) ls (.int (s 6) :: rest))) : W p l e R st m args below meth c H locs cells slots Q (F0 m pc ls (.ref h :: rest)) :=
  va_get (D := D) (ci := 2) (C := RX2) (T := TX2) (N := 16) C.1 C.2.1 C.2.2.2.1 hin C.2.2.1 C.2.2.2.2 hI.1 0 rfl rfl 6 (by decide) (C.2.2.2.1 _ hlk) (fun _ h9 => h9) rfl hdg kk
theorem q_put_RX2_70 (C : q_C p m c cc st args Ts RX2 D (q_tY ca)) (hin : ∀ w ∈ wsX20, w ∈ Ts) (hlk : Cond.fieldLink RX2 70 "ReaderYard" "readerCount" "I" ∈ Ts) {v : Int32} (e1 : s1 = q_us s 6 v) (hI : q_I D A H0 H locs (q_wY h ad ca s a g)) (hdg : decode cc pc = .ok (.putfield 70, 3))
    (kk : ∀ (H1 : Heap) (locs1 : List Loc), q_I D A H0 H1 locs1 (q_wY h ad ca s1 a g) → W p l e R st m args below meth c H1 locs1 cells slots Q (F0 m (pc + 3) ls rest)) : W p l e R st m args below meth c H locs cells slots Q (F0 m pc ls (.int v :: .ref h :: rest)) := by
  subst e1
  exact va_put (D := D) (ci := 2) (v := .int v) (ty := .int) (C := RX2) (T := TX2) (N := 16) C.1 C.2.1 C.2.2.2.1 hin tyX2 tyX2_ok nmX2 C.2.2.1 C.2.2.2.2 hI.1 hI.2.1 hI.2.2 0 rfl rfl 6 (by decide) (C.2.2.2.1 _ hlk) (fun _ h9 => h9) rfl (by decide +kernel) rfl rfl (Nat.le_of_ble_eq_true rfl) hdg (fun H1 locs1 hP hD hS => kk H1 locs1 ⟨hP, hD, hS⟩)
theorem q_get_RX2_94 (C : q_C p m c cc st args Ts RX2 D (q_tY ca)) (hin : ∀ w ∈ wsX10, w ∈ Ts) (hlk : Cond.fieldLink RX2 94 "ReaderYard$Pile" "top" "I" ∈ Ts) (hI : q_I D A H0 H locs (q_wY h ad ca s a g)) (hdg : decode cc pc = .ok (.getfield 94, 3))
    (kk : W p l e R st m args below meth c H locs cells slots Q (F0 m (pc + 3) ls (.int (s 24) :: rest))) : W p l e R st m args below meth c H locs cells slots Q (F0 m pc ls (.ref (ad 9) :: rest)) :=
  va_get (D := D) (ci := 1) (C := RX1) (T := TX1) (N := 5) C.1 C.2.1 C.2.2.2.1 hin C.2.2.1 C.2.2.2.2 hI.1 1 rfl rfl 4 (by decide) (C.2.2.2.1 _ hlk) (fun _ h9 => h9) rfl hdg kk
theorem q_put_RX2_94 (C : q_C p m c cc st args Ts RX2 D (q_tY ca)) (hin : ∀ w ∈ wsX10, w ∈ Ts) (hlk : Cond.fieldLink RX2 94 "ReaderYard$Pile" "top" "I" ∈ Ts) {v : Int32} (e1 : s1 = q_us s 24 v) (hI : q_I D A H0 H locs (q_wY h ad ca s a g)) (hdg : decode cc pc = .ok (.putfield 94, 3))
    (kk : ∀ (H1 : Heap) (locs1 : List Loc), q_I D A H0 H1 locs1 (q_wY h ad ca s1 a g) → W p l e R st m args below meth c H1 locs1 cells slots Q (F0 m (pc + 3) ls rest)) : W p l e R st m args below meth c H locs cells slots Q (F0 m pc ls (.int v :: .ref (ad 9) :: rest)) := by
  subst e1
  exact va_put (D := D) (ci := 1) (v := .int v) (ty := .int) (C := RX1) (T := TX1) (N := 5) C.1 C.2.1 C.2.2.2.1 hin tyX1 tyX1_ok nmX1 C.2.2.1 C.2.2.2.2 hI.1 hI.2.1 hI.2.2 1 rfl rfl 4 (by decide) (C.2.2.2.1 _ hlk) (fun _ h9 => h9) rfl (by decide +kernel) rfl rfl (Nat.le_of_ble_eq_true rfl) hdg (fun H1 locs1 hP hD hS => kk H1 locs1 ⟨hP, hD, hS⟩)
theorem q_get_RX2_97 (C : q_C p m c cc st args Ts RX2 D (q_tY ca)) (hin : ∀ w ∈ wsX00, w ∈ Ts) (hlk : Cond.fieldLink RX2 97 "ReaderYard$Marks" "size" "I" ∈ Ts) (hI : q_I D A H0 H locs (q_wY h ad ca s a g)) (hdg : decode cc pc = .ok (.getfield 97, 3))
    (kk : W p l e R st m args below meth c H locs cells slots Q (F0 m (pc + 3) ls (.int (s 33) :: rest))) : W p l e R st m args below meth c H locs cells slots Q (F0 m pc ls (.ref (ad 10) :: rest)) :=
  va_get (D := D) (ci := 0) (C := RX0) (T := TX0) (N := 4) C.1 C.2.1 C.2.2.2.1 hin C.2.2.1 C.2.2.2.2 hI.1 2 rfl rfl 3 (by decide) (C.2.2.2.1 _ hlk) (fun _ h9 => h9) rfl hdg kk
theorem q_put_RX2_97 (C : q_C p m c cc st args Ts RX2 D (q_tY ca)) (hin : ∀ w ∈ wsX00, w ∈ Ts) (hlk : Cond.fieldLink RX2 97 "ReaderYard$Marks" "size" "I" ∈ Ts) {v : Int32} (e1 : s1 = q_us s 33 v) (hI : q_I D A H0 H locs (q_wY h ad ca s a g)) (hdg : decode cc pc = .ok (.putfield 97, 3))
    (kk : ∀ (H1 : Heap) (locs1 : List Loc), q_I D A H0 H1 locs1 (q_wY h ad ca s1 a g) → W p l e R st m args below meth c H1 locs1 cells slots Q (F0 m (pc + 3) ls rest)) : W p l e R st m args below meth c H locs cells slots Q (F0 m pc ls (.int v :: .ref (ad 10) :: rest)) := by
  subst e1
  exact va_put (D := D) (ci := 0) (v := .int v) (ty := .int) (C := RX0) (T := TX0) (N := 4) C.1 C.2.1 C.2.2.2.1 hin tyX0 tyX0_ok nmX0 C.2.2.1 C.2.2.2.2 hI.1 hI.2.1 hI.2.2 2 rfl rfl 3 (by decide) (C.2.2.2.1 _ hlk) (fun _ h9 => h9) rfl (by decide +kernel) rfl rfl (Nat.le_of_ble_eq_true rfl) hdg (fun H1 locs1 hP hD hS => kk H1 locs1 ⟨hP, hD, hS⟩)
theorem q_get_RX2_108 (C : q_C p m c cc st args Ts RX2 D (q_tY ca)) (hin : ∀ w ∈ wsX00, w ∈ Ts) (hlk : Cond.fieldLink RX2 108 "ReaderYard$Marks" "labels" "[I" ∈ Ts) (hI : q_I D A H0 H locs (q_wY h ad ca s a g)) (hdg : decode cc pc = .ok (.getfield 108, 3))
    (kk : W p l e R st m args below meth c H locs cells slots Q (F0 m (pc + 3) ls (.ref (ad 30) :: rest))) : W p l e R st m args below meth c H locs cells slots Q (F0 m pc ls (.ref (ad 10) :: rest)) :=
  va_get (D := D) (ci := 0) (C := RX0) (T := TX0) (N := 4) C.1 C.2.1 C.2.2.2.1 hin C.2.2.1 C.2.2.2.2 hI.1 2 rfl rfl 0 (by decide) (C.2.2.2.1 _ hlk) (fun _ h9 => h9) rfl hdg kk
theorem q_get_RX2_111 (C : q_C p m c cc st args Ts RX2 D (q_tY ca)) (hin : ∀ w ∈ wsX00, w ∈ Ts) (hlk : Cond.fieldLink RX2 111 "ReaderYard$Marks" "froms" "[I" ∈ Ts) (hI : q_I D A H0 H locs (q_wY h ad ca s a g)) (hdg : decode cc pc = .ok (.getfield 111, 3))
    (kk : W p l e R st m args below meth c H locs cells slots Q (F0 m (pc + 3) ls (.ref (ad 31) :: rest))) : W p l e R st m args below meth c H locs cells slots Q (F0 m pc ls (.ref (ad 10) :: rest)) :=
  va_get (D := D) (ci := 0) (C := RX0) (T := TX0) (N := 4) C.1 C.2.1 C.2.2.2.1 hin C.2.2.1 C.2.2.2.2 hI.1 2 rfl rfl 1 (by decide) (C.2.2.2.1 _ hlk) (fun _ h9 => h9) rfl hdg kk
theorem q_get_RX2_114 (C : q_C p m c cc st args Ts RX2 D (q_tY ca)) (hin : ∀ w ∈ wsX00, w ∈ Ts) (hlk : Cond.fieldLink RX2 114 "ReaderYard$Marks" "tos" "[I" ∈ Ts) (hI : q_I D A H0 H locs (q_wY h ad ca s a g)) (hdg : decode cc pc = .ok (.getfield 114, 3))
    (kk : W p l e R st m args below meth c H locs cells slots Q (F0 m (pc + 3) ls (.ref (ad 32) :: rest))) : W p l e R st m args below meth c H locs cells slots Q (F0 m pc ls (.ref (ad 10) :: rest)) :=
  va_get (D := D) (ci := 0) (C := RX0) (T := TX0) (N := 4) C.1 C.2.1 C.2.2.2.1 hin C.2.2.1 C.2.2.2.2 hI.1 2 rfl rfl 2 (by decide) (C.2.2.2.1 _ hlk) (fun _ h9 => h9) rfl hdg kk
theorem q_get_RX2_121 (C : q_C p m c cc st args Ts RX2 D (q_tY ca)) (hin : ∀ w ∈ wsX20, w ∈ Ts) (hlk : Cond.fieldLink RX2 121 "ReaderYard" "steps" "I" ∈ Ts) (hI : q_I D A H0 H locs (q_wY h ad ca s a g)) (hdg : decode cc pc = .ok (.getfield 121, 3))
    (kk : W p l e R st m args below meth c H locs cells slots Q (F0 m (pc + 3) ls (.int (s 11) :: rest))) : W p l e R st m args below meth c H locs cells slots Q (F0 m pc ls (.ref h :: rest)) :=
  va_get (D := D) (ci := 2) (C := RX2) (T := TX2) (N := 16) C.1 C.2.1 C.2.2.2.1 hin C.2.2.1 C.2.2.2.2 hI.1 0 rfl rfl 11 (by decide) (C.2.2.2.1 _ hlk) (fun _ h9 => h9) rfl hdg kk
theorem q_put_RX2_121 (C : q_C p m c cc st args Ts RX2 D (q_tY ca)) (hin : ∀ w ∈ wsX20, w ∈ Ts) (hlk : Cond.fieldLink RX2 121 "ReaderYard" "steps" "I" ∈ Ts) {v : Int32} (e1 : s1 = q_us s 11 v) (hI : q_I D A H0 H locs (q_wY h ad ca s a g)) (hdg : decode cc pc = .ok (.putfield 121, 3))
    (kk : ∀ (H1 : Heap) (locs1 : List Loc), q_I D A H0 H1 locs1 (q_wY h ad ca s1 a g) → W p l e R st m args below meth c H1 locs1 cells slots Q (F0 m (pc + 3) ls rest)) : W p l e R st m args below meth c H locs cells slots Q (F0 m pc ls (.int v :: .ref h :: rest)) := by
  subst e1
  exact va_put (D := D) (ci := 2) (v := .int v) (ty := .int) (C := RX2) (T := TX2) (N := 16) C.1 C.2.1 C.2.2.2.1 hin tyX2 tyX2_ok nmX2 C.2.2.1 C.2.2.2.2 hI.1 hI.2.1 hI.2.2 0 rfl rfl 11 (by decide) (C.2.2.2.1 _ hlk) (fun _ h9 => h9) rfl (by decide +kernel) rfl rfl (Nat.le_of_ble_eq_true rfl) hdg (fun H1 locs1 hP hD hS => kk H1 locs1 ⟨hP, hD, hS⟩)
theorem q_get_RX2_124 (C : q_C p m c cc st args Ts RX2 D (q_tY ca)) (hin : ∀ w ∈ wsX20, w ∈ Ts) (hlk : Cond.fieldLink RX2 124 "ReaderYard" "deepest" "I" ∈ Ts) (hI : q_I D A H0 H locs (q_wY h ad ca s a g)) (hdg : decode cc pc = .ok (.getfield 124, 3))
    (kk : W p l e R st m args below meth c H locs cells slots Q (F0 m (pc + 3) ls (.int (s 12) :: rest))) : W p l e R st m args below meth c H locs cells slots Q (F0 m pc ls (.ref h :: rest)) :=
  va_get (D := D) (ci := 2) (C := RX2) (T := TX2) (N := 16) C.1 C.2.1 C.2.2.2.1 hin C.2.2.1 C.2.2.2.2 hI.1 0 rfl rfl 12 (by decide) (C.2.2.2.1 _ hlk) (fun _ h9 => h9) rfl hdg kk
theorem q_put_RX2_124 (C : q_C p m c cc st args Ts RX2 D (q_tY ca)) (hin : ∀ w ∈ wsX20, w ∈ Ts) (hlk : Cond.fieldLink RX2 124 "ReaderYard" "deepest" "I" ∈ Ts) {v : Int32} (e1 : s1 = q_us s 12 v) (hI : q_I D A H0 H locs (q_wY h ad ca s a g)) (hdg : decode cc pc = .ok (.putfield 124, 3))
    (kk : ∀ (H1 : Heap) (locs1 : List Loc), q_I D A H0 H1 locs1 (q_wY h ad ca s1 a g) → W p l e R st m args below meth c H1 locs1 cells slots Q (F0 m (pc + 3) ls rest)) : W p l e R st m args below meth c H locs cells slots Q (F0 m pc ls (.int v :: .ref h :: rest)) := by
  subst e1
  exact va_put (D := D) (ci := 2) (v := .int v) (ty := .int) (C := RX2) (T := TX2) (N := 16) C.1 C.2.1 C.2.2.2.1 hin tyX2 tyX2_ok nmX2 C.2.2.1 C.2.2.2.2 hI.1 hI.2.1 hI.2.2 0 rfl rfl 12 (by decide) (C.2.2.2.1 _ hlk) (fun _ h9 => h9) rfl (by decide +kernel) rfl rfl (Nat.le_of_ble_eq_true rfl) hdg (fun H1 locs1 hP hD hS => kk H1 locs1 ⟨hP, hD, hS⟩)
theorem q_get_RX2_127 (C : q_C p m c cc st args Ts RX2 D (q_tY ca)) (hin : ∀ w ∈ wsX20, w ∈ Ts) (hlk : Cond.fieldLink RX2 127 "ReaderYard" "stepsEver" "I" ∈ Ts) (hI : q_I D A H0 H locs (q_wY h ad ca s a g)) (hdg : decode cc pc = .ok (.getfield 127, 3))
    (kk : W p l e R st m args below meth c H locs cells slots Q (F0 m (pc + 3) ls (.int (s 13) :: rest))) : W p l e R st m args below meth c H locs cells slots Q (F0 m pc ls (.ref h :: rest)) :=
  va_get (D := D) (ci := 2) (C := RX2) (T := TX2) (N := 16) C.1 C.2.1 C.2.2.2.1 hin C.2.2.1 C.2.2.2.2 hI.1 0 rfl rfl 13 (by decide) (C.2.2.2.1 _ hlk) (fun _ h9 => h9) rfl hdg kk
theorem q_put_RX2_127 (C : q_C p m c cc st args Ts RX2 D (q_tY ca)) (hin : ∀ w ∈ wsX20, w ∈ Ts) (hlk : Cond.fieldLink RX2 127 "ReaderYard" "stepsEver" "I" ∈ Ts) {v : Int32} (e1 : s1 = q_us s 13 v) (hI : q_I D A H0 H locs (q_wY h ad ca s a g)) (hdg : decode cc pc = .ok (.putfield 127, 3))
    (kk : ∀ (H1 : Heap) (locs1 : List Loc), q_I D A H0 H1 locs1 (q_wY h ad ca s1 a g) → W p l e R st m args below meth c H1 locs1 cells slots Q (F0 m (pc + 3) ls rest)) : W p l e R st m args below meth c H locs cells slots Q (F0 m pc ls (.int v :: .ref h :: rest)) := by
  subst e1
  exact va_put (D := D) (ci := 2) (v := .int v) (ty := .int) (C := RX2) (T := TX2) (N := 16) C.1 C.2.1 C.2.2.2.1 hin tyX2 tyX2_ok nmX2 C.2.2.1 C.2.2.2.2 hI.1 hI.2.1 hI.2.2 0 rfl rfl 13 (by decide) (C.2.2.2.1 _ hlk) (fun _ h9 => h9) rfl (by decide +kernel) rfl rfl (Nat.le_of_ble_eq_true rfl) hdg (fun H1 locs1 hP hD hS => kk H1 locs1 ⟨hP, hD, hS⟩)
theorem q_get_RX2_130 (C : q_C p m c cc st args Ts RX2 D (q_tY ca)) (hin : ∀ w ∈ wsX20, w ∈ Ts) (hlk : Cond.fieldLink RX2 130 "ReaderYard" "faultedCalls" "I" ∈ Ts) (hI : q_I D A H0 H locs (q_wY h ad ca s a g)) (hdg : decode cc pc = .ok (.getfield 130, 3))
    (kk : W p l e R st m args below meth c H locs cells slots Q (F0 m (pc + 3) ls (.int (s 14) :: rest))) : W p l e R st m args below meth c H locs cells slots Q (F0 m pc ls (.ref h :: rest)) :=
  va_get (D := D) (ci := 2) (C := RX2) (T := TX2) (N := 16) C.1 C.2.1 C.2.2.2.1 hin C.2.2.1 C.2.2.2.2 hI.1 0 rfl rfl 14 (by decide) (C.2.2.2.1 _ hlk) (fun _ h9 => h9) rfl hdg kk
theorem q_put_RX2_130 (C : q_C p m c cc st args Ts RX2 D (q_tY ca)) (hin : ∀ w ∈ wsX20, w ∈ Ts) (hlk : Cond.fieldLink RX2 130 "ReaderYard" "faultedCalls" "I" ∈ Ts) {v : Int32} (e1 : s1 = q_us s 14 v) (hI : q_I D A H0 H locs (q_wY h ad ca s a g)) (hdg : decode cc pc = .ok (.putfield 130, 3))
    (kk : ∀ (H1 : Heap) (locs1 : List Loc), q_I D A H0 H1 locs1 (q_wY h ad ca s1 a g) → W p l e R st m args below meth c H1 locs1 cells slots Q (F0 m (pc + 3) ls rest)) : W p l e R st m args below meth c H locs cells slots Q (F0 m pc ls (.int v :: .ref h :: rest)) := by
  subst e1
  exact va_put (D := D) (ci := 2) (v := .int v) (ty := .int) (C := RX2) (T := TX2) (N := 16) C.1 C.2.1 C.2.2.2.1 hin tyX2 tyX2_ok nmX2 C.2.2.1 C.2.2.2.2 hI.1 hI.2.1 hI.2.2 0 rfl rfl 14 (by decide) (C.2.2.2.1 _ hlk) (fun _ h9 => h9) rfl (by decide +kernel) rfl rfl (Nat.le_of_ble_eq_true rfl) hdg (fun H1 locs1 hP hD hS => kk H1 locs1 ⟨hP, hD, hS⟩)
theorem q_get_RX2_133 (C : q_C p m c cc st args Ts RX2 D (q_tY ca)) (hin : ∀ w ∈ wsX20, w ∈ Ts) (hlk : Cond.fieldLink RX2 133 "ReaderYard" "latestFault" "I" ∈ Ts) (hI : q_I D A H0 H locs (q_wY h ad ca s a g)) (hdg : decode cc pc = .ok (.getfield 133, 3))
    (kk : W p l e R st m args below meth c H locs cells slots Q (F0 m (pc + 3) ls (.int (s 15) :: rest))) : W p l e R st m args below meth c H locs cells slots Q (F0 m pc ls (.ref h :: rest)) :=
  va_get (D := D) (ci := 2) (C := RX2) (T := TX2) (N := 16) C.1 C.2.1 C.2.2.2.1 hin C.2.2.1 C.2.2.2.2 hI.1 0 rfl rfl 15 (by decide) (C.2.2.2.1 _ hlk) (fun _ h9 => h9) rfl hdg kk
theorem q_put_RX2_133 (C : q_C p m c cc st args Ts RX2 D (q_tY ca)) (hin : ∀ w ∈ wsX20, w ∈ Ts) (hlk : Cond.fieldLink RX2 133 "ReaderYard" "latestFault" "I" ∈ Ts) {v : Int32} (e1 : s1 = q_us s 15 v) (hI : q_I D A H0 H locs (q_wY h ad ca s a g)) (hdg : decode cc pc = .ok (.putfield 133, 3))
    (kk : ∀ (H1 : Heap) (locs1 : List Loc), q_I D A H0 H1 locs1 (q_wY h ad ca s1 a g) → W p l e R st m args below meth c H1 locs1 cells slots Q (F0 m (pc + 3) ls rest)) : W p l e R st m args below meth c H locs cells slots Q (F0 m pc ls (.int v :: .ref h :: rest)) := by
  subst e1
  exact va_put (D := D) (ci := 2) (v := .int v) (ty := .int) (C := RX2) (T := TX2) (N := 16) C.1 C.2.1 C.2.2.2.1 hin tyX2 tyX2_ok nmX2 C.2.2.1 C.2.2.2.2 hI.1 hI.2.1 hI.2.2 0 rfl rfl 15 (by decide) (C.2.2.2.1 _ hlk) (fun _ h9 => h9) rfl (by decide +kernel) rfl rfl (Nat.le_of_ble_eq_true rfl) hdg (fun H1 locs1 hP hD hS => kk H1 locs1 ⟨hP, hD, hS⟩)
theorem q_get_RX3_7 (C : q_C p m c cc st args Ts RX3 D (q_tM ca)) (hin : ∀ w ∈ wsX30, w ∈ Ts) (hlk : Cond.fieldLink RX3 7 "ReaderYardModel" "signs" "[I" ∈ Ts) (hI : q_I D A H0 H locs (q_wM h ad ca s a g)) (hdg : decode cc pc = .ok (.getfield 7, 3))
    (kk : W p l e R st m args below meth c H locs cells slots Q (F0 m (pc + 3) ls (.ref (ad 0) :: rest))) : W p l e R st m args below meth c H locs cells slots Q (F0 m pc ls (.ref h :: rest)) :=
  va_get (D := D) (ci := 3) (C := RX3) (T := TX3) (N := 36) C.1 C.2.1 C.2.2.2.1 hin C.2.2.1 C.2.2.2.2 hI.1 0 rfl rfl 0 (by decide) (C.2.2.2.1 _ hlk) (fun _ h9 => h9) rfl hdg kk
theorem q_get_RX3_13 (C : q_C p m c cc st args Ts RX3 D (q_tM ca)) (hin : ∀ w ∈ wsX30, w ∈ Ts) (hlk : Cond.fieldLink RX3 13 "ReaderYardModel" "sorts" "[I" ∈ Ts) (hI : q_I D A H0 H locs (q_wM h ad ca s a g)) (hdg : decode cc pc = .ok (.getfield 13, 3))
    (kk : W p l e R st m args below meth c H locs cells slots Q (F0 m (pc + 3) ls (.ref (ad 3) :: rest))) : W p l e R st m args below meth c H locs cells slots Q (F0 m pc ls (.ref h :: rest)) :=
  va_get (D := D) (ci := 3) (C := RX3) (T := TX3) (N := 36) C.1 C.2.1 C.2.2.2.1 hin C.2.2.1 C.2.2.2.2 hI.1 0 rfl rfl 3 (by decide) (C.2.2.2.1 _ hlk) (fun _ h9 => h9) rfl hdg kk
theorem q_get_RX3_16 (C : q_C p m c cc st args Ts RX3 D (q_tM ca)) (hin : ∀ w ∈ wsX30, w ∈ Ts) (hlk : Cond.fieldLink RX3 16 "ReaderYardModel" "as" "[I" ∈ Ts) (hI : q_I D A H0 H locs (q_wM h ad ca s a g)) (hdg : decode cc pc = .ok (.getfield 16, 3))
    (kk : W p l e R st m args below meth c H locs cells slots Q (F0 m (pc + 3) ls (.ref (ad 4) :: rest))) : W p l e R st m args below meth c H locs cells slots Q (F0 m pc ls (.ref h :: rest)) :=
  va_get (D := D) (ci := 3) (C := RX3) (T := TX3) (N := 36) C.1 C.2.1 C.2.2.2.1 hin C.2.2.1 C.2.2.2.2 hI.1 0 rfl rfl 4 (by decide) (C.2.2.2.1 _ hlk) (fun _ h9 => h9) rfl hdg kk
theorem q_get_RX3_19 (C : q_C p m c cc st args Ts RX3 D (q_tM ca)) (hin : ∀ w ∈ wsX30, w ∈ Ts) (hlk : Cond.fieldLink RX3 19 "ReaderYardModel" "bs" "[I" ∈ Ts) (hI : q_I D A H0 H locs (q_wM h ad ca s a g)) (hdg : decode cc pc = .ok (.getfield 19, 3))
    (kk : W p l e R st m args below meth c H locs cells slots Q (F0 m (pc + 3) ls (.ref (ad 5) :: rest))) : W p l e R st m args below meth c H locs cells slots Q (F0 m pc ls (.ref h :: rest)) :=
  va_get (D := D) (ci := 3) (C := RX3) (T := TX3) (N := 36) C.1 C.2.1 C.2.2.2.1 hin C.2.2.1 C.2.2.2.2 hI.1 0 rfl rfl 5 (by decide) (C.2.2.2.1 _ hlk) (fun _ h9 => h9) rfl hdg kk
theorem q_get_RX3_22 (C : q_C p m c cc st args Ts RX3 D (q_tM ca)) (hin : ∀ w ∈ wsX30, w ∈ Ts) (hlk : Cond.fieldLink RX3 22 "ReaderYardModel" "begins" "[I" ∈ Ts) (hI : q_I D A H0 H locs (q_wM h ad ca s a g)) (hdg : decode cc pc = .ok (.getfield 22, 3))
    (kk : W p l e R st m args below meth c H locs cells slots Q (F0 m (pc + 3) ls (.ref (ad 6) :: rest))) : W p l e R st m args below meth c H locs cells slots Q (F0 m pc ls (.ref h :: rest)) :=
  va_get (D := D) (ci := 3) (C := RX3) (T := TX3) (N := 36) C.1 C.2.1 C.2.2.2.1 hin C.2.2.1 C.2.2.2.2 hI.1 0 rfl rfl 6 (by decide) (C.2.2.2.1 _ hlk) (fun _ h9 => h9) rfl hdg kk
theorem q_get_RX3_25 (C : q_C p m c cc st args Ts RX3 D (q_tM ca)) (hin : ∀ w ∈ wsX30, w ∈ Ts) (hlk : Cond.fieldLink RX3 25 "ReaderYardModel" "names" "[I" ∈ Ts) (hI : q_I D A H0 H locs (q_wM h ad ca s a g)) (hdg : decode cc pc = .ok (.getfield 25, 3))
    (kk : W p l e R st m args below meth c H locs cells slots Q (F0 m (pc + 3) ls (.ref (ad 7) :: rest))) : W p l e R st m args below meth c H locs cells slots Q (F0 m pc ls (.ref h :: rest)) :=
  va_get (D := D) (ci := 3) (C := RX3) (T := TX3) (N := 36) C.1 C.2.1 C.2.2.2.1 hin C.2.2.1 C.2.2.2.2 hI.1 0 rfl rfl 7 (by decide) (C.2.2.2.1 _ hlk) (fun _ h9 => h9) rfl hdg kk
theorem q_get_RX3_28 (C : q_C p m c cc st args Ts RX3 D (q_tM ca)) (hin : ∀ w ∈ wsX30, w ∈ Ts) (hlk : Cond.fieldLink RX3 28 "ReaderYardModel" "laid" "[J" ∈ Ts) (hI : q_I D A H0 H locs (q_wM h ad ca s a g)) (hdg : decode cc pc = .ok (.getfield 28, 3))
    (kk : W p l e R st m args below meth c H locs cells slots Q (F0 m (pc + 3) ls (.ref (ad 8) :: rest))) : W p l e R st m args below meth c H locs cells slots Q (F0 m pc ls (.ref h :: rest)) :=
  va_get (D := D) (ci := 3) (C := RX3) (T := TX3) (N := 36) C.1 C.2.1 C.2.2.2.1 hin C.2.2.1 C.2.2.2.2 hI.1 0 rfl rfl 8 (by decide) (C.2.2.2.1 _ hlk) (fun _ h9 => h9) rfl hdg kk
theorem q_get_RX3_32 (C : q_C p m c cc st args Ts RX3 D (q_tM ca)) (hin : ∀ w ∈ wsX30, w ∈ Ts) (hlk : Cond.fieldLink RX3 32 "ReaderYardModel" "below" "[I" ∈ Ts) (hI : q_I D A H0 H locs (q_wM h ad ca s a g)) (hdg : decode cc pc = .ok (.getfield 32, 3))
    (kk : W p l e R st m args below meth c H locs cells slots Q (F0 m (pc + 3) ls (.ref (ad 9) :: rest))) : W p l e R st m args below meth c H locs cells slots Q (F0 m pc ls (.ref h :: rest)) :=
  va_get (D := D) (ci := 3) (C := RX3) (T := TX3) (N := 36) C.1 C.2.1 C.2.2.2.1 hin C.2.2.1 C.2.2.2.2 hI.1 0 rfl rfl 9 (by decide) (C.2.2.2.1 _ hlk) (fun _ h9 => h9) rfl hdg kk
theorem q_get_RX3_35 (C : q_C p m c cc st args Ts RX3 D (q_tM ca)) (hin : ∀ w ∈ wsX30, w ∈ Ts) (hlk : Cond.fieldLink RX3 35 "ReaderYardModel" "tall" "[I" ∈ Ts) (hI : q_I D A H0 H locs (q_wM h ad ca s a g)) (hdg : decode cc pc = .ok (.getfield 35, 3))
    (kk : W p l e R st m args below meth c H locs cells slots Q (F0 m (pc + 3) ls (.ref (ad 10) :: rest))) : W p l e R st m args below meth c H locs cells slots Q (F0 m pc ls (.ref h :: rest)) :=
  va_get (D := D) (ci := 3) (C := RX3) (T := TX3) (N := 36) C.1 C.2.1 C.2.2.2.1 hin C.2.2.1 C.2.2.2.2 hI.1 0 rfl rfl 10 (by decide) (C.2.2.2.1 _ hlk) (fun _ h9 => h9) rfl hdg kk
theorem q_get_RX3_38 (C : q_C p m c cc st args Ts RX3 D (q_tM ca)) (hin : ∀ w ∈ wsX30, w ∈ Ts) (hlk : Cond.fieldLink RX3 38 "ReaderYardModel" "markOf" "[I" ∈ Ts) (hI : q_I D A H0 H locs (q_wM h ad ca s a g)) (hdg : decode cc pc = .ok (.getfield 38, 3))
    (kk : W p l e R st m args below meth c H locs cells slots Q (F0 m (pc + 3) ls (.ref (ad 14) :: rest))) : W p l e R st m args below meth c H locs cells slots Q (F0 m pc ls (.ref h :: rest)) :=
  va_get (D := D) (ci := 3) (C := RX3) (T := TX3) (N := 36) C.1 C.2.1 C.2.2.2.1 hin C.2.2.1 C.2.2.2.2 hI.1 0 rfl rfl 14 (by decide) (C.2.2.2.1 _ hlk) (fun _ h9 => h9) rfl hdg kk
theorem q_get_RX3_41 (C : q_C p m c cc st args Ts RX3 D (q_tM ca)) (hin : ∀ w ∈ wsX30, w ∈ Ts) (hlk : Cond.fieldLink RX3 41 "ReaderYardModel" "markFrom" "[I" ∈ Ts) (hI : q_I D A H0 H locs (q_wM h ad ca s a g)) (hdg : decode cc pc = .ok (.getfield 41, 3))
    (kk : W p l e R st m args below meth c H locs cells slots Q (F0 m (pc + 3) ls (.ref (ad 15) :: rest))) : W p l e R st m args below meth c H locs cells slots Q (F0 m pc ls (.ref h :: rest)) :=
  va_get (D := D) (ci := 3) (C := RX3) (T := TX3) (N := 36) C.1 C.2.1 C.2.2.2.1 hin C.2.2.1 C.2.2.2.2 hI.1 0 rfl rfl 15 (by decide) (C.2.2.2.1 _ hlk) (fun _ h9 => h9) rfl hdg kk
theorem q_get_RX3_44 (C : q_C p m c cc st args Ts RX3 D (q_tM ca)) (hin : ∀ w ∈ wsX30, w ∈ Ts) (hlk : Cond.fieldLink RX3 44 "ReaderYardModel" "markTo" "[I" ∈ Ts) (hI : q_I D A H0 H locs (q_wM h ad ca s a g)) (hdg : decode cc pc = .ok (.getfield 44, 3))
    (kk : W p l e R st m args below meth c H locs cells slots Q (F0 m (pc + 3) ls (.ref (ad 16) :: rest))) : W p l e R st m args below meth c H locs cells slots Q (F0 m pc ls (.ref h :: rest)) :=
  va_get (D := D) (ci := 3) (C := RX3) (T := TX3) (N := 36) C.1 C.2.1 C.2.2.2.1 hin C.2.2.1 C.2.2.2.2 hI.1 0 rfl rfl 16 (by decide) (C.2.2.2.1 _ hlk) (fun _ h9 => h9) rfl hdg kk
theorem q_get_RX3_47 (C : q_C p m c cc st args Ts RX3 D (q_tM ca)) (hin : ∀ w ∈ wsX30, w ∈ Ts) (hlk : Cond.fieldLink RX3 47 "ReaderYardModel" "reader" "[I" ∈ Ts) (hI : q_I D A H0 H locs (q_wM h ad ca s a g)) (hdg : decode cc pc = .ok (.getfield 47, 3))
    (kk : W p l e R st m args below meth c H locs cells slots Q (F0 m (pc + 3) ls (.ref (ad 18) :: rest))) : W p l e R st m args below meth c H locs cells slots Q (F0 m pc ls (.ref h :: rest)) :=
  va_get (D := D) (ci := 3) (C := RX3) (T := TX3) (N := 36) C.1 C.2.1 C.2.2.2.1 hin C.2.2.1 C.2.2.2.2 hI.1 0 rfl rfl 18 (by decide) (C.2.2.2.1 _ hlk) (fun _ h9 => h9) rfl hdg kk
theorem q_get_RX3_50 (C : q_C p m c cc st args Ts RX3 D (q_tM ca)) (hin : ∀ w ∈ wsX30, w ∈ Ts) (hlk : Cond.fieldLink RX3 50 "ReaderYardModel" "phase" "[I" ∈ Ts) (hI : q_I D A H0 H locs (q_wM h ad ca s a g)) (hdg : decode cc pc = .ok (.getfield 50, 3))
    (kk : W p l e R st m args below meth c H locs cells slots Q (F0 m (pc + 3) ls (.ref (ad 19) :: rest))) : W p l e R st m args below meth c H locs cells slots Q (F0 m pc ls (.ref h :: rest)) :=
  va_get (D := D) (ci := 3) (C := RX3) (T := TX3) (N := 36) C.1 C.2.1 C.2.2.2.1 hin C.2.2.1 C.2.2.2.2 hI.1 0 rfl rfl 19 (by decide) (C.2.2.2.1 _ hlk) (fun _ h9 => h9) rfl hdg kk
theorem q_get_RX3_53 (C : q_C p m c cc st args Ts RX3 D (q_tM ca)) (hin : ∀ w ∈ wsX30, w ∈ Ts) (hlk : Cond.fieldLink RX3 53 "ReaderYardModel" "start" "[I" ∈ Ts) (hI : q_I D A H0 H locs (q_wM h ad ca s a g)) (hdg : decode cc pc = .ok (.getfield 53, 3))
    (kk : W p l e R st m args below meth c H locs cells slots Q (F0 m (pc + 3) ls (.ref (ad 20) :: rest))) : W p l e R st m args below meth c H locs cells slots Q (F0 m pc ls (.ref h :: rest)) :=
  va_get (D := D) (ci := 3) (C := RX3) (T := TX3) (N := 36) C.1 C.2.1 C.2.2.2.1 hin C.2.2.1 C.2.2.2.2 hI.1 0 rfl rfl 20 (by decide) (C.2.2.2.1 _ hlk) (fun _ h9 => h9) rfl hdg kk
theorem q_get_RX3_56 (C : q_C p m c cc st args Ts RX3 D (q_tM ca)) (hin : ∀ w ∈ wsX30, w ∈ Ts) (hlk : Cond.fieldLink RX3 56 "ReaderYardModel" "came" "[I" ∈ Ts) (hI : q_I D A H0 H locs (q_wM h ad ca s a g)) (hdg : decode cc pc = .ok (.getfield 56, 3))
    (kk : W p l e R st m args below meth c H locs cells slots Q (F0 m (pc + 3) ls (.ref (ad 21) :: rest))) : W p l e R st m args below meth c H locs cells slots Q (F0 m pc ls (.ref h :: rest)) :=
  va_get (D := D) (ci := 3) (C := RX3) (T := TX3) (N := 36) C.1 C.2.1 C.2.2.2.1 hin C.2.2.1 C.2.2.2.2 hI.1 0 rfl rfl 21 (by decide) (C.2.2.2.1 _ hlk) (fun _ h9 => h9) rfl hdg kk
theorem q_get_RX3_59 (C : q_C p m c cc st args Ts RX3 D (q_tM ca)) (hin : ∀ w ∈ wsX30, w ∈ Ts) (hlk : Cond.fieldLink RX3 59 "ReaderYardModel" "barred" "[Z" ∈ Ts) (hI : q_I D A H0 H locs (q_wM h ad ca s a g)) (hdg : decode cc pc = .ok (.getfield 59, 3))
    (kk : W p l e R st m args below meth c H locs cells slots Q (F0 m (pc + 3) ls (.ref (ad 22) :: rest))) : W p l e R st m args below meth c H locs cells slots Q (F0 m pc ls (.ref h :: rest)) :=
  va_get (D := D) (ci := 3) (C := RX3) (T := TX3) (N := 36) C.1 C.2.1 C.2.2.2.1 hin C.2.2.1 C.2.2.2.2 hI.1 0 rfl rfl 22 (by decide) (C.2.2.2.1 _ hlk) (fun _ h9 => h9) rfl hdg kk
theorem q_get_RX3_63 (C : q_C p m c cc st args Ts RX3 D (q_tM ca)) (hin : ∀ w ∈ wsX30, w ∈ Ts) (hlk : Cond.fieldLink RX3 63 "ReaderYardModel" "keptTop" "[I" ∈ Ts) (hI : q_I D A H0 H locs (q_wM h ad ca s a g)) (hdg : decode cc pc = .ok (.getfield 63, 3))
    (kk : W p l e R st m args below meth c H locs cells slots Q (F0 m (pc + 3) ls (.ref (ad 23) :: rest))) : W p l e R st m args below meth c H locs cells slots Q (F0 m pc ls (.ref h :: rest)) :=
  va_get (D := D) (ci := 3) (C := RX3) (T := TX3) (N := 36) C.1 C.2.1 C.2.2.2.1 hin C.2.2.1 C.2.2.2.2 hI.1 0 rfl rfl 23 (by decide) (C.2.2.2.1 _ hlk) (fun _ h9 => h9) rfl hdg kk
theorem q_get_RX3_66 (C : q_C p m c cc st args Ts RX3 D (q_tM ca)) (hin : ∀ w ∈ wsX30, w ∈ Ts) (hlk : Cond.fieldLink RX3 66 "ReaderYardModel" "keptChain" "[I" ∈ Ts) (hI : q_I D A H0 H locs (q_wM h ad ca s a g)) (hdg : decode cc pc = .ok (.getfield 66, 3))
    (kk : W p l e R st m args below meth c H locs cells slots Q (F0 m (pc + 3) ls (.ref (ad 24) :: rest))) : W p l e R st m args below meth c H locs cells slots Q (F0 m pc ls (.ref h :: rest)) :=
  va_get (D := D) (ci := 3) (C := RX3) (T := TX3) (N := 36) C.1 C.2.1 C.2.2.2.1 hin C.2.2.1 C.2.2.2.2 hI.1 0 rfl rfl 24 (by decide) (C.2.2.2.1 _ hlk) (fun _ h9 => h9) rfl hdg kk
theorem q_get_RX3_69 (C : q_C p m c cc st args Ts RX3 D (q_tM ca)) (hin : ∀ w ∈ wsX30, w ∈ Ts) (hlk : Cond.fieldLink RX3 69 "ReaderYardModel" "keptMarks" "[I" ∈ Ts) (hI : q_I D A H0 H locs (q_wM h ad ca s a g)) (hdg : decode cc pc = .ok (.getfield 69, 3))
    (kk : W p l e R st m args below meth c H locs cells slots Q (F0 m (pc + 3) ls (.ref (ad 25) :: rest))) : W p l e R st m args below meth c H locs cells slots Q (F0 m pc ls (.ref h :: rest)) :=
  va_get (D := D) (ci := 3) (C := RX3) (T := TX3) (N := 36) C.1 C.2.1 C.2.2.2.1 hin C.2.2.1 C.2.2.2.2 hI.1 0 rfl rfl 25 (by decide) (C.2.2.2.1 _ hlk) (fun _ h9 => h9) rfl hdg kk
theorem q_get_RX3_72 (C : q_C p m c cc st args Ts RX3 D (q_tM ca)) (hin : ∀ w ∈ wsX30, w ∈ Ts) (hlk : Cond.fieldLink RX3 72 "ReaderYardModel" "laterTop" "[I" ∈ Ts) (hI : q_I D A H0 H locs (q_wM h ad ca s a g)) (hdg : decode cc pc = .ok (.getfield 72, 3))
    (kk : W p l e R st m args below meth c H locs cells slots Q (F0 m (pc + 3) ls (.ref (ad 26) :: rest))) : W p l e R st m args below meth c H locs cells slots Q (F0 m pc ls (.ref h :: rest)) :=
  va_get (D := D) (ci := 3) (C := RX3) (T := TX3) (N := 36) C.1 C.2.1 C.2.2.2.1 hin C.2.2.1 C.2.2.2.2 hI.1 0 rfl rfl 26 (by decide) (C.2.2.2.1 _ hlk) (fun _ h9 => h9) rfl hdg kk
theorem q_get_RX3_75 (C : q_C p m c cc st args Ts RX3 D (q_tM ca)) (hin : ∀ w ∈ wsX30, w ∈ Ts) (hlk : Cond.fieldLink RX3 75 "ReaderYardModel" "laterChain" "[I" ∈ Ts) (hI : q_I D A H0 H locs (q_wM h ad ca s a g)) (hdg : decode cc pc = .ok (.getfield 75, 3))
    (kk : W p l e R st m args below meth c H locs cells slots Q (F0 m (pc + 3) ls (.ref (ad 27) :: rest))) : W p l e R st m args below meth c H locs cells slots Q (F0 m pc ls (.ref h :: rest)) :=
  va_get (D := D) (ci := 3) (C := RX3) (T := TX3) (N := 36) C.1 C.2.1 C.2.2.2.1 hin C.2.2.1 C.2.2.2.2 hI.1 0 rfl rfl 27 (by decide) (C.2.2.2.1 _ hlk) (fun _ h9 => h9) rfl hdg kk
theorem q_get_RX3_78 (C : q_C p m c cc st args Ts RX3 D (q_tM ca)) (hin : ∀ w ∈ wsX30, w ∈ Ts) (hlk : Cond.fieldLink RX3 78 "ReaderYardModel" "laterMarks" "[I" ∈ Ts) (hI : q_I D A H0 H locs (q_wM h ad ca s a g)) (hdg : decode cc pc = .ok (.getfield 78, 3))
    (kk : W p l e R st m args below meth c H locs cells slots Q (F0 m (pc + 3) ls (.ref (ad 28) :: rest))) : W p l e R st m args below meth c H locs cells slots Q (F0 m pc ls (.ref h :: rest)) :=
  va_get (D := D) (ci := 3) (C := RX3) (T := TX3) (N := 36) C.1 C.2.1 C.2.2.2.1 hin C.2.2.1 C.2.2.2.2 hI.1 0 rfl rfl 28 (by decide) (C.2.2.2.1 _ hlk) (fun _ h9 => h9) rfl hdg kk
theorem q_get_RX3_81 (C : q_C p m c cc st args Ts RX3 D (q_tM ca)) (hin : ∀ w ∈ wsX30, w ∈ Ts) (hlk : Cond.fieldLink RX3 81 "ReaderYardModel" "many" "I" ∈ Ts) (hI : q_I D A H0 H locs (q_wM h ad ca s a g)) (hdg : decode cc pc = .ok (.getfield 81, 3))
    (kk : W p l e R st m args below meth c H locs cells slots Q (F0 m (pc + 3) ls (.int (s 2) :: rest))) : W p l e R st m args below meth c H locs cells slots Q (F0 m pc ls (.ref h :: rest)) :=
  va_get (D := D) (ci := 3) (C := RX3) (T := TX3) (N := 36) C.1 C.2.1 C.2.2.2.1 hin C.2.2.1 C.2.2.2.2 hI.1 0 rfl rfl 2 (by decide) (C.2.2.2.1 _ hlk) (fun _ h9 => h9) rfl hdg kk
theorem q_put_RX3_81 (C : q_C p m c cc st args Ts RX3 D (q_tM ca)) (hin : ∀ w ∈ wsX30, w ∈ Ts) (hlk : Cond.fieldLink RX3 81 "ReaderYardModel" "many" "I" ∈ Ts) {v : Int32} (e1 : s1 = q_us s 2 v) (hI : q_I D A H0 H locs (q_wM h ad ca s a g)) (hdg : decode cc pc = .ok (.putfield 81, 3))
    (kk : ∀ (H1 : Heap) (locs1 : List Loc), q_I D A H0 H1 locs1 (q_wM h ad ca s1 a g) → W p l e R st m args below meth c H1 locs1 cells slots Q (F0 m (pc + 3) ls rest)) : W p l e R st m args below meth c H locs cells slots Q (F0 m pc ls (.int v :: .ref h :: rest)) := by
  subst e1
  exact va_put (D := D) (ci := 3) (v := .int v) (ty := .int) (C := RX3) (T := TX3) (N := 36) C.1 C.2.1 C.2.2.2.1 hin tyX3 tyX3_ok nmX3 C.2.2.1 C.2.2.2.2 hI.1 hI.2.1 hI.2.2 0 rfl rfl 2 (by decide) (C.2.2.2.1 _ hlk) (fun _ h9 => h9) rfl (by decide +kernel) rfl rfl (Nat.le_of_ble_eq_true rfl) hdg (fun H1 locs1 hP hD hS => kk H1 locs1 ⟨hP, hD, hS⟩)
theorem q_get_RX3_89 (C : q_C p m c cc st args Ts RX3 D (q_tM ca)) (hin : ∀ w ∈ wsX30, w ∈ Ts) (hlk : Cond.fieldLink RX3 89 "ReaderYardModel" "length" "I" ∈ Ts) (hI : q_I D A H0 H locs (q_wM h ad ca s a g)) (hdg : decode cc pc = .ok (.getfield 89, 3))
    (kk : W p l e R st m args below meth c H locs cells slots Q (F0 m (pc + 3) ls (.int (s 1) :: rest))) : W p l e R st m args below meth c H locs cells slots Q (F0 m pc ls (.ref h :: rest)) :=
  va_get (D := D) (ci := 3) (C := RX3) (T := TX3) (N := 36) C.1 C.2.1 C.2.2.2.1 hin C.2.2.1 C.2.2.2.2 hI.1 0 rfl rfl 1 (by decide) (C.2.2.2.1 _ hlk) (fun _ h9 => h9) rfl hdg kk
theorem q_put_RX3_89 (C : q_C p m c cc st args Ts RX3 D (q_tM ca)) (hin : ∀ w ∈ wsX30, w ∈ Ts) (hlk : Cond.fieldLink RX3 89 "ReaderYardModel" "length" "I" ∈ Ts) {v : Int32} (e1 : s1 = q_us s 1 v) (hI : q_I D A H0 H locs (q_wM h ad ca s a g)) (hdg : decode cc pc = .ok (.putfield 89, 3))
    (kk : ∀ (H1 : Heap) (locs1 : List Loc), q_I D A H0 H1 locs1 (q_wM h ad ca s1 a g) → W p l e R st m args below meth c H1 locs1 cells slots Q (F0 m (pc + 3) ls rest)) : W p l e R st m args below meth c H locs cells slots Q (F0 m pc ls (.int v :: .ref h :: rest)) := by
  subst e1
  exact va_put (D := D) (ci := 3) (v := .int v) (ty := .int) (C := RX3) (T := TX3) (N := 36) C.1 C.2.1 C.2.2.2.1 hin tyX3 tyX3_ok nmX3 C.2.2.1 C.2.2.2.2 hI.1 hI.2.1 hI.2.2 0 rfl rfl 1 (by decide) (C.2.2.2.1 _ hlk) (fun _ h9 => h9) rfl (by decide +kernel) rfl rfl (Nat.le_of_ble_eq_true rfl) hdg (fun H1 locs1 hP hD hS => kk H1 locs1 ⟨hP, hD, hS⟩)
theorem q_get_RX3_96 (C : q_C p m c cc st args Ts RX3 D (q_tM ca)) (hin : ∀ w ∈ wsX30, w ∈ Ts) (hlk : Cond.fieldLink RX3 96 "ReaderYardModel" "deep" "I" ∈ Ts) (hI : q_I D A H0 H locs (q_wM h ad ca s a g)) (hdg : decode cc pc = .ok (.getfield 96, 3))
    (kk : W p l e R st m args below meth c H locs cells slots Q (F0 m (pc + 3) ls (.int (s 17) :: rest))) : W p l e R st m args below meth c H locs cells slots Q (F0 m pc ls (.ref h :: rest)) :=
  va_get (D := D) (ci := 3) (C := RX3) (T := TX3) (N := 36) C.1 C.2.1 C.2.2.2.1 hin C.2.2.1 C.2.2.2.2 hI.1 0 rfl rfl 17 (by decide) (C.2.2.2.1 _ hlk) (fun _ h9 => h9) rfl hdg kk
theorem q_put_RX3_96 (C : q_C p m c cc st args Ts RX3 D (q_tM ca)) (hin : ∀ w ∈ wsX30, w ∈ Ts) (hlk : Cond.fieldLink RX3 96 "ReaderYardModel" "deep" "I" ∈ Ts) {v : Int32} (e1 : s1 = q_us s 17 v) (hI : q_I D A H0 H locs (q_wM h ad ca s a g)) (hdg : decode cc pc = .ok (.putfield 96, 3))
    (kk : ∀ (H1 : Heap) (locs1 : List Loc), q_I D A H0 H1 locs1 (q_wM h ad ca s1 a g) → W p l e R st m args below meth c H1 locs1 cells slots Q (F0 m (pc + 3) ls rest)) : W p l e R st m args below meth c H locs cells slots Q (F0 m pc ls (.int v :: .ref h :: rest)) := by
  subst e1
  exact va_put (D := D) (ci := 3) (v := .int v) (ty := .int) (C := RX3) (T := TX3) (N := 36) C.1 C.2.1 C.2.2.2.1 hin tyX3 tyX3_ok nmX3 C.2.2.1 C.2.2.2.2 hI.1 hI.2.1 hI.2.2 0 rfl rfl 17 (by decide) (C.2.2.2.1 _ hlk) (fun _ h9 => h9) rfl (by decide +kernel) rfl rfl (Nat.le_of_ble_eq_true rfl) hdg (fun H1 locs1 hP hD hS => kk H1 locs1 ⟨hP, hD, hS⟩)
theorem q_get_RX3_99 (C : q_C p m c cc st args Ts RX3 D (q_tM ca)) (hin : ∀ w ∈ wsX30, w ∈ Ts) (hlk : Cond.fieldLink RX3 99 "ReaderYardModel" "fault" "I" ∈ Ts) (hI : q_I D A H0 H locs (q_wM h ad ca s a g)) (hdg : decode cc pc = .ok (.getfield 99, 3))
    (kk : W p l e R st m args below meth c H locs cells slots Q (F0 m (pc + 3) ls (.int (s 30) :: rest))) : W p l e R st m args below meth c H locs cells slots Q (F0 m pc ls (.ref h :: rest)) :=
  va_get (D := D) (ci := 3) (C := RX3) (T := TX3) (N := 36) C.1 C.2.1 C.2.2.2.1 hin C.2.2.1 C.2.2.2.2 hI.1 0 rfl rfl 30 (by decide) (C.2.2.2.1 _ hlk) (fun _ h9 => h9) rfl hdg kk
theorem q_put_RX3_99 (C : q_C p m c cc st args Ts RX3 D (q_tM ca)) (hin : ∀ w ∈ wsX30, w ∈ Ts) (hlk : Cond.fieldLink RX3 99 "ReaderYardModel" "fault" "I" ∈ Ts) {v : Int32} (e1 : s1 = q_us s 30 v) (hI : q_I D A H0 H locs (q_wM h ad ca s a g)) (hdg : decode cc pc = .ok (.putfield 99, 3))
    (kk : ∀ (H1 : Heap) (locs1 : List Loc), q_I D A H0 H1 locs1 (q_wM h ad ca s1 a g) → W p l e R st m args below meth c H1 locs1 cells slots Q (F0 m (pc + 3) ls rest)) : W p l e R st m args below meth c H locs cells slots Q (F0 m pc ls (.int v :: .ref h :: rest)) := by
  subst e1
  exact va_put (D := D) (ci := 3) (v := .int v) (ty := .int) (C := RX3) (T := TX3) (N := 36) C.1 C.2.1 C.2.2.2.1 hin tyX3 tyX3_ok nmX3 C.2.2.1 C.2.2.2.2 hI.1 hI.2.1 hI.2.2 0 rfl rfl 30 (by decide) (C.2.2.2.1 _ hlk) (fun _ h9 => h9) rfl (by decide +kernel) rfl rfl (Nat.le_of_ble_eq_true rfl) hdg (fun H1 locs1 hP hD hS => kk H1 locs1 ⟨hP, hD, hS⟩)
theorem q_get_RX3_102 (C : q_C p m c cc st args Ts RX3 D (q_tM ca)) (hin : ∀ w ∈ wsX30, w ∈ Ts) (hlk : Cond.fieldLink RX3 102 "ReaderYardModel" "steps" "I" ∈ Ts) (hI : q_I D A H0 H locs (q_wM h ad ca s a g)) (hdg : decode cc pc = .ok (.getfield 102, 3))
    (kk : W p l e R st m args below meth c H locs cells slots Q (F0 m (pc + 3) ls (.int (s 31) :: rest))) : W p l e R st m args below meth c H locs cells slots Q (F0 m pc ls (.ref h :: rest)) :=
  va_get (D := D) (ci := 3) (C := RX3) (T := TX3) (N := 36) C.1 C.2.1 C.2.2.2.1 hin C.2.2.1 C.2.2.2.2 hI.1 0 rfl rfl 31 (by decide) (C.2.2.2.1 _ hlk) (fun _ h9 => h9) rfl hdg kk
theorem q_put_RX3_102 (C : q_C p m c cc st args Ts RX3 D (q_tM ca)) (hin : ∀ w ∈ wsX30, w ∈ Ts) (hlk : Cond.fieldLink RX3 102 "ReaderYardModel" "steps" "I" ∈ Ts) {v : Int32} (e1 : s1 = q_us s 31 v) (hI : q_I D A H0 H locs (q_wM h ad ca s a g)) (hdg : decode cc pc = .ok (.putfield 102, 3))
    (kk : ∀ (H1 : Heap) (locs1 : List Loc), q_I D A H0 H1 locs1 (q_wM h ad ca s1 a g) → W p l e R st m args below meth c H1 locs1 cells slots Q (F0 m (pc + 3) ls rest)) : W p l e R st m args below meth c H locs cells slots Q (F0 m pc ls (.int v :: .ref h :: rest)) := by
  subst e1
  exact va_put (D := D) (ci := 3) (v := .int v) (ty := .int) (C := RX3) (T := TX3) (N := 36) C.1 C.2.1 C.2.2.2.1 hin tyX3 tyX3_ok nmX3 C.2.2.1 C.2.2.2.2 hI.1 hI.2.1 hI.2.2 0 rfl rfl 31 (by decide) (C.2.2.2.1 _ hlk) (fun _ h9 => h9) rfl (by decide +kernel) rfl rfl (Nat.le_of_ble_eq_true rfl) hdg (fun H1 locs1 hP hD hS => kk H1 locs1 ⟨hP, hD, hS⟩)
theorem q_get_RX3_105 (C : q_C p m c cc st args Ts RX3 D (q_tM ca)) (hin : ∀ w ∈ wsX30, w ∈ Ts) (hlk : Cond.fieldLink RX3 105 "ReaderYardModel" "allSteps" "I" ∈ Ts) (hI : q_I D A H0 H locs (q_wM h ad ca s a g)) (hdg : decode cc pc = .ok (.getfield 105, 3))
    (kk : W p l e R st m args below meth c H locs cells slots Q (F0 m (pc + 3) ls (.int (s 32) :: rest))) : W p l e R st m args below meth c H locs cells slots Q (F0 m pc ls (.ref h :: rest)) :=
  va_get (D := D) (ci := 3) (C := RX3) (T := TX3) (N := 36) C.1 C.2.1 C.2.2.2.1 hin C.2.2.1 C.2.2.2.2 hI.1 0 rfl rfl 32 (by decide) (C.2.2.2.1 _ hlk) (fun _ h9 => h9) rfl hdg kk
theorem q_put_RX3_105 (C : q_C p m c cc st args Ts RX3 D (q_tM ca)) (hin : ∀ w ∈ wsX30, w ∈ Ts) (hlk : Cond.fieldLink RX3 105 "ReaderYardModel" "allSteps" "I" ∈ Ts) {v : Int32} (e1 : s1 = q_us s 32 v) (hI : q_I D A H0 H locs (q_wM h ad ca s a g)) (hdg : decode cc pc = .ok (.putfield 105, 3))
    (kk : ∀ (H1 : Heap) (locs1 : List Loc), q_I D A H0 H1 locs1 (q_wM h ad ca s1 a g) → W p l e R st m args below meth c H1 locs1 cells slots Q (F0 m (pc + 3) ls rest)) : W p l e R st m args below meth c H locs cells slots Q (F0 m pc ls (.int v :: .ref h :: rest)) := by
  subst e1
  exact va_put (D := D) (ci := 3) (v := .int v) (ty := .int) (C := RX3) (T := TX3) (N := 36) C.1 C.2.1 C.2.2.2.1 hin tyX3 tyX3_ok nmX3 C.2.2.1 C.2.2.2.2 hI.1 hI.2.1 hI.2.2 0 rfl rfl 32 (by decide) (C.2.2.2.1 _ hlk) (fun _ h9 => h9) rfl (by decide +kernel) rfl rfl (Nat.le_of_ble_eq_true rfl) hdg (fun H1 locs1 hP hD hS => kk H1 locs1 ⟨hP, hD, hS⟩)
theorem q_get_RX3_108 (C : q_C p m c cc st args Ts RX3 D (q_tM ca)) (hin : ∀ w ∈ wsX30, w ∈ Ts) (hlk : Cond.fieldLink RX3 108 "ReaderYardModel" "onTop" "I" ∈ Ts) (hI : q_I D A H0 H locs (q_wM h ad ca s a g)) (hdg : decode cc pc = .ok (.getfield 108, 3))
    (kk : W p l e R st m args below meth c H locs cells slots Q (F0 m (pc + 3) ls (.int (s 12) :: rest))) : W p l e R st m args below meth c H locs cells slots Q (F0 m pc ls (.ref h :: rest)) :=
  va_get (D := D) (ci := 3) (C := RX3) (T := TX3) (N := 36) C.1 C.2.1 C.2.2.2.1 hin C.2.2.1 C.2.2.2.2 hI.1 0 rfl rfl 12 (by decide) (C.2.2.2.1 _ hlk) (fun _ h9 => h9) rfl hdg kk
theorem q_put_RX3_108 (C : q_C p m c cc st args Ts RX3 D (q_tM ca)) (hin : ∀ w ∈ wsX30, w ∈ Ts) (hlk : Cond.fieldLink RX3 108 "ReaderYardModel" "onTop" "I" ∈ Ts) {v : Int32} (e1 : s1 = q_us s 12 v) (hI : q_I D A H0 H locs (q_wM h ad ca s a g)) (hdg : decode cc pc = .ok (.putfield 108, 3))
    (kk : ∀ (H1 : Heap) (locs1 : List Loc), q_I D A H0 H1 locs1 (q_wM h ad ca s1 a g) → W p l e R st m args below meth c H1 locs1 cells slots Q (F0 m (pc + 3) ls rest)) : W p l e R st m args below meth c H locs cells slots Q (F0 m pc ls (.int v :: .ref h :: rest)) := by
  subst e1
  exact va_put (D := D) (ci := 3) (v := .int v) (ty := .int) (C := RX3) (T := TX3) (N := 36) C.1 C.2.1 C.2.2.2.1 hin tyX3 tyX3_ok nmX3 C.2.2.1 C.2.2.2.2 hI.1 hI.2.1 hI.2.2 0 rfl rfl 12 (by decide) (C.2.2.2.1 _ hlk) (fun _ h9 => h9) rfl (by decide +kernel) rfl rfl (Nat.le_of_ble_eq_true rfl) hdg (fun H1 locs1 hP hD hS => kk H1 locs1 ⟨hP, hD, hS⟩)
theorem q_get_RX3_111 (C : q_C p m c cc st args Ts RX3 D (q_tM ca)) (hin : ∀ w ∈ wsX30, w ∈ Ts) (hlk : Cond.fieldLink RX3 111 "ReaderYardModel" "chain" "I" ∈ Ts) (hI : q_I D A H0 H locs (q_wM h ad ca s a g)) (hdg : decode cc pc = .ok (.getfield 111, 3))
    (kk : W p l e R st m args below meth c H locs cells slots Q (F0 m (pc + 3) ls (.int (s 11) :: rest))) : W p l e R st m args below meth c H locs cells slots Q (F0 m pc ls (.ref h :: rest)) :=
  va_get (D := D) (ci := 3) (C := RX3) (T := TX3) (N := 36) C.1 C.2.1 C.2.2.2.1 hin C.2.2.1 C.2.2.2.2 hI.1 0 rfl rfl 11 (by decide) (C.2.2.2.1 _ hlk) (fun _ h9 => h9) rfl hdg kk
theorem q_put_RX3_111 (C : q_C p m c cc st args Ts RX3 D (q_tM ca)) (hin : ∀ w ∈ wsX30, w ∈ Ts) (hlk : Cond.fieldLink RX3 111 "ReaderYardModel" "chain" "I" ∈ Ts) {v : Int32} (e1 : s1 = q_us s 11 v) (hI : q_I D A H0 H locs (q_wM h ad ca s a g)) (hdg : decode cc pc = .ok (.putfield 111, 3))
    (kk : ∀ (H1 : Heap) (locs1 : List Loc), q_I D A H0 H1 locs1 (q_wM h ad ca s1 a g) → W p l e R st m args below meth c H1 locs1 cells slots Q (F0 m (pc + 3) ls rest)) : W p l e R st m args below meth c H locs cells slots Q (F0 m pc ls (.int v :: .ref h :: rest)) := by
  subst e1
  exact va_put (D := D) (ci := 3) (v := .int v) (ty := .int) (C := RX3) (T := TX3) (N := 36) C.1 C.2.1 C.2.2.2.1 hin tyX3 tyX3_ok nmX3 C.2.2.1 C.2.2.2.2 hI.1 hI.2.1 hI.2.2 0 rfl rfl 11 (by decide) (C.2.2.2.1 _ hlk) (fun _ h9 => h9) rfl (by decide +kernel) rfl rfl (Nat.le_of_ble_eq_true rfl) hdg (fun H1 locs1 hP hD hS => kk H1 locs1 ⟨hP, hD, hS⟩)
theorem q_get_RX3_114 (C : q_C p m c cc st args Ts RX3 D (q_tM ca)) (hin : ∀ w ∈ wsX30, w ∈ Ts) (hlk : Cond.fieldLink RX3 114 "ReaderYardModel" "marks" "I" ∈ Ts) (hI : q_I D A H0 H locs (q_wM h ad ca s a g)) (hdg : decode cc pc = .ok (.getfield 114, 3))
    (kk : W p l e R st m args below meth c H locs cells slots Q (F0 m (pc + 3) ls (.int (s 13) :: rest))) : W p l e R st m args below meth c H locs cells slots Q (F0 m pc ls (.ref h :: rest)) :=
  va_get (D := D) (ci := 3) (C := RX3) (T := TX3) (N := 36) C.1 C.2.1 C.2.2.2.1 hin C.2.2.1 C.2.2.2.2 hI.1 0 rfl rfl 13 (by decide) (C.2.2.2.1 _ hlk) (fun _ h9 => h9) rfl hdg kk
theorem q_put_RX3_114 (C : q_C p m c cc st args Ts RX3 D (q_tM ca)) (hin : ∀ w ∈ wsX30, w ∈ Ts) (hlk : Cond.fieldLink RX3 114 "ReaderYardModel" "marks" "I" ∈ Ts) {v : Int32} (e1 : s1 = q_us s 13 v) (hI : q_I D A H0 H locs (q_wM h ad ca s a g)) (hdg : decode cc pc = .ok (.putfield 114, 3))
    (kk : ∀ (H1 : Heap) (locs1 : List Loc), q_I D A H0 H1 locs1 (q_wM h ad ca s1 a g) → W p l e R st m args below meth c H1 locs1 cells slots Q (F0 m (pc + 3) ls rest)) : W p l e R st m args below meth c H locs cells slots Q (F0 m pc ls (.int v :: .ref h :: rest)) := by
  subst e1
  exact va_put (D := D) (ci := 3) (v := .int v) (ty := .int) (C := RX3) (T := TX3) (N := 36) C.1 C.2.1 C.2.2.2.1 hin tyX3 tyX3_ok nmX3 C.2.2.1 C.2.2.2.2 hI.1 hI.2.1 hI.2.2 0 rfl rfl 13 (by decide) (C.2.2.2.1 _ hlk) (fun _ h9 => h9) rfl (by decide +kernel) rfl rfl (Nat.le_of_ble_eq_true rfl) hdg (fun H1 locs1 hP hD hS => kk H1 locs1 ⟨hP, hD, hS⟩)
theorem q_get_RX3_117 (C : q_C p m c cc st args Ts RX3 D (q_tM ca)) (hin : ∀ w ∈ wsX30, w ∈ Ts) (hlk : Cond.fieldLink RX3 117 "ReaderYardModel" "deepest" "I" ∈ Ts) (hI : q_I D A H0 H locs (q_wM h ad ca s a g)) (hdg : decode cc pc = .ok (.getfield 117, 3))
    (kk : W p l e R st m args below meth c H locs cells slots Q (F0 m (pc + 3) ls (.int (s 33) :: rest))) : W p l e R st m args below meth c H locs cells slots Q (F0 m pc ls (.ref h :: rest)) :=
  va_get (D := D) (ci := 3) (C := RX3) (T := TX3) (N := 36) C.1 C.2.1 C.2.2.2.1 hin C.2.2.1 C.2.2.2.2 hI.1 0 rfl rfl 33 (by decide) (C.2.2.2.1 _ hlk) (fun _ h9 => h9) rfl hdg kk
theorem q_put_RX3_117 (C : q_C p m c cc st args Ts RX3 D (q_tM ca)) (hin : ∀ w ∈ wsX30, w ∈ Ts) (hlk : Cond.fieldLink RX3 117 "ReaderYardModel" "deepest" "I" ∈ Ts) {v : Int32} (e1 : s1 = q_us s 33 v) (hI : q_I D A H0 H locs (q_wM h ad ca s a g)) (hdg : decode cc pc = .ok (.putfield 117, 3))
    (kk : ∀ (H1 : Heap) (locs1 : List Loc), q_I D A H0 H1 locs1 (q_wM h ad ca s1 a g) → W p l e R st m args below meth c H1 locs1 cells slots Q (F0 m (pc + 3) ls rest)) : W p l e R st m args below meth c H locs cells slots Q (F0 m pc ls (.int v :: .ref h :: rest)) := by
  subst e1
  exact va_put (D := D) (ci := 3) (v := .int v) (ty := .int) (C := RX3) (T := TX3) (N := 36) C.1 C.2.1 C.2.2.2.1 hin tyX3 tyX3_ok nmX3 C.2.2.1 C.2.2.2.2 hI.1 hI.2.1 hI.2.2 0 rfl rfl 33 (by decide) (C.2.2.2.1 _ hlk) (fun _ h9 => h9) rfl (by decide +kernel) rfl rfl (Nat.le_of_ble_eq_true rfl) hdg (fun H1 locs1 hP hD hS => kk H1 locs1 ⟨hP, hD, hS⟩)
theorem q_get_RX3_128 (C : q_C p m c cc st args Ts RX3 D (q_tM ca)) (hin : ∀ w ∈ wsX30, w ∈ Ts) (hlk : Cond.fieldLink RX3 128 "ReaderYardModel" "result" "I" ∈ Ts) (hI : q_I D A H0 H locs (q_wM h ad ca s a g)) (hdg : decode cc pc = .ok (.getfield 128, 3))
    (kk : W p l e R st m args below meth c H locs cells slots Q (F0 m (pc + 3) ls (.int (s 29) :: rest))) : W p l e R st m args below meth c H locs cells slots Q (F0 m pc ls (.ref h :: rest)) :=
  va_get (D := D) (ci := 3) (C := RX3) (T := TX3) (N := 36) C.1 C.2.1 C.2.2.2.1 hin C.2.2.1 C.2.2.2.2 hI.1 0 rfl rfl 29 (by decide) (C.2.2.2.1 _ hlk) (fun _ h9 => h9) rfl hdg kk
theorem q_put_RX3_128 (C : q_C p m c cc st args Ts RX3 D (q_tM ca)) (hin : ∀ w ∈ wsX30, w ∈ Ts) (hlk : Cond.fieldLink RX3 128 "ReaderYardModel" "result" "I" ∈ Ts) {v : Int32} (e1 : s1 = q_us s 29 v) (hI : q_I D A H0 H locs (q_wM h ad ca s a g)) (hdg : decode cc pc = .ok (.putfield 128, 3))
    (kk : ∀ (H1 : Heap) (locs1 : List Loc), q_I D A H0 H1 locs1 (q_wM h ad ca s1 a g) → W p l e R st m args below meth c H1 locs1 cells slots Q (F0 m (pc + 3) ls rest)) : W p l e R st m args below meth c H locs cells slots Q (F0 m pc ls (.int v :: .ref h :: rest)) := by
  subst e1
  exact va_put (D := D) (ci := 3) (v := .int v) (ty := .int) (C := RX3) (T := TX3) (N := 36) C.1 C.2.1 C.2.2.2.1 hin tyX3 tyX3_ok nmX3 C.2.2.1 C.2.2.2.2 hI.1 hI.2.1 hI.2.2 0 rfl rfl 29 (by decide) (C.2.2.2.1 _ hlk) (fun _ h9 => h9) rfl (by decide +kernel) rfl rfl (Nat.le_of_ble_eq_true rfl) hdg (fun H1 locs1 hP hD hS => kk H1 locs1 ⟨hP, hD, hS⟩)
theorem q_get_RX3_177 (C : q_C p m c cc st args Ts RX3 D (q_tM ca)) (hin : ∀ w ∈ wsX30, w ∈ Ts) (hlk : Cond.fieldLink RX3 177 "ReaderYardModel" "faults" "I" ∈ Ts) (hI : q_I D A H0 H locs (q_wM h ad ca s a g)) (hdg : decode cc pc = .ok (.getfield 177, 3))
    (kk : W p l e R st m args below meth c H locs cells slots Q (F0 m (pc + 3) ls (.int (s 34) :: rest))) : W p l e R st m args below meth c H locs cells slots Q (F0 m pc ls (.ref h :: rest)) :=
  va_get (D := D) (ci := 3) (C := RX3) (T := TX3) (N := 36) C.1 C.2.1 C.2.2.2.1 hin C.2.2.1 C.2.2.2.2 hI.1 0 rfl rfl 34 (by decide) (C.2.2.2.1 _ hlk) (fun _ h9 => h9) rfl hdg kk
theorem q_put_RX3_177 (C : q_C p m c cc st args Ts RX3 D (q_tM ca)) (hin : ∀ w ∈ wsX30, w ∈ Ts) (hlk : Cond.fieldLink RX3 177 "ReaderYardModel" "faults" "I" ∈ Ts) {v : Int32} (e1 : s1 = q_us s 34 v) (hI : q_I D A H0 H locs (q_wM h ad ca s a g)) (hdg : decode cc pc = .ok (.putfield 177, 3))
    (kk : ∀ (H1 : Heap) (locs1 : List Loc), q_I D A H0 H1 locs1 (q_wM h ad ca s1 a g) → W p l e R st m args below meth c H1 locs1 cells slots Q (F0 m (pc + 3) ls rest)) : W p l e R st m args below meth c H locs cells slots Q (F0 m pc ls (.int v :: .ref h :: rest)) := by
  subst e1
  exact va_put (D := D) (ci := 3) (v := .int v) (ty := .int) (C := RX3) (T := TX3) (N := 36) C.1 C.2.1 C.2.2.2.1 hin tyX3 tyX3_ok nmX3 C.2.2.1 C.2.2.2.2 hI.1 hI.2.1 hI.2.2 0 rfl rfl 34 (by decide) (C.2.2.2.1 _ hlk) (fun _ h9 => h9) rfl (by decide +kernel) rfl rfl (Nat.le_of_ble_eq_true rfl) hdg (fun H1 locs1 hP hD hS => kk H1 locs1 ⟨hP, hD, hS⟩)
theorem q_get_RX3_180 (C : q_C p m c cc st args Ts RX3 D (q_tM ca)) (hin : ∀ w ∈ wsX30, w ∈ Ts) (hlk : Cond.fieldLink RX3 180 "ReaderYardModel" "lastFault" "I" ∈ Ts) (hI : q_I D A H0 H locs (q_wM h ad ca s a g)) (hdg : decode cc pc = .ok (.getfield 180, 3))
    (kk : W p l e R st m args below meth c H locs cells slots Q (F0 m (pc + 3) ls (.int (s 35) :: rest))) : W p l e R st m args below meth c H locs cells slots Q (F0 m pc ls (.ref h :: rest)) :=
  va_get (D := D) (ci := 3) (C := RX3) (T := TX3) (N := 36) C.1 C.2.1 C.2.2.2.1 hin C.2.2.1 C.2.2.2.2 hI.1 0 rfl rfl 35 (by decide) (C.2.2.2.1 _ hlk) (fun _ h9 => h9) rfl hdg kk
theorem q_put_RX3_180 (C : q_C p m c cc st args Ts RX3 D (q_tM ca)) (hin : ∀ w ∈ wsX30, w ∈ Ts) (hlk : Cond.fieldLink RX3 180 "ReaderYardModel" "lastFault" "I" ∈ Ts) {v : Int32} (e1 : s1 = q_us s 35 v) (hI : q_I D A H0 H locs (q_wM h ad ca s a g)) (hdg : decode cc pc = .ok (.putfield 180, 3))
    (kk : ∀ (H1 : Heap) (locs1 : List Loc), q_I D A H0 H1 locs1 (q_wM h ad ca s1 a g) → W p l e R st m args below meth c H1 locs1 cells slots Q (F0 m (pc + 3) ls rest)) : W p l e R st m args below meth c H locs cells slots Q (F0 m pc ls (.int v :: .ref h :: rest)) := by
  subst e1
  exact va_put (D := D) (ci := 3) (v := .int v) (ty := .int) (C := RX3) (T := TX3) (N := 36) C.1 C.2.1 C.2.2.2.1 hin tyX3 tyX3_ok nmX3 C.2.2.1 C.2.2.2.2 hI.1 hI.2.1 hI.2.2 0 rfl rfl 35 (by decide) (C.2.2.2.1 _ hlk) (fun _ h9 => h9) rfl (by decide +kernel) rfl rfl (Nat.le_of_ble_eq_true rfl) hdg (fun H1 locs1 hP hD hS => kk H1 locs1 ⟨hP, hD, hS⟩)
theorem q_ld_Y_signs (C : q_C p m c cc st args Ts own D (q_tY ca)) {i : Int32} (hi : vp_in i 200) (hI : q_I D A H0 H locs (q_wY h ad ca s a g)) (hdg : decode cc pc = .ok (.baload, 1))
    (kk : W p l e R st m args below meth c H locs cells slots Q (F0 m (pc + 1) ls (.int (a 0 i.toNatClampNeg) :: rest))) : W p l e R st m args below meth c H locs cells slots Q (F0 m pc ls (.int i :: .ref (ad 0) :: rest)) := va_bald C.1 C.2.1 C.2.2.2.2 hI.1 3 0 rfl rfl hi hdg kk
theorem q_st_Y_signs (C : q_C p m c cc st args Ts own D (q_tY ca)) {i : Int32} {x : Int32} (hi : vp_in i 200) (e1 : a1 = q_ua a 0 i.toNatClampNeg (vp_nar .byte x)) (hI : q_I D A H0 H locs (q_wY h ad ca s a g)) (hdg : decode cc pc = .ok (.bastore, 1))
    (kk : ∀ (H1 : Heap) (locs1 : List Loc), q_I D A H0 H1 locs1 (q_wY h ad ca s a1 g) → W p l e R st m args below meth c H1 locs1 cells slots Q (F0 m (pc + 1) ls rest)) : W p l e R st m args below meth c H locs cells slots Q (F0 m pc ls (.int x :: .int i :: .ref (ad 0) :: rest)) := by
  subst e1
  exact va_bast C.1 C.2.1 C.2.2.2.2 hI.1 hI.2.1 hI.2.2 3 0 rfl rfl hi hdg (fun H1 locs1 hP hD hS => kk H1 locs1 ⟨hP, hD, hS⟩)
theorem q_ld_Y_sorts (C : q_C p m c cc st args Ts own D (q_tY ca)) {i : Int32} (hi : vp_in i 50) (hI : q_I D A H0 H locs (q_wY h ad ca s a g)) (hdg : decode cc pc = .ok (.iaload, 1))
    (kk : W p l e R st m args below meth c H locs cells slots Q (F0 m (pc + 1) ls (.int (a 2 i.toNatClampNeg) :: rest))) : W p l e R st m args below meth c H locs cells slots Q (F0 m pc ls (.int i :: .ref (ad 2) :: rest)) := va_iald C.1 C.2.1 C.2.2.2.2 hI.1 4 1 rfl rfl hi hdg kk
theorem q_st_Y_sorts (C : q_C p m c cc st args Ts own D (q_tY ca)) {i : Int32} {x : Int32} (hi : vp_in i 50) (e1 : a1 = q_ua a 2 i.toNatClampNeg x) (hI : q_I D A H0 H locs (q_wY h ad ca s a g)) (hdg : decode cc pc = .ok (.iastore, 1))
    (kk : ∀ (H1 : Heap) (locs1 : List Loc), q_I D A H0 H1 locs1 (q_wY h ad ca s a1 g) → W p l e R st m args below meth c H1 locs1 cells slots Q (F0 m (pc + 1) ls rest)) : W p l e R st m args below meth c H locs cells slots Q (F0 m pc ls (.int x :: .int i :: .ref (ad 2) :: rest)) := by
  subst e1
  exact va_iast C.1 C.2.1 C.2.2.2.2 hI.1 hI.2.1 hI.2.2 4 1 rfl rfl hi hdg (fun H1 locs1 hP hD hS => kk H1 locs1 ⟨hP, hD, hS⟩)
theorem q_ld_Y_firsts (C : q_C p m c cc st args Ts own D (q_tY ca)) {i : Int32} (hi : vp_in i 50) (hI : q_I D A H0 H locs (q_wY h ad ca s a g)) (hdg : decode cc pc = .ok (.iaload, 1))
    (kk : W p l e R st m args below meth c H locs cells slots Q (F0 m (pc + 1) ls (.int (a 3 i.toNatClampNeg) :: rest))) : W p l e R st m args below meth c H locs cells slots Q (F0 m pc ls (.int i :: .ref (ad 3) :: rest)) := va_iald C.1 C.2.1 C.2.2.2.2 hI.1 5 2 rfl rfl hi hdg kk
theorem q_st_Y_firsts (C : q_C p m c cc st args Ts own D (q_tY ca)) {i : Int32} {x : Int32} (hi : vp_in i 50) (e1 : a1 = q_ua a 3 i.toNatClampNeg x) (hI : q_I D A H0 H locs (q_wY h ad ca s a g)) (hdg : decode cc pc = .ok (.iastore, 1))
    (kk : ∀ (H1 : Heap) (locs1 : List Loc), q_I D A H0 H1 locs1 (q_wY h ad ca s a1 g) → W p l e R st m args below meth c H1 locs1 cells slots Q (F0 m (pc + 1) ls rest)) : W p l e R st m args below meth c H locs cells slots Q (F0 m pc ls (.int x :: .int i :: .ref (ad 3) :: rest)) := by
  subst e1
  exact va_iast C.1 C.2.1 C.2.2.2.2 hI.1 hI.2.1 hI.2.2 5 2 rfl rfl hi hdg (fun H1 locs1 hP hD hS => kk H1 locs1 ⟨hP, hD, hS⟩)
theorem q_ld_Y_seconds (C : q_C p m c cc st args Ts own D (q_tY ca)) {i : Int32} (hi : vp_in i 50) (hI : q_I D A H0 H locs (q_wY h ad ca s a g)) (hdg : decode cc pc = .ok (.iaload, 1))
    (kk : W p l e R st m args below meth c H locs cells slots Q (F0 m (pc + 1) ls (.int (a 4 i.toNatClampNeg) :: rest))) : W p l e R st m args below meth c H locs cells slots Q (F0 m pc ls (.int i :: .ref (ad 4) :: rest)) := va_iald C.1 C.2.1 C.2.2.2.2 hI.1 6 3 rfl rfl hi hdg kk
theorem q_st_Y_seconds (C : q_C p m c cc st args Ts own D (q_tY ca)) {i : Int32} {x : Int32} (hi : vp_in i 50) (e1 : a1 = q_ua a 4 i.toNatClampNeg x) (hI : q_I D A H0 H locs (q_wY h ad ca s a g)) (hdg : decode cc pc = .ok (.iastore, 1))
    (kk : ∀ (H1 : Heap) (locs1 : List Loc), q_I D A H0 H1 locs1 (q_wY h ad ca s a1 g) → W p l e R st m args below meth c H1 locs1 cells slots Q (F0 m (pc + 1) ls rest)) : W p l e R st m args below meth c H locs cells slots Q (F0 m pc ls (.int x :: .int i :: .ref (ad 4) :: rest)) := by
  subst e1
  exact va_iast C.1 C.2.1 C.2.2.2.2 hI.1 hI.2.1 hI.2.2 6 3 rfl rfl hi hdg (fun H1 locs1 hP hD hS => kk H1 locs1 ⟨hP, hD, hS⟩)
theorem q_ld_Y_begun (C : q_C p m c cc st args Ts own D (q_tY ca)) {i : Int32} (hi : vp_in i 50) (hI : q_I D A H0 H locs (q_wY h ad ca s a g)) (hdg : decode cc pc = .ok (.iaload, 1))
    (kk : W p l e R st m args below meth c H locs cells slots Q (F0 m (pc + 1) ls (.int (a 5 i.toNatClampNeg) :: rest))) : W p l e R st m args below meth c H locs cells slots Q (F0 m pc ls (.int i :: .ref (ad 5) :: rest)) := va_iald C.1 C.2.1 C.2.2.2.2 hI.1 7 4 rfl rfl hi hdg kk
theorem q_st_Y_begun (C : q_C p m c cc st args Ts own D (q_tY ca)) {i : Int32} {x : Int32} (hi : vp_in i 50) (e1 : a1 = q_ua a 5 i.toNatClampNeg x) (hI : q_I D A H0 H locs (q_wY h ad ca s a g)) (hdg : decode cc pc = .ok (.iastore, 1))
    (kk : ∀ (H1 : Heap) (locs1 : List Loc), q_I D A H0 H1 locs1 (q_wY h ad ca s a1 g) → W p l e R st m args below meth c H1 locs1 cells slots Q (F0 m (pc + 1) ls rest)) : W p l e R st m args below meth c H locs cells slots Q (F0 m pc ls (.int x :: .int i :: .ref (ad 5) :: rest)) := by
  subst e1
  exact va_iast C.1 C.2.1 C.2.2.2.2 hI.1 hI.2.1 hI.2.2 7 4 rfl rfl hi hdg (fun H1 locs1 hP hD hS => kk H1 locs1 ⟨hP, hD, hS⟩)
theorem q_ld_Y_names (C : q_C p m c cc st args Ts own D (q_tY ca)) {i : Int32} (hi : vp_in i 10) (hI : q_I D A H0 H locs (q_wY h ad ca s a g)) (hdg : decode cc pc = .ok (.iaload, 1))
    (kk : W p l e R st m args below meth c H locs cells slots Q (F0 m (pc + 1) ls (.int (a 7 i.toNatClampNeg) :: rest))) : W p l e R st m args below meth c H locs cells slots Q (F0 m pc ls (.int i :: .ref (ad 7) :: rest)) := va_iald C.1 C.2.1 C.2.2.2.2 hI.1 8 5 rfl rfl hi hdg kk
theorem q_st_Y_names (C : q_C p m c cc st args Ts own D (q_tY ca)) {i : Int32} {x : Int32} (hi : vp_in i 10) (e1 : a1 = q_ua a 7 i.toNatClampNeg x) (hI : q_I D A H0 H locs (q_wY h ad ca s a g)) (hdg : decode cc pc = .ok (.iastore, 1))
    (kk : ∀ (H1 : Heap) (locs1 : List Loc), q_I D A H0 H1 locs1 (q_wY h ad ca s a1 g) → W p l e R st m args below meth c H1 locs1 cells slots Q (F0 m (pc + 1) ls rest)) : W p l e R st m args below meth c H locs cells slots Q (F0 m pc ls (.int x :: .int i :: .ref (ad 7) :: rest)) := by
  subst e1
  exact va_iast C.1 C.2.1 C.2.2.2.2 hI.1 hI.2.1 hI.2.2 8 5 rfl rfl hi hdg (fun H1 locs1 hP hD hS => kk H1 locs1 ⟨hP, hD, hS⟩)
theorem q_ld_Y_barred (C : q_C p m c cc st args Ts own D (q_tY ca)) {i : Int32} (hi : vp_in i 151) (hI : q_I D A H0 H locs (q_wY h ad ca s a g)) (hdg : decode cc pc = .ok (.baload, 1))
    (kk : W p l e R st m args below meth c H locs cells slots Q (F0 m (pc + 1) ls (.int (a 8 i.toNatClampNeg) :: rest))) : W p l e R st m args below meth c H locs cells slots Q (F0 m pc ls (.int i :: .ref (ad 8) :: rest)) := va_zald C.1 C.2.1 C.2.2.2.2 hI.1 9 6 rfl rfl hi hdg kk
theorem q_st_Y_barred (C : q_C p m c cc st args Ts own D (q_tY ca)) {i : Int32} {x : Int32} (hi : vp_in i 151) (e1 : a1 = q_ua a 8 i.toNatClampNeg (vp_nar .boolean x)) (hI : q_I D A H0 H locs (q_wY h ad ca s a g)) (hdg : decode cc pc = .ok (.bastore, 1))
    (kk : ∀ (H1 : Heap) (locs1 : List Loc), q_I D A H0 H1 locs1 (q_wY h ad ca s a1 g) → W p l e R st m args below meth c H1 locs1 cells slots Q (F0 m (pc + 1) ls rest)) : W p l e R st m args below meth c H locs cells slots Q (F0 m pc ls (.int x :: .int i :: .ref (ad 8) :: rest)) := by
  subst e1
  exact va_zast C.1 C.2.1 C.2.2.2.2 hI.1 hI.2.1 hI.2.2 9 6 rfl rfl hi hdg (fun H1 locs1 hP hD hS => kk H1 locs1 ⟨hP, hD, hS⟩)
theorem q_ld_Y_values (C : q_C p m c cc st args Ts own D (q_tY ca)) {i : Int32} (hi : vp_in i 3001) (hI : q_I D A H0 H locs (q_wY h ad ca s a g)) (hdg : decode cc pc = .ok (.laload, 1))
    (kk : W p l e R st m args below meth c H locs cells slots Q (F0 m (pc + 1) ls (.long (g i.toNatClampNeg) :: rest))) : W p l e R st m args below meth c H locs cells slots Q (F0 m pc ls (.int i :: .ref (ad 20) :: rest)) := va_lald C.1 C.2.1 C.2.2.2.2 hI.1 10 7 rfl rfl hi hdg kk
theorem q_st_Y_values (C : q_C p m c cc st args Ts own D (q_tY ca)) {i : Int32} {x : Int64} (hi : vp_in i 3001) (e1 : g1 = vp_updL g i.toNatClampNeg x) (hI : q_I D A H0 H locs (q_wY h ad ca s a g)) (hdg : decode cc pc = .ok (.lastore, 1))
    (kk : ∀ (H1 : Heap) (locs1 : List Loc), q_I D A H0 H1 locs1 (q_wY h ad ca s a g1) → W p l e R st m args below meth c H1 locs1 cells slots Q (F0 m (pc + 1) ls rest)) : W p l e R st m args below meth c H locs cells slots Q (F0 m pc ls (.long x :: .int i :: .ref (ad 20) :: rest)) := by
  subst e1
  exact va_last C.1 C.2.1 C.2.2.2.2 hI.1 hI.2.1 hI.2.2 10 7 rfl rfl hi hdg (fun H1 locs1 hP hD hS => kk H1 locs1 ⟨hP, hD, hS⟩)
theorem q_ld_Y_belows (C : q_C p m c cc st args Ts own D (q_tY ca)) {i : Int32} (hi : vp_in i 3001) (hI : q_I D A H0 H locs (q_wY h ad ca s a g)) (hdg : decode cc pc = .ok (.iaload, 1))
    (kk : W p l e R st m args below meth c H locs cells slots Q (F0 m (pc + 1) ls (.int (a 21 i.toNatClampNeg) :: rest))) : W p l e R st m args below meth c H locs cells slots Q (F0 m pc ls (.int i :: .ref (ad 21) :: rest)) := va_iald C.1 C.2.1 C.2.2.2.2 hI.1 11 8 rfl rfl hi hdg kk
theorem q_st_Y_belows (C : q_C p m c cc st args Ts own D (q_tY ca)) {i : Int32} {x : Int32} (hi : vp_in i 3001) (e1 : a1 = q_ua a 21 i.toNatClampNeg x) (hI : q_I D A H0 H locs (q_wY h ad ca s a g)) (hdg : decode cc pc = .ok (.iastore, 1))
    (kk : ∀ (H1 : Heap) (locs1 : List Loc), q_I D A H0 H1 locs1 (q_wY h ad ca s a1 g) → W p l e R st m args below meth c H1 locs1 cells slots Q (F0 m (pc + 1) ls rest)) : W p l e R st m args below meth c H locs cells slots Q (F0 m pc ls (.int x :: .int i :: .ref (ad 21) :: rest)) := by
  subst e1
  exact va_iast C.1 C.2.1 C.2.2.2.2 hI.1 hI.2.1 hI.2.2 11 8 rfl rfl hi hdg (fun H1 locs1 hP hD hS => kk H1 locs1 ⟨hP, hD, hS⟩)
theorem q_ld_Y_heights (C : q_C p m c cc st args Ts own D (q_tY ca)) {i : Int32} (hi : vp_in i 3001) (hI : q_I D A H0 H locs (q_wY h ad ca s a g)) (hdg : decode cc pc = .ok (.iaload, 1))
    (kk : W p l e R st m args below meth c H locs cells slots Q (F0 m (pc + 1) ls (.int (a 22 i.toNatClampNeg) :: rest))) : W p l e R st m args below meth c H locs cells slots Q (F0 m pc ls (.int i :: .ref (ad 22) :: rest)) := va_iald C.1 C.2.1 C.2.2.2.2 hI.1 12 9 rfl rfl hi hdg kk
theorem q_st_Y_heights (C : q_C p m c cc st args Ts own D (q_tY ca)) {i : Int32} {x : Int32} (hi : vp_in i 3001) (e1 : a1 = q_ua a 22 i.toNatClampNeg x) (hI : q_I D A H0 H locs (q_wY h ad ca s a g)) (hdg : decode cc pc = .ok (.iastore, 1))
    (kk : ∀ (H1 : Heap) (locs1 : List Loc), q_I D A H0 H1 locs1 (q_wY h ad ca s a1 g) → W p l e R st m args below meth c H1 locs1 cells slots Q (F0 m (pc + 1) ls rest)) : W p l e R st m args below meth c H locs cells slots Q (F0 m pc ls (.int x :: .int i :: .ref (ad 22) :: rest)) := by
  subst e1
  exact va_iast C.1 C.2.1 C.2.2.2.2 hI.1 hI.2.1 hI.2.2 12 9 rfl rfl hi hdg (fun H1 locs1 hP hD hS => kk H1 locs1 ⟨hP, hD, hS⟩)
theorem q_ld_Y_labels (C : q_C p m c cc st args Ts own D (q_tY ca)) {i : Int32} (hi : vp_in i 3000) (hI : q_I D A H0 H locs (q_wY h ad ca s a g)) (hdg : decode cc pc = .ok (.iaload, 1))
    (kk : W p l e R st m args below meth c H locs cells slots Q (F0 m (pc + 1) ls (.int (a 30 i.toNatClampNeg) :: rest))) : W p l e R st m args below meth c H locs cells slots Q (F0 m pc ls (.int i :: .ref (ad 30) :: rest)) := va_iald C.1 C.2.1 C.2.2.2.2 hI.1 13 10 rfl rfl hi hdg kk
theorem q_st_Y_labels (C : q_C p m c cc st args Ts own D (q_tY ca)) {i : Int32} {x : Int32} (hi : vp_in i 3000) (e1 : a1 = q_ua a 30 i.toNatClampNeg x) (hI : q_I D A H0 H locs (q_wY h ad ca s a g)) (hdg : decode cc pc = .ok (.iastore, 1))
    (kk : ∀ (H1 : Heap) (locs1 : List Loc), q_I D A H0 H1 locs1 (q_wY h ad ca s a1 g) → W p l e R st m args below meth c H1 locs1 cells slots Q (F0 m (pc + 1) ls rest)) : W p l e R st m args below meth c H locs cells slots Q (F0 m pc ls (.int x :: .int i :: .ref (ad 30) :: rest)) := by
  subst e1
  exact va_iast C.1 C.2.1 C.2.2.2.2 hI.1 hI.2.1 hI.2.2 13 10 rfl rfl hi hdg (fun H1 locs1 hP hD hS => kk H1 locs1 ⟨hP, hD, hS⟩)
theorem q_ld_Y_froms (C : q_C p m c cc st args Ts own D (q_tY ca)) {i : Int32} (hi : vp_in i 3000) (hI : q_I D A H0 H locs (q_wY h ad ca s a g)) (hdg : decode cc pc = .ok (.iaload, 1))
    (kk : W p l e R st m args below meth c H locs cells slots Q (F0 m (pc + 1) ls (.int (a 31 i.toNatClampNeg) :: rest))) : W p l e R st m args below meth c H locs cells slots Q (F0 m pc ls (.int i :: .ref (ad 31) :: rest)) := va_iald C.1 C.2.1 C.2.2.2.2 hI.1 14 11 rfl rfl hi hdg kk
theorem q_st_Y_froms (C : q_C p m c cc st args Ts own D (q_tY ca)) {i : Int32} {x : Int32} (hi : vp_in i 3000) (e1 : a1 = q_ua a 31 i.toNatClampNeg x) (hI : q_I D A H0 H locs (q_wY h ad ca s a g)) (hdg : decode cc pc = .ok (.iastore, 1))
    (kk : ∀ (H1 : Heap) (locs1 : List Loc), q_I D A H0 H1 locs1 (q_wY h ad ca s a1 g) → W p l e R st m args below meth c H1 locs1 cells slots Q (F0 m (pc + 1) ls rest)) : W p l e R st m args below meth c H locs cells slots Q (F0 m pc ls (.int x :: .int i :: .ref (ad 31) :: rest)) := by
  subst e1
  exact va_iast C.1 C.2.1 C.2.2.2.2 hI.1 hI.2.1 hI.2.2 14 11 rfl rfl hi hdg (fun H1 locs1 hP hD hS => kk H1 locs1 ⟨hP, hD, hS⟩)
theorem q_ld_Y_tos (C : q_C p m c cc st args Ts own D (q_tY ca)) {i : Int32} (hi : vp_in i 3000) (hI : q_I D A H0 H locs (q_wY h ad ca s a g)) (hdg : decode cc pc = .ok (.iaload, 1))
    (kk : W p l e R st m args below meth c H locs cells slots Q (F0 m (pc + 1) ls (.int (a 32 i.toNatClampNeg) :: rest))) : W p l e R st m args below meth c H locs cells slots Q (F0 m pc ls (.int i :: .ref (ad 32) :: rest)) := va_iald C.1 C.2.1 C.2.2.2.2 hI.1 15 12 rfl rfl hi hdg kk
theorem q_st_Y_tos (C : q_C p m c cc st args Ts own D (q_tY ca)) {i : Int32} {x : Int32} (hi : vp_in i 3000) (e1 : a1 = q_ua a 32 i.toNatClampNeg x) (hI : q_I D A H0 H locs (q_wY h ad ca s a g)) (hdg : decode cc pc = .ok (.iastore, 1))
    (kk : ∀ (H1 : Heap) (locs1 : List Loc), q_I D A H0 H1 locs1 (q_wY h ad ca s a1 g) → W p l e R st m args below meth c H1 locs1 cells slots Q (F0 m (pc + 1) ls rest)) : W p l e R st m args below meth c H locs cells slots Q (F0 m pc ls (.int x :: .int i :: .ref (ad 32) :: rest)) := by
  subst e1
  exact va_iast C.1 C.2.1 C.2.2.2.2 hI.1 hI.2.1 hI.2.2 15 12 rfl rfl hi hdg (fun H1 locs1 hP hD hS => kk H1 locs1 ⟨hP, hD, hS⟩)
theorem q_ld_M_signs (C : q_C p m c cc st args Ts own D (q_tM ca)) {i : Int32} (hi : vp_in i 200) (hI : q_I D A H0 H locs (q_wM h ad ca s a g)) (hdg : decode cc pc = .ok (.iaload, 1))
    (kk : W p l e R st m args below meth c H locs cells slots Q (F0 m (pc + 1) ls (.int (a 0 i.toNatClampNeg) :: rest))) : W p l e R st m args below meth c H locs cells slots Q (F0 m pc ls (.int i :: .ref (ad 0) :: rest)) := va_iald C.1 C.2.1 C.2.2.2.2 hI.1 1 0 rfl rfl hi hdg kk
theorem q_st_M_signs (C : q_C p m c cc st args Ts own D (q_tM ca)) {i : Int32} {x : Int32} (hi : vp_in i 200) (e1 : a1 = q_ua a 0 i.toNatClampNeg x) (hI : q_I D A H0 H locs (q_wM h ad ca s a g)) (hdg : decode cc pc = .ok (.iastore, 1))
    (kk : ∀ (H1 : Heap) (locs1 : List Loc), q_I D A H0 H1 locs1 (q_wM h ad ca s a1 g) → W p l e R st m args below meth c H1 locs1 cells slots Q (F0 m (pc + 1) ls rest)) : W p l e R st m args below meth c H locs cells slots Q (F0 m pc ls (.int x :: .int i :: .ref (ad 0) :: rest)) := by
  subst e1
  exact va_iast C.1 C.2.1 C.2.2.2.2 hI.1 hI.2.1 hI.2.2 1 0 rfl rfl hi hdg (fun H1 locs1 hP hD hS => kk H1 locs1 ⟨hP, hD, hS⟩)
theorem q_ld_M_sorts (C : q_C p m c cc st args Ts own D (q_tM ca)) {i : Int32} (hi : vp_in i 50) (hI : q_I D A H0 H locs (q_wM h ad ca s a g)) (hdg : decode cc pc = .ok (.iaload, 1))
    (kk : W p l e R st m args below meth c H locs cells slots Q (F0 m (pc + 1) ls (.int (a 3 i.toNatClampNeg) :: rest))) : W p l e R st m args below meth c H locs cells slots Q (F0 m pc ls (.int i :: .ref (ad 3) :: rest)) := va_iald C.1 C.2.1 C.2.2.2.2 hI.1 2 1 rfl rfl hi hdg kk
theorem q_st_M_sorts (C : q_C p m c cc st args Ts own D (q_tM ca)) {i : Int32} {x : Int32} (hi : vp_in i 50) (e1 : a1 = q_ua a 3 i.toNatClampNeg x) (hI : q_I D A H0 H locs (q_wM h ad ca s a g)) (hdg : decode cc pc = .ok (.iastore, 1))
    (kk : ∀ (H1 : Heap) (locs1 : List Loc), q_I D A H0 H1 locs1 (q_wM h ad ca s a1 g) → W p l e R st m args below meth c H1 locs1 cells slots Q (F0 m (pc + 1) ls rest)) : W p l e R st m args below meth c H locs cells slots Q (F0 m pc ls (.int x :: .int i :: .ref (ad 3) :: rest)) := by
  subst e1
  exact va_iast C.1 C.2.1 C.2.2.2.2 hI.1 hI.2.1 hI.2.2 2 1 rfl rfl hi hdg (fun H1 locs1 hP hD hS => kk H1 locs1 ⟨hP, hD, hS⟩)
theorem q_ld_M_as (C : q_C p m c cc st args Ts own D (q_tM ca)) {i : Int32} (hi : vp_in i 50) (hI : q_I D A H0 H locs (q_wM h ad ca s a g)) (hdg : decode cc pc = .ok (.iaload, 1))
    (kk : W p l e R st m args below meth c H locs cells slots Q (F0 m (pc + 1) ls (.int (a 4 i.toNatClampNeg) :: rest))) : W p l e R st m args below meth c H locs cells slots Q (F0 m pc ls (.int i :: .ref (ad 4) :: rest)) := va_iald C.1 C.2.1 C.2.2.2.2 hI.1 3 2 rfl rfl hi hdg kk
theorem q_st_M_as (C : q_C p m c cc st args Ts own D (q_tM ca)) {i : Int32} {x : Int32} (hi : vp_in i 50) (e1 : a1 = q_ua a 4 i.toNatClampNeg x) (hI : q_I D A H0 H locs (q_wM h ad ca s a g)) (hdg : decode cc pc = .ok (.iastore, 1))
    (kk : ∀ (H1 : Heap) (locs1 : List Loc), q_I D A H0 H1 locs1 (q_wM h ad ca s a1 g) → W p l e R st m args below meth c H1 locs1 cells slots Q (F0 m (pc + 1) ls rest)) : W p l e R st m args below meth c H locs cells slots Q (F0 m pc ls (.int x :: .int i :: .ref (ad 4) :: rest)) := by
  subst e1
  exact va_iast C.1 C.2.1 C.2.2.2.2 hI.1 hI.2.1 hI.2.2 3 2 rfl rfl hi hdg (fun H1 locs1 hP hD hS => kk H1 locs1 ⟨hP, hD, hS⟩)
theorem q_ld_M_bs (C : q_C p m c cc st args Ts own D (q_tM ca)) {i : Int32} (hi : vp_in i 50) (hI : q_I D A H0 H locs (q_wM h ad ca s a g)) (hdg : decode cc pc = .ok (.iaload, 1))
    (kk : W p l e R st m args below meth c H locs cells slots Q (F0 m (pc + 1) ls (.int (a 5 i.toNatClampNeg) :: rest))) : W p l e R st m args below meth c H locs cells slots Q (F0 m pc ls (.int i :: .ref (ad 5) :: rest)) := va_iald C.1 C.2.1 C.2.2.2.2 hI.1 4 3 rfl rfl hi hdg kk
theorem q_st_M_bs (C : q_C p m c cc st args Ts own D (q_tM ca)) {i : Int32} {x : Int32} (hi : vp_in i 50) (e1 : a1 = q_ua a 5 i.toNatClampNeg x) (hI : q_I D A H0 H locs (q_wM h ad ca s a g)) (hdg : decode cc pc = .ok (.iastore, 1))
    (kk : ∀ (H1 : Heap) (locs1 : List Loc), q_I D A H0 H1 locs1 (q_wM h ad ca s a1 g) → W p l e R st m args below meth c H1 locs1 cells slots Q (F0 m (pc + 1) ls rest)) : W p l e R st m args below meth c H locs cells slots Q (F0 m pc ls (.int x :: .int i :: .ref (ad 5) :: rest)) := by
  subst e1
  exact va_iast C.1 C.2.1 C.2.2.2.2 hI.1 hI.2.1 hI.2.2 4 3 rfl rfl hi hdg (fun H1 locs1 hP hD hS => kk H1 locs1 ⟨hP, hD, hS⟩)
theorem q_ld_M_begins (C : q_C p m c cc st args Ts own D (q_tM ca)) {i : Int32} (hi : vp_in i 50) (hI : q_I D A H0 H locs (q_wM h ad ca s a g)) (hdg : decode cc pc = .ok (.iaload, 1))
    (kk : W p l e R st m args below meth c H locs cells slots Q (F0 m (pc + 1) ls (.int (a 6 i.toNatClampNeg) :: rest))) : W p l e R st m args below meth c H locs cells slots Q (F0 m pc ls (.int i :: .ref (ad 6) :: rest)) := va_iald C.1 C.2.1 C.2.2.2.2 hI.1 5 4 rfl rfl hi hdg kk
theorem q_st_M_begins (C : q_C p m c cc st args Ts own D (q_tM ca)) {i : Int32} {x : Int32} (hi : vp_in i 50) (e1 : a1 = q_ua a 6 i.toNatClampNeg x) (hI : q_I D A H0 H locs (q_wM h ad ca s a g)) (hdg : decode cc pc = .ok (.iastore, 1))
    (kk : ∀ (H1 : Heap) (locs1 : List Loc), q_I D A H0 H1 locs1 (q_wM h ad ca s a1 g) → W p l e R st m args below meth c H1 locs1 cells slots Q (F0 m (pc + 1) ls rest)) : W p l e R st m args below meth c H locs cells slots Q (F0 m pc ls (.int x :: .int i :: .ref (ad 6) :: rest)) := by
  subst e1
  exact va_iast C.1 C.2.1 C.2.2.2.2 hI.1 hI.2.1 hI.2.2 5 4 rfl rfl hi hdg (fun H1 locs1 hP hD hS => kk H1 locs1 ⟨hP, hD, hS⟩)
theorem q_ld_M_names (C : q_C p m c cc st args Ts own D (q_tM ca)) {i : Int32} (hi : vp_in i 10) (hI : q_I D A H0 H locs (q_wM h ad ca s a g)) (hdg : decode cc pc = .ok (.iaload, 1))
    (kk : W p l e R st m args below meth c H locs cells slots Q (F0 m (pc + 1) ls (.int (a 7 i.toNatClampNeg) :: rest))) : W p l e R st m args below meth c H locs cells slots Q (F0 m pc ls (.int i :: .ref (ad 7) :: rest)) := va_iald C.1 C.2.1 C.2.2.2.2 hI.1 6 5 rfl rfl hi hdg kk
theorem q_st_M_names (C : q_C p m c cc st args Ts own D (q_tM ca)) {i : Int32} {x : Int32} (hi : vp_in i 10) (e1 : a1 = q_ua a 7 i.toNatClampNeg x) (hI : q_I D A H0 H locs (q_wM h ad ca s a g)) (hdg : decode cc pc = .ok (.iastore, 1))
    (kk : ∀ (H1 : Heap) (locs1 : List Loc), q_I D A H0 H1 locs1 (q_wM h ad ca s a1 g) → W p l e R st m args below meth c H1 locs1 cells slots Q (F0 m (pc + 1) ls rest)) : W p l e R st m args below meth c H locs cells slots Q (F0 m pc ls (.int x :: .int i :: .ref (ad 7) :: rest)) := by
  subst e1
  exact va_iast C.1 C.2.1 C.2.2.2.2 hI.1 hI.2.1 hI.2.2 6 5 rfl rfl hi hdg (fun H1 locs1 hP hD hS => kk H1 locs1 ⟨hP, hD, hS⟩)
theorem q_ld_M_laid (C : q_C p m c cc st args Ts own D (q_tM ca)) {i : Int32} (hi : vp_in i 3001) (hI : q_I D A H0 H locs (q_wM h ad ca s a g)) (hdg : decode cc pc = .ok (.laload, 1))
    (kk : W p l e R st m args below meth c H locs cells slots Q (F0 m (pc + 1) ls (.long (g i.toNatClampNeg) :: rest))) : W p l e R st m args below meth c H locs cells slots Q (F0 m pc ls (.int i :: .ref (ad 8) :: rest)) := va_lald C.1 C.2.1 C.2.2.2.2 hI.1 7 6 rfl rfl hi hdg kk
theorem q_st_M_laid (C : q_C p m c cc st args Ts own D (q_tM ca)) {i : Int32} {x : Int64} (hi : vp_in i 3001) (e1 : g1 = vp_updL g i.toNatClampNeg x) (hI : q_I D A H0 H locs (q_wM h ad ca s a g)) (hdg : decode cc pc = .ok (.lastore, 1))
    (kk : ∀ (H1 : Heap) (locs1 : List Loc), q_I D A H0 H1 locs1 (q_wM h ad ca s a g1) → W p l e R st m args below meth c H1 locs1 cells slots Q (F0 m (pc + 1) ls rest)) : W p l e R st m args below meth c H locs cells slots Q (F0 m pc ls (.long x :: .int i :: .ref (ad 8) :: rest)) := by
  subst e1
  exact va_last C.1 C.2.1 C.2.2.2.2 hI.1 hI.2.1 hI.2.2 7 6 rfl rfl hi hdg (fun H1 locs1 hP hD hS => kk H1 locs1 ⟨hP, hD, hS⟩)
theorem q_ld_M_below (C : q_C p m c cc st args Ts own D (q_tM ca)) {i : Int32} (hi : vp_in i 3001) (hI : q_I D A H0 H locs (q_wM h ad ca s a g)) (hdg : decode cc pc = .ok (.iaload, 1))
    (kk : W p l e R st m args below meth c H locs cells slots Q (F0 m (pc + 1) ls (.int (a 9 i.toNatClampNeg) :: rest))) : W p l e R st m args below meth c H locs cells slots Q (F0 m pc ls (.int i :: .ref (ad 9) :: rest)) := va_iald C.1 C.2.1 C.2.2.2.2 hI.1 8 7 rfl rfl hi hdg kk
theorem q_st_M_below (C : q_C p m c cc st args Ts own D (q_tM ca)) {i : Int32} {x : Int32} (hi : vp_in i 3001) (e1 : a1 = q_ua a 9 i.toNatClampNeg x) (hI : q_I D A H0 H locs (q_wM h ad ca s a g)) (hdg : decode cc pc = .ok (.iastore, 1))
    (kk : ∀ (H1 : Heap) (locs1 : List Loc), q_I D A H0 H1 locs1 (q_wM h ad ca s a1 g) → W p l e R st m args below meth c H1 locs1 cells slots Q (F0 m (pc + 1) ls rest)) : W p l e R st m args below meth c H locs cells slots Q (F0 m pc ls (.int x :: .int i :: .ref (ad 9) :: rest)) := by
  subst e1
  exact va_iast C.1 C.2.1 C.2.2.2.2 hI.1 hI.2.1 hI.2.2 8 7 rfl rfl hi hdg (fun H1 locs1 hP hD hS => kk H1 locs1 ⟨hP, hD, hS⟩)
theorem q_ld_M_tall (C : q_C p m c cc st args Ts own D (q_tM ca)) {i : Int32} (hi : vp_in i 3001) (hI : q_I D A H0 H locs (q_wM h ad ca s a g)) (hdg : decode cc pc = .ok (.iaload, 1))
    (kk : W p l e R st m args below meth c H locs cells slots Q (F0 m (pc + 1) ls (.int (a 10 i.toNatClampNeg) :: rest))) : W p l e R st m args below meth c H locs cells slots Q (F0 m pc ls (.int i :: .ref (ad 10) :: rest)) := va_iald C.1 C.2.1 C.2.2.2.2 hI.1 9 8 rfl rfl hi hdg kk
theorem q_st_M_tall (C : q_C p m c cc st args Ts own D (q_tM ca)) {i : Int32} {x : Int32} (hi : vp_in i 3001) (e1 : a1 = q_ua a 10 i.toNatClampNeg x) (hI : q_I D A H0 H locs (q_wM h ad ca s a g)) (hdg : decode cc pc = .ok (.iastore, 1))
    (kk : ∀ (H1 : Heap) (locs1 : List Loc), q_I D A H0 H1 locs1 (q_wM h ad ca s a1 g) → W p l e R st m args below meth c H1 locs1 cells slots Q (F0 m (pc + 1) ls rest)) : W p l e R st m args below meth c H locs cells slots Q (F0 m pc ls (.int x :: .int i :: .ref (ad 10) :: rest)) := by
  subst e1
  exact va_iast C.1 C.2.1 C.2.2.2.2 hI.1 hI.2.1 hI.2.2 9 8 rfl rfl hi hdg (fun H1 locs1 hP hD hS => kk H1 locs1 ⟨hP, hD, hS⟩)
theorem q_ld_M_markOf (C : q_C p m c cc st args Ts own D (q_tM ca)) {i : Int32} (hi : vp_in i 3001) (hI : q_I D A H0 H locs (q_wM h ad ca s a g)) (hdg : decode cc pc = .ok (.iaload, 1))
    (kk : W p l e R st m args below meth c H locs cells slots Q (F0 m (pc + 1) ls (.int (a 14 i.toNatClampNeg) :: rest))) : W p l e R st m args below meth c H locs cells slots Q (F0 m pc ls (.int i :: .ref (ad 14) :: rest)) := va_iald C.1 C.2.1 C.2.2.2.2 hI.1 10 9 rfl rfl hi hdg kk
theorem q_st_M_markOf (C : q_C p m c cc st args Ts own D (q_tM ca)) {i : Int32} {x : Int32} (hi : vp_in i 3001) (e1 : a1 = q_ua a 14 i.toNatClampNeg x) (hI : q_I D A H0 H locs (q_wM h ad ca s a g)) (hdg : decode cc pc = .ok (.iastore, 1))
    (kk : ∀ (H1 : Heap) (locs1 : List Loc), q_I D A H0 H1 locs1 (q_wM h ad ca s a1 g) → W p l e R st m args below meth c H1 locs1 cells slots Q (F0 m (pc + 1) ls rest)) : W p l e R st m args below meth c H locs cells slots Q (F0 m pc ls (.int x :: .int i :: .ref (ad 14) :: rest)) := by
  subst e1
  exact va_iast C.1 C.2.1 C.2.2.2.2 hI.1 hI.2.1 hI.2.2 10 9 rfl rfl hi hdg (fun H1 locs1 hP hD hS => kk H1 locs1 ⟨hP, hD, hS⟩)
theorem q_ld_M_markFrom (C : q_C p m c cc st args Ts own D (q_tM ca)) {i : Int32} (hi : vp_in i 3001) (hI : q_I D A H0 H locs (q_wM h ad ca s a g)) (hdg : decode cc pc = .ok (.iaload, 1))
    (kk : W p l e R st m args below meth c H locs cells slots Q (F0 m (pc + 1) ls (.int (a 15 i.toNatClampNeg) :: rest))) : W p l e R st m args below meth c H locs cells slots Q (F0 m pc ls (.int i :: .ref (ad 15) :: rest)) := va_iald C.1 C.2.1 C.2.2.2.2 hI.1 11 10 rfl rfl hi hdg kk
theorem q_st_M_markFrom (C : q_C p m c cc st args Ts own D (q_tM ca)) {i : Int32} {x : Int32} (hi : vp_in i 3001) (e1 : a1 = q_ua a 15 i.toNatClampNeg x) (hI : q_I D A H0 H locs (q_wM h ad ca s a g)) (hdg : decode cc pc = .ok (.iastore, 1))
    (kk : ∀ (H1 : Heap) (locs1 : List Loc), q_I D A H0 H1 locs1 (q_wM h ad ca s a1 g) → W p l e R st m args below meth c H1 locs1 cells slots Q (F0 m (pc + 1) ls rest)) : W p l e R st m args below meth c H locs cells slots Q (F0 m pc ls (.int x :: .int i :: .ref (ad 15) :: rest)) := by
  subst e1
  exact va_iast C.1 C.2.1 C.2.2.2.2 hI.1 hI.2.1 hI.2.2 11 10 rfl rfl hi hdg (fun H1 locs1 hP hD hS => kk H1 locs1 ⟨hP, hD, hS⟩)
theorem q_ld_M_markTo (C : q_C p m c cc st args Ts own D (q_tM ca)) {i : Int32} (hi : vp_in i 3001) (hI : q_I D A H0 H locs (q_wM h ad ca s a g)) (hdg : decode cc pc = .ok (.iaload, 1))
    (kk : W p l e R st m args below meth c H locs cells slots Q (F0 m (pc + 1) ls (.int (a 16 i.toNatClampNeg) :: rest))) : W p l e R st m args below meth c H locs cells slots Q (F0 m pc ls (.int i :: .ref (ad 16) :: rest)) := va_iald C.1 C.2.1 C.2.2.2.2 hI.1 12 11 rfl rfl hi hdg kk
theorem q_st_M_markTo (C : q_C p m c cc st args Ts own D (q_tM ca)) {i : Int32} {x : Int32} (hi : vp_in i 3001) (e1 : a1 = q_ua a 16 i.toNatClampNeg x) (hI : q_I D A H0 H locs (q_wM h ad ca s a g)) (hdg : decode cc pc = .ok (.iastore, 1))
    (kk : ∀ (H1 : Heap) (locs1 : List Loc), q_I D A H0 H1 locs1 (q_wM h ad ca s a1 g) → W p l e R st m args below meth c H1 locs1 cells slots Q (F0 m (pc + 1) ls rest)) : W p l e R st m args below meth c H locs cells slots Q (F0 m pc ls (.int x :: .int i :: .ref (ad 16) :: rest)) := by
  subst e1
  exact va_iast C.1 C.2.1 C.2.2.2.2 hI.1 hI.2.1 hI.2.2 12 11 rfl rfl hi hdg (fun H1 locs1 hP hD hS => kk H1 locs1 ⟨hP, hD, hS⟩)
theorem q_ld_M_reader (C : q_C p m c cc st args Ts own D (q_tM ca)) {i : Int32} (hi : vp_in i 150) (hI : q_I D A H0 H locs (q_wM h ad ca s a g)) (hdg : decode cc pc = .ok (.iaload, 1))
    (kk : W p l e R st m args below meth c H locs cells slots Q (F0 m (pc + 1) ls (.int (a 18 i.toNatClampNeg) :: rest))) : W p l e R st m args below meth c H locs cells slots Q (F0 m pc ls (.int i :: .ref (ad 18) :: rest)) := va_iald C.1 C.2.1 C.2.2.2.2 hI.1 13 12 rfl rfl hi hdg kk
theorem q_st_M_reader (C : q_C p m c cc st args Ts own D (q_tM ca)) {i : Int32} {x : Int32} (hi : vp_in i 150) (e1 : a1 = q_ua a 18 i.toNatClampNeg x) (hI : q_I D A H0 H locs (q_wM h ad ca s a g)) (hdg : decode cc pc = .ok (.iastore, 1))
    (kk : ∀ (H1 : Heap) (locs1 : List Loc), q_I D A H0 H1 locs1 (q_wM h ad ca s a1 g) → W p l e R st m args below meth c H1 locs1 cells slots Q (F0 m (pc + 1) ls rest)) : W p l e R st m args below meth c H locs cells slots Q (F0 m pc ls (.int x :: .int i :: .ref (ad 18) :: rest)) := by
  subst e1
  exact va_iast C.1 C.2.1 C.2.2.2.2 hI.1 hI.2.1 hI.2.2 13 12 rfl rfl hi hdg (fun H1 locs1 hP hD hS => kk H1 locs1 ⟨hP, hD, hS⟩)
theorem q_ld_M_phase (C : q_C p m c cc st args Ts own D (q_tM ca)) {i : Int32} (hi : vp_in i 150) (hI : q_I D A H0 H locs (q_wM h ad ca s a g)) (hdg : decode cc pc = .ok (.iaload, 1))
    (kk : W p l e R st m args below meth c H locs cells slots Q (F0 m (pc + 1) ls (.int (a 19 i.toNatClampNeg) :: rest))) : W p l e R st m args below meth c H locs cells slots Q (F0 m pc ls (.int i :: .ref (ad 19) :: rest)) := va_iald C.1 C.2.1 C.2.2.2.2 hI.1 14 13 rfl rfl hi hdg kk
theorem q_st_M_phase (C : q_C p m c cc st args Ts own D (q_tM ca)) {i : Int32} {x : Int32} (hi : vp_in i 150) (e1 : a1 = q_ua a 19 i.toNatClampNeg x) (hI : q_I D A H0 H locs (q_wM h ad ca s a g)) (hdg : decode cc pc = .ok (.iastore, 1))
    (kk : ∀ (H1 : Heap) (locs1 : List Loc), q_I D A H0 H1 locs1 (q_wM h ad ca s a1 g) → W p l e R st m args below meth c H1 locs1 cells slots Q (F0 m (pc + 1) ls rest)) : W p l e R st m args below meth c H locs cells slots Q (F0 m pc ls (.int x :: .int i :: .ref (ad 19) :: rest)) := by
  subst e1
  exact va_iast C.1 C.2.1 C.2.2.2.2 hI.1 hI.2.1 hI.2.2 14 13 rfl rfl hi hdg (fun H1 locs1 hP hD hS => kk H1 locs1 ⟨hP, hD, hS⟩)
theorem q_ld_M_start (C : q_C p m c cc st args Ts own D (q_tM ca)) {i : Int32} (hi : vp_in i 150) (hI : q_I D A H0 H locs (q_wM h ad ca s a g)) (hdg : decode cc pc = .ok (.iaload, 1))
    (kk : W p l e R st m args below meth c H locs cells slots Q (F0 m (pc + 1) ls (.int (a 20 i.toNatClampNeg) :: rest))) : W p l e R st m args below meth c H locs cells slots Q (F0 m pc ls (.int i :: .ref (ad 20) :: rest)) := va_iald C.1 C.2.1 C.2.2.2.2 hI.1 15 14 rfl rfl hi hdg kk
theorem q_st_M_start (C : q_C p m c cc st args Ts own D (q_tM ca)) {i : Int32} {x : Int32} (hi : vp_in i 150) (e1 : a1 = q_ua a 20 i.toNatClampNeg x) (hI : q_I D A H0 H locs (q_wM h ad ca s a g)) (hdg : decode cc pc = .ok (.iastore, 1))
    (kk : ∀ (H1 : Heap) (locs1 : List Loc), q_I D A H0 H1 locs1 (q_wM h ad ca s a1 g) → W p l e R st m args below meth c H1 locs1 cells slots Q (F0 m (pc + 1) ls rest)) : W p l e R st m args below meth c H locs cells slots Q (F0 m pc ls (.int x :: .int i :: .ref (ad 20) :: rest)) := by
  subst e1
  exact va_iast C.1 C.2.1 C.2.2.2.2 hI.1 hI.2.1 hI.2.2 15 14 rfl rfl hi hdg (fun H1 locs1 hP hD hS => kk H1 locs1 ⟨hP, hD, hS⟩)
theorem q_ld_M_came (C : q_C p m c cc st args Ts own D (q_tM ca)) {i : Int32} (hi : vp_in i 150) (hI : q_I D A H0 H locs (q_wM h ad ca s a g)) (hdg : decode cc pc = .ok (.iaload, 1))
    (kk : W p l e R st m args below meth c H locs cells slots Q (F0 m (pc + 1) ls (.int (a 21 i.toNatClampNeg) :: rest))) : W p l e R st m args below meth c H locs cells slots Q (F0 m pc ls (.int i :: .ref (ad 21) :: rest)) := va_iald C.1 C.2.1 C.2.2.2.2 hI.1 16 15 rfl rfl hi hdg kk
theorem q_st_M_came (C : q_C p m c cc st args Ts own D (q_tM ca)) {i : Int32} {x : Int32} (hi : vp_in i 150) (e1 : a1 = q_ua a 21 i.toNatClampNeg x) (hI : q_I D A H0 H locs (q_wM h ad ca s a g)) (hdg : decode cc pc = .ok (.iastore, 1))
    (kk : ∀ (H1 : Heap) (locs1 : List Loc), q_I D A H0 H1 locs1 (q_wM h ad ca s a1 g) → W p l e R st m args below meth c H1 locs1 cells slots Q (F0 m (pc + 1) ls rest)) : W p l e R st m args below meth c H locs cells slots Q (F0 m pc ls (.int x :: .int i :: .ref (ad 21) :: rest)) := by
  subst e1
  exact va_iast C.1 C.2.1 C.2.2.2.2 hI.1 hI.2.1 hI.2.2 16 15 rfl rfl hi hdg (fun H1 locs1 hP hD hS => kk H1 locs1 ⟨hP, hD, hS⟩)
theorem q_ld_M_barred (C : q_C p m c cc st args Ts own D (q_tM ca)) {i : Int32} (hi : vp_in i 150) (hI : q_I D A H0 H locs (q_wM h ad ca s a g)) (hdg : decode cc pc = .ok (.baload, 1))
    (kk : W p l e R st m args below meth c H locs cells slots Q (F0 m (pc + 1) ls (.int (a 22 i.toNatClampNeg) :: rest))) : W p l e R st m args below meth c H locs cells slots Q (F0 m pc ls (.int i :: .ref (ad 22) :: rest)) := va_zald C.1 C.2.1 C.2.2.2.2 hI.1 17 16 rfl rfl hi hdg kk
theorem q_st_M_barred (C : q_C p m c cc st args Ts own D (q_tM ca)) {i : Int32} {x : Int32} (hi : vp_in i 150) (e1 : a1 = q_ua a 22 i.toNatClampNeg (vp_nar .boolean x)) (hI : q_I D A H0 H locs (q_wM h ad ca s a g)) (hdg : decode cc pc = .ok (.bastore, 1))
    (kk : ∀ (H1 : Heap) (locs1 : List Loc), q_I D A H0 H1 locs1 (q_wM h ad ca s a1 g) → W p l e R st m args below meth c H1 locs1 cells slots Q (F0 m (pc + 1) ls rest)) : W p l e R st m args below meth c H locs cells slots Q (F0 m pc ls (.int x :: .int i :: .ref (ad 22) :: rest)) := by
  subst e1
  exact va_zast C.1 C.2.1 C.2.2.2.2 hI.1 hI.2.1 hI.2.2 17 16 rfl rfl hi hdg (fun H1 locs1 hP hD hS => kk H1 locs1 ⟨hP, hD, hS⟩)
theorem q_ld_M_keptTop (C : q_C p m c cc st args Ts own D (q_tM ca)) {i : Int32} (hi : vp_in i 150) (hI : q_I D A H0 H locs (q_wM h ad ca s a g)) (hdg : decode cc pc = .ok (.iaload, 1))
    (kk : W p l e R st m args below meth c H locs cells slots Q (F0 m (pc + 1) ls (.int (a 23 i.toNatClampNeg) :: rest))) : W p l e R st m args below meth c H locs cells slots Q (F0 m pc ls (.int i :: .ref (ad 23) :: rest)) := va_iald C.1 C.2.1 C.2.2.2.2 hI.1 18 17 rfl rfl hi hdg kk
theorem q_st_M_keptTop (C : q_C p m c cc st args Ts own D (q_tM ca)) {i : Int32} {x : Int32} (hi : vp_in i 150) (e1 : a1 = q_ua a 23 i.toNatClampNeg x) (hI : q_I D A H0 H locs (q_wM h ad ca s a g)) (hdg : decode cc pc = .ok (.iastore, 1))
    (kk : ∀ (H1 : Heap) (locs1 : List Loc), q_I D A H0 H1 locs1 (q_wM h ad ca s a1 g) → W p l e R st m args below meth c H1 locs1 cells slots Q (F0 m (pc + 1) ls rest)) : W p l e R st m args below meth c H locs cells slots Q (F0 m pc ls (.int x :: .int i :: .ref (ad 23) :: rest)) := by
  subst e1
  exact va_iast C.1 C.2.1 C.2.2.2.2 hI.1 hI.2.1 hI.2.2 18 17 rfl rfl hi hdg (fun H1 locs1 hP hD hS => kk H1 locs1 ⟨hP, hD, hS⟩)
theorem q_ld_M_keptChain (C : q_C p m c cc st args Ts own D (q_tM ca)) {i : Int32} (hi : vp_in i 150) (hI : q_I D A H0 H locs (q_wM h ad ca s a g)) (hdg : decode cc pc = .ok (.iaload, 1))
    (kk : W p l e R st m args below meth c H locs cells slots Q (F0 m (pc + 1) ls (.int (a 24 i.toNatClampNeg) :: rest))) : W p l e R st m args below meth c H locs cells slots Q (F0 m pc ls (.int i :: .ref (ad 24) :: rest)) := va_iald C.1 C.2.1 C.2.2.2.2 hI.1 19 18 rfl rfl hi hdg kk
theorem q_st_M_keptChain (C : q_C p m c cc st args Ts own D (q_tM ca)) {i : Int32} {x : Int32} (hi : vp_in i 150) (e1 : a1 = q_ua a 24 i.toNatClampNeg x) (hI : q_I D A H0 H locs (q_wM h ad ca s a g)) (hdg : decode cc pc = .ok (.iastore, 1))
    (kk : ∀ (H1 : Heap) (locs1 : List Loc), q_I D A H0 H1 locs1 (q_wM h ad ca s a1 g) → W p l e R st m args below meth c H1 locs1 cells slots Q (F0 m (pc + 1) ls rest)) : W p l e R st m args below meth c H locs cells slots Q (F0 m pc ls (.int x :: .int i :: .ref (ad 24) :: rest)) := by
  subst e1
  exact va_iast C.1 C.2.1 C.2.2.2.2 hI.1 hI.2.1 hI.2.2 19 18 rfl rfl hi hdg (fun H1 locs1 hP hD hS => kk H1 locs1 ⟨hP, hD, hS⟩)
theorem q_ld_M_keptMarks (C : q_C p m c cc st args Ts own D (q_tM ca)) {i : Int32} (hi : vp_in i 150) (hI : q_I D A H0 H locs (q_wM h ad ca s a g)) (hdg : decode cc pc = .ok (.iaload, 1))
    (kk : W p l e R st m args below meth c H locs cells slots Q (F0 m (pc + 1) ls (.int (a 25 i.toNatClampNeg) :: rest))) : W p l e R st m args below meth c H locs cells slots Q (F0 m pc ls (.int i :: .ref (ad 25) :: rest)) := va_iald C.1 C.2.1 C.2.2.2.2 hI.1 20 19 rfl rfl hi hdg kk
theorem q_st_M_keptMarks (C : q_C p m c cc st args Ts own D (q_tM ca)) {i : Int32} {x : Int32} (hi : vp_in i 150) (e1 : a1 = q_ua a 25 i.toNatClampNeg x) (hI : q_I D A H0 H locs (q_wM h ad ca s a g)) (hdg : decode cc pc = .ok (.iastore, 1))
    (kk : ∀ (H1 : Heap) (locs1 : List Loc), q_I D A H0 H1 locs1 (q_wM h ad ca s a1 g) → W p l e R st m args below meth c H1 locs1 cells slots Q (F0 m (pc + 1) ls rest)) : W p l e R st m args below meth c H locs cells slots Q (F0 m pc ls (.int x :: .int i :: .ref (ad 25) :: rest)) := by
  subst e1
  exact va_iast C.1 C.2.1 C.2.2.2.2 hI.1 hI.2.1 hI.2.2 20 19 rfl rfl hi hdg (fun H1 locs1 hP hD hS => kk H1 locs1 ⟨hP, hD, hS⟩)
theorem q_ld_M_laterTop (C : q_C p m c cc st args Ts own D (q_tM ca)) {i : Int32} (hi : vp_in i 150) (hI : q_I D A H0 H locs (q_wM h ad ca s a g)) (hdg : decode cc pc = .ok (.iaload, 1))
    (kk : W p l e R st m args below meth c H locs cells slots Q (F0 m (pc + 1) ls (.int (a 26 i.toNatClampNeg) :: rest))) : W p l e R st m args below meth c H locs cells slots Q (F0 m pc ls (.int i :: .ref (ad 26) :: rest)) := va_iald C.1 C.2.1 C.2.2.2.2 hI.1 21 20 rfl rfl hi hdg kk
theorem q_st_M_laterTop (C : q_C p m c cc st args Ts own D (q_tM ca)) {i : Int32} {x : Int32} (hi : vp_in i 150) (e1 : a1 = q_ua a 26 i.toNatClampNeg x) (hI : q_I D A H0 H locs (q_wM h ad ca s a g)) (hdg : decode cc pc = .ok (.iastore, 1))
    (kk : ∀ (H1 : Heap) (locs1 : List Loc), q_I D A H0 H1 locs1 (q_wM h ad ca s a1 g) → W p l e R st m args below meth c H1 locs1 cells slots Q (F0 m (pc + 1) ls rest)) : W p l e R st m args below meth c H locs cells slots Q (F0 m pc ls (.int x :: .int i :: .ref (ad 26) :: rest)) := by
  subst e1
  exact va_iast C.1 C.2.1 C.2.2.2.2 hI.1 hI.2.1 hI.2.2 21 20 rfl rfl hi hdg (fun H1 locs1 hP hD hS => kk H1 locs1 ⟨hP, hD, hS⟩)
theorem q_ld_M_laterChain (C : q_C p m c cc st args Ts own D (q_tM ca)) {i : Int32} (hi : vp_in i 150) (hI : q_I D A H0 H locs (q_wM h ad ca s a g)) (hdg : decode cc pc = .ok (.iaload, 1))
    (kk : W p l e R st m args below meth c H locs cells slots Q (F0 m (pc + 1) ls (.int (a 27 i.toNatClampNeg) :: rest))) : W p l e R st m args below meth c H locs cells slots Q (F0 m pc ls (.int i :: .ref (ad 27) :: rest)) := va_iald C.1 C.2.1 C.2.2.2.2 hI.1 22 21 rfl rfl hi hdg kk
theorem q_st_M_laterChain (C : q_C p m c cc st args Ts own D (q_tM ca)) {i : Int32} {x : Int32} (hi : vp_in i 150) (e1 : a1 = q_ua a 27 i.toNatClampNeg x) (hI : q_I D A H0 H locs (q_wM h ad ca s a g)) (hdg : decode cc pc = .ok (.iastore, 1))
    (kk : ∀ (H1 : Heap) (locs1 : List Loc), q_I D A H0 H1 locs1 (q_wM h ad ca s a1 g) → W p l e R st m args below meth c H1 locs1 cells slots Q (F0 m (pc + 1) ls rest)) : W p l e R st m args below meth c H locs cells slots Q (F0 m pc ls (.int x :: .int i :: .ref (ad 27) :: rest)) := by
  subst e1
  exact va_iast C.1 C.2.1 C.2.2.2.2 hI.1 hI.2.1 hI.2.2 22 21 rfl rfl hi hdg (fun H1 locs1 hP hD hS => kk H1 locs1 ⟨hP, hD, hS⟩)
theorem q_ld_M_laterMarks (C : q_C p m c cc st args Ts own D (q_tM ca)) {i : Int32} (hi : vp_in i 150) (hI : q_I D A H0 H locs (q_wM h ad ca s a g)) (hdg : decode cc pc = .ok (.iaload, 1))
    (kk : W p l e R st m args below meth c H locs cells slots Q (F0 m (pc + 1) ls (.int (a 28 i.toNatClampNeg) :: rest))) : W p l e R st m args below meth c H locs cells slots Q (F0 m pc ls (.int i :: .ref (ad 28) :: rest)) := va_iald C.1 C.2.1 C.2.2.2.2 hI.1 23 22 rfl rfl hi hdg kk
theorem q_st_M_laterMarks (C : q_C p m c cc st args Ts own D (q_tM ca)) {i : Int32} {x : Int32} (hi : vp_in i 150) (e1 : a1 = q_ua a 28 i.toNatClampNeg x) (hI : q_I D A H0 H locs (q_wM h ad ca s a g)) (hdg : decode cc pc = .ok (.iastore, 1))
    (kk : ∀ (H1 : Heap) (locs1 : List Loc), q_I D A H0 H1 locs1 (q_wM h ad ca s a1 g) → W p l e R st m args below meth c H1 locs1 cells slots Q (F0 m (pc + 1) ls rest)) : W p l e R st m args below meth c H locs cells slots Q (F0 m pc ls (.int x :: .int i :: .ref (ad 28) :: rest)) := by
  subst e1
  exact va_iast C.1 C.2.1 C.2.2.2.2 hI.1 hI.2.1 hI.2.2 23 22 rfl rfl hi hdg (fun H1 locs1 hP hD hS => kk H1 locs1 ⟨hP, hD, hS⟩)
end QW

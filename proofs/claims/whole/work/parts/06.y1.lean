def f_X1_height (s : q_s) (a : q_a) (g : q_g) : Option (Int32 × q_S) :=
 q_ck (s 24) 3001 <|
 some (a 22 ((s 24).toNatClampNeg), s, a, g)
theorem e_X1_height : yX1_height.cls = RX1 ∧ yX1_height.cls ≠ "java/lang/invoke/MethodHandle" ∧ yX1_height.cls ≠ "java/lang/invoke/VarHandle" ∧ (parseMethodDescriptor yX1_height.desc).map (fun d => d.parameters.length) = some 0 := by decide +kernel
set_option maxHeartbeats 4000000 in
set_option maxRecDepth 100000 in
theorem c_X1_height {l : Launch} {D : va_G} {h : Nat} {ad : Nat → Nat} {ca : Nat → ClassId} {s s9 : q_s} {a a9 : q_a} {g g9 : q_g} {r9 : Int32} (hf : f_X1_height s a g = some (r9, s9, a9, g9)) : q_Mi l yX1_height wsX1_height ({ frames := 0, cells := 0, slots := 0, locals := 0 }) D (q_tY ca) (q_wY h ad ca) [.ref (ad 9)] s a g r9 s9 a9 g9 := by
  unfold f_X1_height at hf
  refine q_entI (cc := cX1_height) (maxL := 1) (ret := (some .int)) (by decide) rfl (Nat.le_of_ble_eq_true rfl) ?_
  intro p e st m args below meth c A ls C hr hlocks hml hA I hl
  have hl : lv_has ls 1 [(0, .ref (ad 9))] := hl
  have hinX1 : ∀ w ∈ wsX10, w ∈ wsX1_height := fun _ h => List.mem_cons_of_mem _ (List.mem_append_right _ h)
  have k19 : Cond.fieldLink RX1 19 "ReaderYard$Pile" "heights" "[I" ∈ wsX1_height := by decide +kernel
  have k26 : Cond.fieldLink RX1 26 "ReaderYard$Pile" "top" "I" ∈ wsX1_height := by decide +kernel
  refine lv_aload_n C.1 C.2.1 dX1_height_0 rfl (lv_at hl 0 rfl) ?_
  refine q_get_RX1_19 C hinX1 k19 I dX1_height_1 ?_
  refine lv_aload_n C.1 C.2.1 dX1_height_4 rfl (lv_at hl 0 rfl) ?_
  refine q_get_RX1_26 C hinX1 k26 I dX1_height_5 ?_
  obtain ⟨b1, hf⟩ := q_ck_some hf
  refine q_ld_Y_heights C b1 I dX1_height_8 ?_
  obtain ⟨rfl, rfl, rfl, rfl⟩ := q_some4 hf
  exact q_iret C hr hlocks I dX1_height_9
def f_X1_slotUnder_lb (F : q_s → q_a → q_g → Int32 → Int32 → Int32 → Option (Int32 × q_S)) (s : q_s) (a : q_a) (g : q_g) (x1 : Int32) (x2 : Int32) (x3 : Int32) : Option (Int32 × q_S) :=
 if x1 ≤ x3 then
  some (x2, s, a, g)
 else
  q_ck x2 3001 <|
   F s a g x1 (a 21 x2.toNatClampNeg) (x3 + 1)
def f_X1_slotUnder_lp (k : Nat) : q_s → q_a → q_g → Int32 → Int32 → Int32 → Option (Int32 × q_S) := match k with
  | 0 => fun _ _ _ _ _ _ => none
  | k + 1 => fun s a g x1 x2 x3 => f_X1_slotUnder_lb (f_X1_slotUnder_lp k) s a g x1 x2 x3
def f_X1_slotUnder (n : Nat) (s : q_s) (a : q_a) (g : q_g) (p1 : Int32) : Option (Int32 × q_S) :=
 f_X1_slotUnder_lp n s a g p1 (s 24) 0
theorem e_X1_slotUnder : yX1_slotUnder.cls = RX1 ∧ yX1_slotUnder.cls ≠ "java/lang/invoke/MethodHandle" ∧ yX1_slotUnder.cls ≠ "java/lang/invoke/VarHandle" ∧ (parseMethodDescriptor yX1_slotUnder.desc).map (fun d => d.parameters.length) = some 1 := by decide +kernel
set_option maxHeartbeats 4000000 in
set_option maxRecDepth 100000 in
theorem c_X1_slotUnder {l : Launch} {D : va_G} {h : Nat} {ad : Nat → Nat} {ca : Nat → ClassId} {n : Nat} {s s9 : q_s} {a a9 : q_a} {g g9 : q_g} {p1 : Int32} {r9 : Int32} (hf : f_X1_slotUnder n s a g p1 = some (r9, s9, a9, g9)) : q_Mi l yX1_slotUnder wsX1_slotUnder ({ frames := 0, cells := 0, slots := 0, locals := 0 }) D (q_tY ca) (q_wY h ad ca) [.ref (ad 9), .int p1] s a g r9 s9 a9 g9 := by
  unfold f_X1_slotUnder at hf
  refine q_entI (cc := cX1_slotUnder) (maxL := 4) (ret := (some .int)) (by decide) rfl (Nat.le_of_ble_eq_true rfl) ?_
  intro p e st m args below meth c A ls C hr hlocks hml hA I hl
  have hl : lv_has ls 4 [(0, .ref (ad 9)), (1, .int p1)] := hl
  have hinX1 : ∀ w ∈ wsX10, w ∈ wsX1_slotUnder := fun _ h => List.mem_cons_of_mem _ (List.mem_append_right _ h)
  have k15 : Cond.fieldLink RX1 15 "ReaderYard$Pile" "belows" "[I" ∈ wsX1_slotUnder := by decide +kernel
  have k26 : Cond.fieldLink RX1 26 "ReaderYard$Pile" "top" "I" ∈ wsX1_slotUnder := by decide +kernel
  have lp : ∀ (k : Nat) (s : q_s) (a : q_a) (g : q_g) (x1 : Int32) (x2 : Int32) (x3 : Int32) (H : Heap) (locs : List Loc) (ls : Array Slot), f_X1_slotUnder_lp k s a g x1 x2 x3 = some (r9, s9, a9, g9) → q_I D A st.heap H locs (q_wY h ad ca s a g) → lv_has ls 4 [(0, .ref (ad 9)), (1, .int x1), (2, .int x2), (3, .int x3)] → W p l e ({ frames := 0, cells := 0, slots := 0, locals := 0 }) st m args below meth c H locs 0 0 (MQ below (va_Qi (fun (r2 : Int32) (u : q_S) => r2 = r9 ∧ u = (s9, a9, g9)) (q_B D (q_tY ca) (q_wY h ad ca) A) A) args st 0 0 A) (F0 m 7 ls []) := by
    intro k
    induction k with
    | zero => intro s a g x1 x2 x3 H locs ls hf; exact absurd hf (by simp [f_X1_slotUnder_lp])
    | succ k ih =>
      intro s a g x1 x2 x3 H locs ls hf I hl
      have hf : f_X1_slotUnder_lb (f_X1_slotUnder_lp k) s a g x1 x2 x3 = some (r9, s9, a9, g9) := hf
      unfold f_X1_slotUnder_lb at hf
      refine lv_iload_n C.1 C.2.1 dX1_slotUnder_7 rfl (lv_at hl 3 rfl) ?_
      refine lv_iload_n C.1 C.2.1 dX1_slotUnder_8 rfl (lv_at hl 1 rfl) ?_
      refine lv_icmp_ge (tgt := 25) C.1 C.2.1 dX1_slotUnder_9 (by decide) (fun c1 => ?_) (fun c1 => ?_)
      · have hf := q_if_t hf c1
        refine lv_iload_n C.1 C.2.1 dX1_slotUnder_25 rfl (lv_at hl 2 rfl) ?_
        obtain ⟨rfl, rfl, rfl, rfl⟩ := q_some4 hf
        exact q_iret C hr hlocks I dX1_slotUnder_26
      · have hf := q_if_f hf c1
        refine lv_aload_n C.1 C.2.1 dX1_slotUnder_12 rfl (lv_at hl 0 rfl) ?_
        refine q_get_RX1_15 C hinX1 k15 I dX1_slotUnder_13 ?_
        refine lv_iload_n C.1 C.2.1 dX1_slotUnder_16 rfl (lv_at hl 2 rfl) ?_
        obtain ⟨b2, hf⟩ := q_ck_some hf
        refine q_ld_Y_belows C b2 I dX1_slotUnder_17 ?_
        refine lv_istore_n (lv' := [(2, .int (a 21 x2.toNatClampNeg)), (0, .ref (ad 9)), (1, .int x1), (3, .int x3)]) C.1 C.2.1 dX1_slotUnder_18 rfl hl (by decide) rfl (fun ls hl => ?_)
        refine lv_iinc (v := x3 + 1) (lv' := [(3, .int (x3 + 1)), (2, .int (a 21 x2.toNatClampNeg)), (0, .ref (ad 9)), (1, .int x1)]) C.1 C.2.1 dX1_slotUnder_19 hl (k := 3) rfl rfl (by decide) rfl (fun ls hl => ?_)
        refine lv_goto (tgt := 7) C.1 C.2.1 dX1_slotUnder_22 (by decide) ?_
        exact ih _ _ _ _ _ _ _ _ _ hf I (lv_sub hl [2, 3, 1, 0] rfl)
  refine lv_aload_n C.1 C.2.1 dX1_slotUnder_0 rfl (lv_at hl 0 rfl) ?_
  refine q_get_RX1_26 C hinX1 k26 I dX1_slotUnder_1 ?_
  refine lv_istore_n (lv' := [(2, .int (s 24)), (0, .ref (ad 9)), (1, .int p1)]) C.1 C.2.1 dX1_slotUnder_4 rfl hl (by decide) rfl (fun ls hl => ?_)
  refine lv_iconst (v := 0) C.1 C.2.1 dX1_slotUnder_5 (by decide) ?_
  refine lv_istore_n (lv' := [(3, .int 0), (2, .int (s 24)), (0, .ref (ad 9)), (1, .int p1)]) C.1 C.2.1 dX1_slotUnder_6 rfl hl (by decide) rfl (fun ls hl => ?_)
  exact lp n _ _ _ _ _ _ _ _ _ hf I (lv_sub hl [2, 3, 1, 0] rfl)
def f_X1_numberUnder (n : Nat) (s : q_s) (a : q_a) (g : q_g) (p1 : Int32) : Option (Int64 × q_S) :=
 if p1 < 0 then
  some (0, s, a, g)
 else
  q_ci (f_X1_height s a g) fun r6 s2 a3 g4 =>
  if p1 < r6 then
   q_ci (f_X1_slotUnder n s2 a3 g4 p1) fun r12 s8 a9 g10 =>
   q_ck r12 3001 <|
   some (g10 r12.toNatClampNeg, s8, a9, g10)
  else
   some (0, s2, a3, g4)
theorem e_X1_numberUnder : yX1_numberUnder.cls = RX1 ∧ yX1_numberUnder.cls ≠ "java/lang/invoke/MethodHandle" ∧ yX1_numberUnder.cls ≠ "java/lang/invoke/VarHandle" ∧ (parseMethodDescriptor yX1_numberUnder.desc).map (fun d => d.parameters.length) = some 1 := by decide +kernel
set_option maxHeartbeats 4000000 in
set_option maxRecDepth 100000 in
theorem c_X1_numberUnder {l : Launch} {D : va_G} {h : Nat} {ad : Nat → Nat} {ca : Nat → ClassId} {n : Nat} {s s9 : q_s} {a a9 : q_a} {g g9 : q_g} {p1 : Int32} {r9 : Int64} (hf : f_X1_numberUnder n s a g p1 = some (r9, s9, a9, g9)) : q_Ml l yX1_numberUnder wsX1_numberUnder ({ frames := 1, cells := 0, slots := 0, locals := 23 }) D (q_tY ca) (q_wY h ad ca) [.ref (ad 9), .int p1] s a g r9 s9 a9 g9 := by
  unfold f_X1_numberUnder at hf
  refine q_entL (cc := cX1_numberUnder) (maxL := 2) (ret := (some .long)) (by decide) rfl (Nat.le_of_ble_eq_true rfl) ?_
  intro p e st m args below meth c A ls C hr hlocks hml hA I hl
  have hl : lv_has ls 2 [(0, .ref (ad 9)), (1, .int p1)] := hl
  have hinX1 : ∀ w ∈ wsX10, w ∈ wsX1_numberUnder := fun _ h => List.mem_cons_of_mem _ (List.mem_append_right _ h)
  have k9 : Cond.fieldLink RX1 9 "ReaderYard$Pile" "values" "[J" ∈ wsX1_numberUnder := by decide +kernel
  refine lv_iload_n C.1 C.2.1 dX1_numberUnder_0 rfl (lv_at hl 1 rfl) ?_
  refine lv_if_lt (tgt := 12) C.1 C.2.1 dX1_numberUnder_1 (by decide) (fun c1 => ?_) (fun c1 => ?_)
  · have hf := q_if_t hf c1
    refine lv_lconst (v := 0) C.1 C.2.1 dX1_numberUnder_12 (by decide) ?_
    refine lv_goto (tgt := 26) C.1 C.2.1 dX1_numberUnder_13 (by decide) ?_
    obtain ⟨rfl, rfl, rfl, rfl⟩ := q_some4 hf
    exact q_lret C hr hlocks I dX1_numberUnder_26
  · have hf := q_if_f hf c1
    refine lv_iload_n C.1 C.2.1 dX1_numberUnder_4 rfl (lv_at hl 1 rfl) ?_
    refine lv_aload_n C.1 C.2.1 dX1_numberUnder_5 rfl (lv_at hl 0 rfl) ?_
    obtain ⟨r6, s2, a3, g4, h5, hf⟩ := q_ci_some hf
    refine q_callVi (As := []) (rest := [.int p1]) C hml (c_X1_height h5) (cwV 0 C.2.2.2.1 gX1_numberUnder_X1_height rfl rfl rfl e_X1_height ⟨Nat.le_of_ble_eq_true rfl, Nat.le_of_ble_eq_true rfl⟩) I hA (q0 := 1) (ci := 1) rfl rfl rfl rfl hl.1 rfl (Nat.le_of_ble_eq_true rfl) dX1_numberUnder_6 ⟨Nat.zero_le _, Nat.zero_le _⟩ (fun H locs I => ?_)
    refine lv_icmp_lt (tgt := 16) C.1 C.2.1 dX1_numberUnder_9 (by decide) (fun c7 => ?_) (fun c7 => ?_)
    · have hf := q_if_t hf c7
      refine lv_aload_n C.1 C.2.1 dX1_numberUnder_16 rfl (lv_at hl 0 rfl) ?_
      refine q_get_RX1_9 C hinX1 k9 I dX1_numberUnder_17 ?_
      refine lv_aload_n C.1 C.2.1 dX1_numberUnder_20 rfl (lv_at hl 0 rfl) ?_
      refine lv_iload_n C.1 C.2.1 dX1_numberUnder_21 rfl (lv_at hl 1 rfl) ?_
      obtain ⟨r12, s8, a9, g10, h11, hf⟩ := q_ci_some hf
      refine q_callVi (As := [.int p1]) (rest := [.ref (ad 20)]) C hml (c_X1_slotUnder h11) (cwV 1 C.2.2.2.1 gX1_numberUnder_X1_slotUnder rfl rfl rfl e_X1_slotUnder ⟨Nat.le_of_ble_eq_true rfl, Nat.le_of_ble_eq_true rfl⟩) I hA (q0 := 1) (ci := 1) rfl rfl rfl rfl hl.1 rfl (Nat.le_of_ble_eq_true rfl) dX1_numberUnder_22 ⟨Nat.zero_le _, Nat.zero_le _⟩ (fun H locs I => ?_)
      obtain ⟨b13, hf⟩ := q_ck_some hf
      refine q_ld_Y_values C b13 I dX1_numberUnder_25 ?_
      obtain ⟨rfl, rfl, rfl, rfl⟩ := q_some4 hf
      exact q_lret C hr hlocks I dX1_numberUnder_26
    · have hf := q_if_f hf c7
      refine lv_lconst (v := 0) C.1 C.2.1 dX1_numberUnder_12 (by decide) ?_
      refine lv_goto (tgt := 26) C.1 C.2.1 dX1_numberUnder_13 (by decide) ?_
      obtain ⟨rfl, rfl, rfl, rfl⟩ := q_some4 hf
      exact q_lret C hr hlocks I dX1_numberUnder_26
def f_X1_makeEmpty (s : q_s) (a : q_a) (g : q_g) : Option q_S :=
 q_bd (q_us s 23 0) fun s1 =>
 q_bd (q_us s1 24 0) fun s3 =>
 some (s3, a, g)
theorem e_X1_makeEmpty : yX1_makeEmpty.cls = RX1 ∧ yX1_makeEmpty.cls ≠ "java/lang/invoke/MethodHandle" ∧ yX1_makeEmpty.cls ≠ "java/lang/invoke/VarHandle" ∧ (parseMethodDescriptor yX1_makeEmpty.desc).map (fun d => d.parameters.length) = some 0 := by decide +kernel
set_option maxHeartbeats 4000000 in
set_option maxRecDepth 100000 in
theorem c_X1_makeEmpty {l : Launch} {D : va_G} {h : Nat} {ad : Nat → Nat} {ca : Nat → ClassId} {s s9 : q_s} {a a9 : q_a} {g g9 : q_g} (hf : f_X1_makeEmpty s a g = some (s9, a9, g9)) : q_Mv l yX1_makeEmpty wsX1_makeEmpty ({ frames := 0, cells := 0, slots := 0, locals := 0 }) D (q_tY ca) (q_wY h ad ca) [.ref (ad 9)] s a g s9 a9 g9 := by
  unfold f_X1_makeEmpty at hf
  refine q_entV (cc := cX1_makeEmpty) (maxL := 1) (ret := none) (by decide) rfl (Nat.le_of_ble_eq_true rfl) ?_
  intro p e st m args below meth c A ls C hr hlocks hml hA I hl
  have hl : lv_has ls 1 [(0, .ref (ad 9))] := hl
  have hinX1 : ∀ w ∈ wsX10, w ∈ wsX1_makeEmpty := fun _ h => List.mem_cons_of_mem _ (List.mem_append_right _ h)
  have k22 : Cond.fieldLink RX1 22 "ReaderYard$Pile" "used" "I" ∈ wsX1_makeEmpty := by decide +kernel
  have k26 : Cond.fieldLink RX1 26 "ReaderYard$Pile" "top" "I" ∈ wsX1_makeEmpty := by decide +kernel
  refine lv_aload_n C.1 C.2.1 dX1_makeEmpty_0 rfl (lv_at hl 0 rfl) ?_
  refine lv_iconst (v := 0) C.1 C.2.1 dX1_makeEmpty_1 (by decide) ?_
  obtain ⟨s1, e2, hf⟩ := q_bd_some hf
  refine q_put_RX1_22 C hinX1 k22 e2 I dX1_makeEmpty_2 (fun H locs I => ?_)
  refine lv_aload_n C.1 C.2.1 dX1_makeEmpty_5 rfl (lv_at hl 0 rfl) ?_
  refine lv_iconst (v := 0) C.1 C.2.1 dX1_makeEmpty_6 (by decide) ?_
  obtain ⟨s3, e4, hf⟩ := q_bd_some hf
  refine q_put_RX1_26 C hinX1 k26 e4 I dX1_makeEmpty_7 (fun H locs I => ?_)
  obtain ⟨rfl, rfl, rfl⟩ := q_some3 hf
  exact q_vret C hr hlocks I dX1_makeEmpty_10
def f_X1_lay (n : Nat) (s : q_s) (a : q_a) (g : q_g) (p1 : Int64) (p2 : Int32) : Option q_S :=
 if s 23 < 3000 then
  q_ci (f_X1_slotUnder n s a g p2) fun r6 s2 a3 g4 =>
  q_bd (q_us s2 23 ((s2 23) + 1)) fun s7 =>
  q_ck (s7 23) 3001 <|
  q_bd (vp_updL g4 ((s7 23).toNatClampNeg) p1) fun g11 =>
  q_ck (s7 23) 3001 <|
  q_bd (q_ua a3 21 ((s7 23).toNatClampNeg) r6) fun a14 =>
  q_ck r6 3001 <|
  q_ck (s7 23) 3001 <|
  q_bd (q_ua a14 22 ((s7 23).toNatClampNeg) ((a14 22 r6.toNatClampNeg) + 1)) fun a18 =>
  q_bd (q_us s7 24 (s7 23)) fun s19 =>
  some (s19, a18, g11)
 else
  some (s, a, g)
theorem e_X1_lay : yX1_lay.cls = RX1 ∧ yX1_lay.cls ≠ "java/lang/invoke/MethodHandle" ∧ yX1_lay.cls ≠ "java/lang/invoke/VarHandle" ∧ (parseMethodDescriptor yX1_lay.desc).map (fun d => d.parameters.length) = some 2 := by decide +kernel
set_option maxHeartbeats 4000000 in
set_option maxRecDepth 100000 in
theorem c_X1_lay {l : Launch} {D : va_G} {h : Nat} {ad : Nat → Nat} {ca : Nat → ClassId} {n : Nat} {s s9 : q_s} {a a9 : q_a} {g g9 : q_g} {p1 : Int64} {p2 : Int32} (hf : f_X1_lay n s a g p1 p2 = some (s9, a9, g9)) : q_Mv l yX1_lay wsX1_lay ({ frames := 1, cells := 0, slots := 0, locals := 23 }) D (q_tY ca) (q_wY h ad ca) [.ref (ad 9), .long p1, .int p2] s a g s9 a9 g9 := by
  unfold f_X1_lay at hf
  refine q_entV (cc := cX1_lay) (maxL := 5) (ret := none) (by decide) rfl (Nat.le_of_ble_eq_true rfl) ?_
  intro p e st m args below meth c A ls C hr hlocks hml hA I hl
  have hl : lv_has ls 5 [(0, .ref (ad 9)), (1, .long p1), (3, .int p2)] := hl
  have hinX1 : ∀ w ∈ wsX10, w ∈ wsX1_lay := fun _ h => List.mem_cons_of_mem _ (List.mem_append_right _ h)
  have k22 : Cond.fieldLink RX1 22 "ReaderYard$Pile" "used" "I" ∈ wsX1_lay := by decide +kernel
  have k9 : Cond.fieldLink RX1 9 "ReaderYard$Pile" "values" "[J" ∈ wsX1_lay := by decide +kernel
  have k15 : Cond.fieldLink RX1 15 "ReaderYard$Pile" "belows" "[I" ∈ wsX1_lay := by decide +kernel
  have k19 : Cond.fieldLink RX1 19 "ReaderYard$Pile" "heights" "[I" ∈ wsX1_lay := by decide +kernel
  have k26 : Cond.fieldLink RX1 26 "ReaderYard$Pile" "top" "I" ∈ wsX1_lay := by decide +kernel
  refine lv_aload_n C.1 C.2.1 dX1_lay_0 rfl (lv_at hl 0 rfl) ?_
  refine q_get_RX1_22 C hinX1 k22 I dX1_lay_1 ?_
  refine lv_sipush (v := 3000) C.1 C.2.1 dX1_lay_4 (by decide) ?_
  refine lv_icmp_lt (tgt := 11) C.1 C.2.1 dX1_lay_7 (by decide) (fun c1 => ?_) (fun c1 => ?_)
  · have hf := q_if_t hf c1
    refine lv_aload_n C.1 C.2.1 dX1_lay_11 rfl (lv_at hl 0 rfl) ?_
    refine lv_iload_n C.1 C.2.1 dX1_lay_12 rfl (lv_at hl 2 rfl) ?_
    obtain ⟨r6, s2, a3, g4, h5, hf⟩ := q_ci_some hf
    refine q_callVi (As := [.int p2]) (rest := []) C hml (c_X1_slotUnder h5) (cwV 1 C.2.2.2.1 gX1_lay_X1_slotUnder rfl rfl rfl e_X1_slotUnder ⟨Nat.le_of_ble_eq_true rfl, Nat.le_of_ble_eq_true rfl⟩) I hA (q0 := 1) (ci := 1) rfl rfl rfl rfl hl.1 rfl (Nat.le_of_ble_eq_true rfl) dX1_lay_13 ⟨Nat.zero_le _, Nat.zero_le _⟩ (fun H locs I => ?_)
    refine lv_istore (lv' := [(4, .int r6), (0, .ref (ad 9)), (1, .long p1), (3, .int p2)]) C.1 C.2.1 dX1_lay_16 hl (by decide) rfl (fun ls hl => ?_)
    refine lv_aload_n C.1 C.2.1 dX1_lay_18 rfl (lv_at hl 1 rfl) ?_
    refine lv_dup C.1 C.2.1 dX1_lay_19 rfl ?_
    refine q_get_RX1_22 C hinX1 k22 I dX1_lay_20 ?_
    refine lv_iconst (v := 1) C.1 C.2.1 dX1_lay_23 (by decide) ?_
    refine lv_iadd C.1 C.2.1 dX1_lay_24 ?_
    obtain ⟨s7, e8, hf⟩ := q_bd_some hf
    refine q_put_RX1_22 C hinX1 k22 e8 I dX1_lay_25 (fun H locs I => ?_)
    refine lv_aload_n C.1 C.2.1 dX1_lay_28 rfl (lv_at hl 1 rfl) ?_
    refine q_get_RX1_9 C hinX1 k9 I dX1_lay_29 ?_
    refine lv_aload_n C.1 C.2.1 dX1_lay_32 rfl (lv_at hl 1 rfl) ?_
    refine q_get_RX1_22 C hinX1 k22 I dX1_lay_33 ?_
    refine lv_lload_n C.1 C.2.1 dX1_lay_36 rfl (lv_at hl 2 rfl) ?_
    obtain ⟨b9, hf⟩ := q_ck_some hf
    obtain ⟨g11, e10, hf⟩ := q_bd_some hf
    refine q_st_Y_values C b9 e10 I dX1_lay_37 (fun H locs I => ?_)
    refine lv_aload_n C.1 C.2.1 dX1_lay_38 rfl (lv_at hl 1 rfl) ?_
    refine q_get_RX1_15 C hinX1 k15 I dX1_lay_39 ?_
    refine lv_aload_n C.1 C.2.1 dX1_lay_42 rfl (lv_at hl 1 rfl) ?_
    refine q_get_RX1_22 C hinX1 k22 I dX1_lay_43 ?_
    refine lv_iload C.1 C.2.1 dX1_lay_46 (lv_at hl 0 rfl) ?_
    obtain ⟨b12, hf⟩ := q_ck_some hf
    obtain ⟨a14, e13, hf⟩ := q_bd_some hf
    refine q_st_Y_belows C b12 e13 I dX1_lay_48 (fun H locs I => ?_)
    refine lv_aload_n C.1 C.2.1 dX1_lay_49 rfl (lv_at hl 1 rfl) ?_
    refine q_get_RX1_19 C hinX1 k19 I dX1_lay_50 ?_
    refine lv_aload_n C.1 C.2.1 dX1_lay_53 rfl (lv_at hl 1 rfl) ?_
    refine q_get_RX1_22 C hinX1 k22 I dX1_lay_54 ?_
    refine lv_aload_n C.1 C.2.1 dX1_lay_57 rfl (lv_at hl 1 rfl) ?_
    refine q_get_RX1_19 C hinX1 k19 I dX1_lay_58 ?_
    refine lv_iload C.1 C.2.1 dX1_lay_61 (lv_at hl 0 rfl) ?_
    obtain ⟨b15, hf⟩ := q_ck_some hf
    refine q_ld_Y_heights C b15 I dX1_lay_63 ?_
    refine lv_iconst (v := 1) C.1 C.2.1 dX1_lay_64 (by decide) ?_
    refine lv_iadd C.1 C.2.1 dX1_lay_65 ?_
    obtain ⟨b16, hf⟩ := q_ck_some hf
    obtain ⟨a18, e17, hf⟩ := q_bd_some hf
    refine q_st_Y_heights C b16 e17 I dX1_lay_66 (fun H locs I => ?_)
    refine lv_aload_n C.1 C.2.1 dX1_lay_67 rfl (lv_at hl 1 rfl) ?_
    refine lv_aload_n C.1 C.2.1 dX1_lay_68 rfl (lv_at hl 1 rfl) ?_
    refine q_get_RX1_22 C hinX1 k22 I dX1_lay_69 ?_
    obtain ⟨s19, e20, hf⟩ := q_bd_some hf
    refine q_put_RX1_26 C hinX1 k26 e20 I dX1_lay_72 (fun H locs I => ?_)
    obtain ⟨rfl, rfl, rfl⟩ := q_some3 hf
    exact q_vret C hr hlocks I dX1_lay_75
  · have hf := q_if_f hf c1
    obtain ⟨rfl, rfl, rfl⟩ := q_some3 hf
    exact q_vret C hr hlocks I dX1_lay_10
def f_X0_add (s : q_s) (a : q_a) (g : q_g) (p1 : Int32) (p2 : Int32) (p3 : Int32) : Option q_S :=
 if s 33 < 3000 then
  q_ck (s 33) 3000 <|
  q_bd (q_ua a 30 ((s 33).toNatClampNeg) p1) fun a4 =>
  q_ck (s 33) 3000 <|
  q_bd (q_ua a4 31 ((s 33).toNatClampNeg) p2) fun a7 =>
  q_ck (s 33) 3000 <|
  q_bd (q_ua a7 32 ((s 33).toNatClampNeg) p3) fun a10 =>
  q_bd (q_us s 33 ((s 33) + 1)) fun s11 =>
  some (s11, a10, g)
 else
  some (s, a, g)
theorem e_X0_add : yX0_add.cls = RX0 ∧ yX0_add.cls ≠ "java/lang/invoke/MethodHandle" ∧ yX0_add.cls ≠ "java/lang/invoke/VarHandle" ∧ (parseMethodDescriptor yX0_add.desc).map (fun d => d.parameters.length) = some 3 := by decide +kernel
set_option maxHeartbeats 4000000 in
set_option maxRecDepth 100000 in
theorem c_X0_add {l : Launch} {D : va_G} {h : Nat} {ad : Nat → Nat} {ca : Nat → ClassId} {s s9 : q_s} {a a9 : q_a} {g g9 : q_g} {p1 : Int32} {p2 : Int32} {p3 : Int32} (hf : f_X0_add s a g p1 p2 p3 = some (s9, a9, g9)) : q_Mv l yX0_add wsX0_add ({ frames := 0, cells := 0, slots := 0, locals := 0 }) D (q_tY ca) (q_wY h ad ca) [.ref (ad 10), .int p1, .int p2, .int p3] s a g s9 a9 g9 := by
  unfold f_X0_add at hf
  refine q_entV (cc := cX0_add) (maxL := 4) (ret := none) (by decide) rfl (Nat.le_of_ble_eq_true rfl) ?_
  intro p e st m args below meth c A ls C hr hlocks hml hA I hl
  have hl : lv_has ls 4 [(0, .ref (ad 10)), (1, .int p1), (2, .int p2), (3, .int p3)] := hl
  have hinX0 : ∀ w ∈ wsX00, w ∈ wsX0_add := fun _ h => List.mem_cons_of_mem _ (List.mem_append_right _ h)
  have k21 : Cond.fieldLink RX0 21 "ReaderYard$Marks" "size" "I" ∈ wsX0_add := by decide +kernel
  have k9 : Cond.fieldLink RX0 9 "ReaderYard$Marks" "labels" "[I" ∈ wsX0_add := by decide +kernel
  have k15 : Cond.fieldLink RX0 15 "ReaderYard$Marks" "froms" "[I" ∈ wsX0_add := by decide +kernel
  have k18 : Cond.fieldLink RX0 18 "ReaderYard$Marks" "tos" "[I" ∈ wsX0_add := by decide +kernel
  refine lv_aload_n C.1 C.2.1 dX0_add_0 rfl (lv_at hl 0 rfl) ?_
  refine q_get_RX0_21 C hinX0 k21 I dX0_add_1 ?_
  refine lv_sipush (v := 3000) C.1 C.2.1 dX0_add_4 (by decide) ?_
  refine lv_icmp_lt (tgt := 11) C.1 C.2.1 dX0_add_7 (by decide) (fun c1 => ?_) (fun c1 => ?_)
  · have hf := q_if_t hf c1
    refine lv_aload_n C.1 C.2.1 dX0_add_11 rfl (lv_at hl 0 rfl) ?_
    refine q_get_RX0_9 C hinX0 k9 I dX0_add_12 ?_
    refine lv_aload_n C.1 C.2.1 dX0_add_15 rfl (lv_at hl 0 rfl) ?_
    refine q_get_RX0_21 C hinX0 k21 I dX0_add_16 ?_
    refine lv_iload_n C.1 C.2.1 dX0_add_19 rfl (lv_at hl 1 rfl) ?_
    obtain ⟨b2, hf⟩ := q_ck_some hf
    obtain ⟨a4, e3, hf⟩ := q_bd_some hf
    refine q_st_Y_labels C b2 e3 I dX0_add_20 (fun H locs I => ?_)
    refine lv_aload_n C.1 C.2.1 dX0_add_21 rfl (lv_at hl 0 rfl) ?_
    refine q_get_RX0_15 C hinX0 k15 I dX0_add_22 ?_
    refine lv_aload_n C.1 C.2.1 dX0_add_25 rfl (lv_at hl 0 rfl) ?_
    refine q_get_RX0_21 C hinX0 k21 I dX0_add_26 ?_
    refine lv_iload_n C.1 C.2.1 dX0_add_29 rfl (lv_at hl 2 rfl) ?_
    obtain ⟨b5, hf⟩ := q_ck_some hf
    obtain ⟨a7, e6, hf⟩ := q_bd_some hf
    refine q_st_Y_froms C b5 e6 I dX0_add_30 (fun H locs I => ?_)
    refine lv_aload_n C.1 C.2.1 dX0_add_31 rfl (lv_at hl 0 rfl) ?_
    refine q_get_RX0_18 C hinX0 k18 I dX0_add_32 ?_
    refine lv_aload_n C.1 C.2.1 dX0_add_35 rfl (lv_at hl 0 rfl) ?_
    refine q_get_RX0_21 C hinX0 k21 I dX0_add_36 ?_
    refine lv_iload_n C.1 C.2.1 dX0_add_39 rfl (lv_at hl 3 rfl) ?_
    obtain ⟨b8, hf⟩ := q_ck_some hf
    obtain ⟨a10, e9, hf⟩ := q_bd_some hf
    refine q_st_Y_tos C b8 e9 I dX0_add_40 (fun H locs I => ?_)
    refine lv_aload_n C.1 C.2.1 dX0_add_41 rfl (lv_at hl 0 rfl) ?_
    refine lv_dup C.1 C.2.1 dX0_add_42 rfl ?_
    refine q_get_RX0_21 C hinX0 k21 I dX0_add_43 ?_
    refine lv_iconst (v := 1) C.1 C.2.1 dX0_add_46 (by decide) ?_
    refine lv_iadd C.1 C.2.1 dX0_add_47 ?_
    obtain ⟨s11, e12, hf⟩ := q_bd_some hf
    refine q_put_RX0_21 C hinX0 k21 e12 I dX0_add_48 (fun H locs I => ?_)
    obtain ⟨rfl, rfl, rfl⟩ := q_some3 hf
    exact q_vret C hr hlocks I dX0_add_51
  · have hf := q_if_f hf c1
    obtain ⟨rfl, rfl, rfl⟩ := q_some3 hf
    exact q_vret C hr hlocks I dX0_add_10
def f_X2_isReader (s : q_s) (a : q_a) (g : q_g) (p1 : Int32) : Option (Int32 × q_S) :=
 if p1 < 0 then
  some (0, s, a, g)
 else
  if s 6 ≤ p1 then
   some (0, s, a, g)
  else
   some (1, s, a, g)
theorem z_X2_isReader {s s1 : q_s} {a a1 : q_a} {g g1 : q_g} {p1 : Int32} {r : Int32} (h : f_X2_isReader s a g p1 = some (r, s1, a1, g1)) : r = 0 ∨ r = 1 := by
  unfold f_X2_isReader at h
  repeat' split at h
  all_goals (obtain ⟨rfl, _⟩ := q_some4 h; first | exact Or.inl rfl | exact Or.inr rfl)
theorem e_X2_isReader : yX2_isReader.cls = RX2 ∧ yX2_isReader.cls ≠ "java/lang/invoke/MethodHandle" ∧ yX2_isReader.cls ≠ "java/lang/invoke/VarHandle" ∧ (parseMethodDescriptor yX2_isReader.desc).map (fun d => d.parameters.length) = some 1 := by decide +kernel
set_option maxHeartbeats 4000000 in
set_option maxRecDepth 100000 in
theorem c_X2_isReader {l : Launch} {D : va_G} {h : Nat} {ad : Nat → Nat} {ca : Nat → ClassId} {s s9 : q_s} {a a9 : q_a} {g g9 : q_g} {p1 : Int32} {r9 : Int32} (hf : f_X2_isReader s a g p1 = some (r9, s9, a9, g9)) : q_Mi l yX2_isReader wsX2_isReader ({ frames := 0, cells := 0, slots := 0, locals := 0 }) D (q_tY ca) (q_wY h ad ca) [.ref h, .int p1] s a g r9 s9 a9 g9 := by
  unfold f_X2_isReader at hf
  refine q_entI (cc := cX2_isReader) (maxL := 2) (ret := (some .boolean)) (by decide) rfl (Nat.le_of_ble_eq_true rfl) ?_
  intro p e st m args below meth c A ls C hr hlocks hml hA I hl
  have hl : lv_has ls 2 [(0, .ref h), (1, .int p1)] := hl
  have hinX2 : ∀ w ∈ wsX20, w ∈ wsX2_isReader := fun _ h => List.mem_cons_of_mem _ (List.mem_append_right _ h)
  have k70 : Cond.fieldLink RX2 70 "ReaderYard" "readerCount" "I" ∈ wsX2_isReader := by decide +kernel
  refine lv_iload_n C.1 C.2.1 dX2_isReader_0 rfl (lv_at hl 1 rfl) ?_
  refine lv_if_lt (tgt := 16) C.1 C.2.1 dX2_isReader_1 (by decide) (fun c1 => ?_) (fun c1 => ?_)
  · have hf := q_if_t hf c1
    refine lv_iconst (v := 0) C.1 C.2.1 dX2_isReader_16 (by decide) ?_
    obtain ⟨rfl, rfl, rfl, rfl⟩ := q_some4 hf
    exact q_zret C hr rfl hlocks I dX2_isReader_17
  · have hf := q_if_f hf c1
    refine lv_iload_n C.1 C.2.1 dX2_isReader_4 rfl (lv_at hl 1 rfl) ?_
    refine lv_aload_n C.1 C.2.1 dX2_isReader_5 rfl (lv_at hl 0 rfl) ?_
    refine q_get_RX2_70 C hinX2 k70 I dX2_isReader_6 ?_
    refine lv_icmp_ge (tgt := 16) C.1 C.2.1 dX2_isReader_9 (by decide) (fun c2 => ?_) (fun c2 => ?_)
    · have hf := q_if_t hf c2
      refine lv_iconst (v := 0) C.1 C.2.1 dX2_isReader_16 (by decide) ?_
      obtain ⟨rfl, rfl, rfl, rfl⟩ := q_some4 hf
      exact q_zret C hr rfl hlocks I dX2_isReader_17
    · have hf := q_if_f hf c2
      refine lv_iconst (v := 1) C.1 C.2.1 dX2_isReader_12 (by decide) ?_
      refine lv_goto (tgt := 17) C.1 C.2.1 dX2_isReader_13 (by decide) ?_
      obtain ⟨rfl, rfl, rfl, rfl⟩ := q_some4 hf
      exact q_zret C hr rfl hlocks I dX2_isReader_17
def f_X2_isName (s : q_s) (a : q_a) (g : q_g) (p1 : Int32) : Option (Int32 × q_S) :=
 if p1 < 0 then
  some (0, s, a, g)
 else
  if 10 ≤ p1 then
   some (0, s, a, g)
  else
   some (1, s, a, g)
theorem z_X2_isName {s s1 : q_s} {a a1 : q_a} {g g1 : q_g} {p1 : Int32} {r : Int32} (h : f_X2_isName s a g p1 = some (r, s1, a1, g1)) : r = 0 ∨ r = 1 := by
  unfold f_X2_isName at h
  repeat' split at h
  all_goals (obtain ⟨rfl, _⟩ := q_some4 h; first | exact Or.inl rfl | exact Or.inr rfl)
theorem e_X2_isName : yX2_isName.cls ≠ "java/lang/invoke/MethodHandle" ∧ yX2_isName.cls ≠ "java/lang/invoke/VarHandle" ∧ (parseMethodDescriptor yX2_isName.desc).map (fun d => d.parameters.length) = some 1 := by decide +kernel
set_option maxHeartbeats 4000000 in
set_option maxRecDepth 100000 in
theorem c_X2_isName {l : Launch} {D : va_G} {h : Nat} {ad : Nat → Nat} {ca : Nat → ClassId} {s s9 : q_s} {a a9 : q_a} {g g9 : q_g} {p1 : Int32} {r9 : Int32} (hf : f_X2_isName s a g p1 = some (r9, s9, a9, g9)) : q_Mi l yX2_isName wsX2_isName ({ frames := 0, cells := 0, slots := 0, locals := 0 }) D (q_tY ca) (q_wY h ad ca) [.int p1] s a g r9 s9 a9 g9 := by
  unfold f_X2_isName at hf
  refine q_entI (cc := cX2_isName) (maxL := 1) (ret := (some .boolean)) (by decide) rfl (Nat.le_of_ble_eq_true rfl) ?_
  intro p e st m args below meth c A ls C hr hlocks hml hA I hl
  have hl : lv_has ls 1 [(0, .int p1)] := hl
  refine lv_iload_n C.1 C.2.1 dX2_isName_0 rfl (lv_at hl 0 rfl) ?_
  refine lv_if_lt (tgt := 14) C.1 C.2.1 dX2_isName_1 (by decide) (fun c1 => ?_) (fun c1 => ?_)
  · have hf := q_if_t hf c1
    refine lv_iconst (v := 0) C.1 C.2.1 dX2_isName_14 (by decide) ?_
    obtain ⟨rfl, rfl, rfl, rfl⟩ := q_some4 hf
    exact q_zret C hr rfl hlocks I dX2_isName_15
  · have hf := q_if_f hf c1
    refine lv_iload_n C.1 C.2.1 dX2_isName_4 rfl (lv_at hl 0 rfl) ?_
    refine lv_bipush (v := 10) C.1 C.2.1 dX2_isName_5 (by decide) ?_
    refine lv_icmp_ge (tgt := 14) C.1 C.2.1 dX2_isName_7 (by decide) (fun c2 => ?_) (fun c2 => ?_)
    · have hf := q_if_t hf c2
      refine lv_iconst (v := 0) C.1 C.2.1 dX2_isName_14 (by decide) ?_
      obtain ⟨rfl, rfl, rfl, rfl⟩ := q_some4 hf
      exact q_zret C hr rfl hlocks I dX2_isName_15
    · have hf := q_if_f hf c2
      refine lv_iconst (v := 1) C.1 C.2.1 dX2_isName_10 (by decide) ?_
      refine lv_goto (tgt := 15) C.1 C.2.1 dX2_isName_11 (by decide) ?_
      obtain ⟨rfl, rfl, rfl, rfl⟩ := q_some4 hf
      exact q_zret C hr rfl hlocks I dX2_isName_15
def f_X2_fitsFirst (s : q_s) (a : q_a) (g : q_g) (p1 : Int32) (p2 : Int32) : Option (Int32 × q_S) :=
 if p1 = 4 ∨ p1 = 5 ∨ p1 = 6 ∨ p1 = 7 ∨ p1 = 8 ∨ p1 = 9 ∨ p1 = 11 then
  q_ci (f_X2_isReader s a g p2) fun r6 s2 a3 g4 =>
  some (r6, s2, a3, g4)
 else
  if p1 = 10 then
   q_ci (f_X2_isName s a g p2) fun r12 s8 a9 g10 =>
   some (r12, s8, a9, g10)
  else
   if p1 = 15 then
    if p2 < 0 then
     some (0, s, a, g)
    else
     if 3 < p2 then
      some (0, s, a, g)
     else
      some (1, s, a, g)
   else
    some (1, s, a, g)
theorem e_X2_fitsFirst : yX2_fitsFirst.cls = RX2 ∧ yX2_fitsFirst.cls ≠ "java/lang/invoke/MethodHandle" ∧ yX2_fitsFirst.cls ≠ "java/lang/invoke/VarHandle" ∧ (parseMethodDescriptor yX2_fitsFirst.desc).map (fun d => d.parameters.length) = some 2 := by decide +kernel
set_option maxHeartbeats 4000000 in
set_option maxRecDepth 100000 in
theorem c_X2_fitsFirst {l : Launch} {D : va_G} {h : Nat} {ad : Nat → Nat} {ca : Nat → ClassId} {s s9 : q_s} {a a9 : q_a} {g g9 : q_g} {p1 : Int32} {p2 : Int32} {r9 : Int32} (hf : f_X2_fitsFirst s a g p1 p2 = some (r9, s9, a9, g9)) : q_Mi l yX2_fitsFirst wsX2_fitsFirst ({ frames := 1, cells := 0, slots := 0, locals := 21 }) D (q_tY ca) (q_wY h ad ca) [.ref h, .int p1, .int p2] s a g r9 s9 a9 g9 := by
  unfold f_X2_fitsFirst at hf
  refine q_entI (cc := cX2_fitsFirst) (maxL := 3) (ret := (some .boolean)) (by decide) rfl (Nat.le_of_ble_eq_true rfl) ?_
  intro p e st m args below meth c A ls C hr hlocks hml hA I hl
  have hl : lv_has ls 3 [(0, .ref h), (1, .int p1), (2, .int p2)] := hl
  refine lv_iload_n C.1 C.2.1 dX2_fitsFirst_0 rfl (lv_at hl 1 rfl) ?_
  by_cases c1 : p1 = 4 ∨ p1 = 5 ∨ p1 = 6 ∨ p1 = 7 ∨ p1 = 8 ∨ p1 = 9 ∨ p1 = 11
  · have hf := q_if_t hf c1
    refine lv_tableIn (off := 63) (tgt := 64) C.1 C.2.1 dX2_fitsFirst_1 (by rcases c1 with c1 | c1 | c1 | c1 | c1 | c1 | c1 <;> rw [c1] <;> decide) (by rcases c1 with c1 | c1 | c1 | c1 | c1 | c1 | c1 <;> rw [c1] <;> decide) (by rcases c1 with c1 | c1 | c1 | c1 | c1 | c1 | c1 <;> rw [c1] <;> rfl) (by decide) ?_
    refine lv_aload_n C.1 C.2.1 dX2_fitsFirst_64 rfl (lv_at hl 0 rfl) ?_
    refine lv_iload_n C.1 C.2.1 dX2_fitsFirst_65 rfl (lv_at hl 2 rfl) ?_
    obtain ⟨r6, s2, a3, g4, h5, hf⟩ := q_ci_some hf
    refine q_callVi (As := [.int p2]) (rest := []) C hml (c_X2_isReader h5) (cwV 1 C.2.2.2.1 gX2_fitsFirst_X2_isReader rfl rfl rfl e_X2_isReader ⟨Nat.le_of_ble_eq_true rfl, Nat.le_of_ble_eq_true rfl⟩) I hA (q0 := 0) (ci := 2) rfl rfl rfl rfl hl.1 rfl (Nat.le_of_ble_eq_true rfl) dX2_fitsFirst_66 ⟨Nat.zero_le _, Nat.zero_le _⟩ (fun H locs I => ?_)
    obtain ⟨rfl, rfl, rfl, rfl⟩ := q_some4 hf
    exact q_zret C hr (q_zn (z_X2_isReader h5)) hlocks I dX2_fitsFirst_69
  have hf := q_if_f hf c1
  by_cases c7 : p1 = 10
  · have hf := q_if_t hf c7
    refine lv_tableIn (off := 69) (tgt := 70) C.1 C.2.1 dX2_fitsFirst_1 (by skip <;> rw [c7] <;> decide) (by skip <;> rw [c7] <;> decide) (by skip <;> rw [c7] <;> rfl) (by decide) ?_
    refine lv_iload_n C.1 C.2.1 dX2_fitsFirst_70 rfl (lv_at hl 2 rfl) ?_
    obtain ⟨r12, s8, a9, g10, h11, hf⟩ := q_ci_some hf
    refine q_callSi (As := [.int p2]) (rest := []) C hml (c_X2_isName h11) (va_cwS 1 C.2.2.2.1 gX2_fitsFirst_X2_isName rfl rfl rfl e_X2_isName ⟨Nat.le_of_ble_eq_true rfl, Nat.le_of_ble_eq_true rfl⟩) I hA rfl hl.1 rfl (Nat.le_of_ble_eq_true rfl) dX2_fitsFirst_71 ⟨Nat.zero_le _, Nat.zero_le _⟩ (fun H locs I => ?_)
    obtain ⟨rfl, rfl, rfl, rfl⟩ := q_some4 hf
    exact q_zret C hr (q_zn (z_X2_isName h11)) hlocks I dX2_fitsFirst_74
  have hf := q_if_f hf c7
  by_cases c13 : p1 = 15
  · have hf := q_if_t hf c13
    refine lv_tableIn (off := 74) (tgt := 75) C.1 C.2.1 dX2_fitsFirst_1 (by skip <;> rw [c13] <;> decide) (by skip <;> rw [c13] <;> decide) (by skip <;> rw [c13] <;> rfl) (by decide) ?_
    refine lv_iload_n C.1 C.2.1 dX2_fitsFirst_75 rfl (lv_at hl 2 rfl) ?_
    refine lv_if_lt (tgt := 88) C.1 C.2.1 dX2_fitsFirst_76 (by decide) (fun c14 => ?_) (fun c14 => ?_)
    · have hf := q_if_t hf c14
      refine lv_iconst (v := 0) C.1 C.2.1 dX2_fitsFirst_88 (by decide) ?_
      obtain ⟨rfl, rfl, rfl, rfl⟩ := q_some4 hf
      exact q_zret C hr rfl hlocks I dX2_fitsFirst_89
    · have hf := q_if_f hf c14
      refine lv_iload_n C.1 C.2.1 dX2_fitsFirst_79 rfl (lv_at hl 2 rfl) ?_
      refine lv_iconst (v := 3) C.1 C.2.1 dX2_fitsFirst_80 (by decide) ?_
      refine lv_icmp_gt (tgt := 88) C.1 C.2.1 dX2_fitsFirst_81 (by decide) (fun c15 => ?_) (fun c15 => ?_)
      · have hf := q_if_t hf c15
        refine lv_iconst (v := 0) C.1 C.2.1 dX2_fitsFirst_88 (by decide) ?_
        obtain ⟨rfl, rfl, rfl, rfl⟩ := q_some4 hf
        exact q_zret C hr rfl hlocks I dX2_fitsFirst_89
      · have hf := q_if_f hf c15
        refine lv_iconst (v := 1) C.1 C.2.1 dX2_fitsFirst_84 (by decide) ?_
        refine lv_goto (tgt := 89) C.1 C.2.1 dX2_fitsFirst_85 (by decide) ?_
        obtain ⟨rfl, rfl, rfl, rfl⟩ := q_some4 hf
        exact q_zret C hr rfl hlocks I dX2_fitsFirst_89
  have hf := q_if_f hf c13
  refine q_tabD (tgt := 90) C.1 C.2.1 dX2_fitsFirst_1 (by
    by_cases c16 : p1 = 12 ∨ p1 = 13 ∨ p1 = 14
    · exact Or.inr ⟨by rcases c16 with c16 | c16 | c16 <;> rw [c16] <;> decide, by rcases c16 with c16 | c16 | c16 <;> rw [c16] <;> decide, by rcases c16 with c16 | c16 | c16 <;> rw [c16] <;> rfl⟩
    refine Or.inl (q_out (fun k k1 k2 => ?_))
    have k3 : k = 4 ∨ k = 5 ∨ k = 6 ∨ k = 7 ∨ k = 8 ∨ k = 9 ∨ k = 10 ∨ k = 11 ∨ k = 12 ∨ k = 13 ∨ k = 14 ∨ k = 15 := by omega
    rcases k3 with rfl | rfl | rfl | rfl | rfl | rfl | rfl | rfl | rfl | rfl | rfl | rfl
    · exact fun z => c1 (Or.inl z)
    · exact fun z => c1 (Or.inr (Or.inl z))
    · exact fun z => c1 (Or.inr (Or.inr (Or.inl z)))
    · exact fun z => c1 (Or.inr (Or.inr (Or.inr (Or.inl z))))
    · exact fun z => c1 (Or.inr (Or.inr (Or.inr (Or.inr (Or.inl z)))))
    · exact fun z => c1 (Or.inr (Or.inr (Or.inr (Or.inr (Or.inr (Or.inl z))))))
    · exact fun z => c7 (z)
    · exact fun z => c1 (Or.inr (Or.inr (Or.inr (Or.inr (Or.inr (Or.inr (z)))))))
    · exact fun z => c16 (Or.inl z)
    · exact fun z => c16 (Or.inr (Or.inl z))
    · exact fun z => c16 (Or.inr (Or.inr (z)))
    · exact fun z => c13 (z)
    ) (by decide) ?_
  refine lv_iconst (v := 1) C.1 C.2.1 dX2_fitsFirst_90 (by decide) ?_
  obtain ⟨rfl, rfl, rfl, rfl⟩ := q_some4 hf
  exact q_zret C hr rfl hlocks I dX2_fitsFirst_91
def f_X2_fitsSecond (s : q_s) (a : q_a) (g : q_g) (p1 : Int32) (p2 : Int32) : Option (Int32 × q_S) :=
 if p1 = 4 then
  q_ci (f_X2_isReader s a g p2) fun r6 s2 a3 g4 =>
  if r6 = 0 then
   some (0, s2, a3, g4)
  else
   some (1, s2, a3, g4)
 else
  if p1 = 5 then
   q_ci (f_X2_isReader s a g p2) fun r13 s9 a10 g11 =>
   if r13 = 0 then
    some (0, s9, a10, g11)
   else
    some (1, s9, a10, g11)
  else
   some (1, s, a, g)
theorem e_X2_fitsSecond : yX2_fitsSecond.cls = RX2 ∧ yX2_fitsSecond.cls ≠ "java/lang/invoke/MethodHandle" ∧ yX2_fitsSecond.cls ≠ "java/lang/invoke/VarHandle" ∧ (parseMethodDescriptor yX2_fitsSecond.desc).map (fun d => d.parameters.length) = some 2 := by decide +kernel
set_option maxHeartbeats 4000000 in
set_option maxRecDepth 100000 in
theorem c_X2_fitsSecond {l : Launch} {D : va_G} {h : Nat} {ad : Nat → Nat} {ca : Nat → ClassId} {s s9 : q_s} {a a9 : q_a} {g g9 : q_g} {p1 : Int32} {p2 : Int32} {r9 : Int32} (hf : f_X2_fitsSecond s a g p1 p2 = some (r9, s9, a9, g9)) : q_Mi l yX2_fitsSecond wsX2_fitsSecond ({ frames := 1, cells := 0, slots := 0, locals := 21 }) D (q_tY ca) (q_wY h ad ca) [.ref h, .int p1, .int p2] s a g r9 s9 a9 g9 := by
  unfold f_X2_fitsSecond at hf
  refine q_entI (cc := cX2_fitsSecond) (maxL := 3) (ret := (some .boolean)) (by decide) rfl (Nat.le_of_ble_eq_true rfl) ?_
  intro p e st m args below meth c A ls C hr hlocks hml hA I hl
  have hl : lv_has ls 3 [(0, .ref h), (1, .int p1), (2, .int p2)] := hl
  refine lv_iload_n C.1 C.2.1 dX2_fitsSecond_0 rfl (lv_at hl 1 rfl) ?_
  refine lv_iconst (v := 4) C.1 C.2.1 dX2_fitsSecond_1 (by decide) ?_
  refine lv_icmp_eq (tgt := 10) C.1 C.2.1 dX2_fitsSecond_2 (by decide) (fun c1 => ?_) (fun c1 => ?_)
  · have hf := q_if_t hf c1
    refine lv_aload_n C.1 C.2.1 dX2_fitsSecond_10 rfl (lv_at hl 0 rfl) ?_
    refine lv_iload_n C.1 C.2.1 dX2_fitsSecond_11 rfl (lv_at hl 2 rfl) ?_
    obtain ⟨r6, s2, a3, g4, h5, hf⟩ := q_ci_some hf
    refine q_callVi (As := [.int p2]) (rest := []) C hml (c_X2_isReader h5) (cwV 1 C.2.2.2.1 gX2_fitsSecond_X2_isReader rfl rfl rfl e_X2_isReader ⟨Nat.le_of_ble_eq_true rfl, Nat.le_of_ble_eq_true rfl⟩) I hA (q0 := 0) (ci := 2) rfl rfl rfl rfl hl.1 rfl (Nat.le_of_ble_eq_true rfl) dX2_fitsSecond_12 ⟨Nat.zero_le _, Nat.zero_le _⟩ (fun H locs I => ?_)
    refine lv_if_eq (tgt := 22) C.1 C.2.1 dX2_fitsSecond_15 (by decide) (fun c7 => ?_) (fun c7 => ?_)
    · have hf := q_if_t hf c7
      refine lv_iconst (v := 0) C.1 C.2.1 dX2_fitsSecond_22 (by decide) ?_
      obtain ⟨rfl, rfl, rfl, rfl⟩ := q_some4 hf
      exact q_zret C hr rfl hlocks I dX2_fitsSecond_23
    · have hf := q_if_f hf c7
      refine lv_iconst (v := 1) C.1 C.2.1 dX2_fitsSecond_18 (by decide) ?_
      refine lv_goto (tgt := 23) C.1 C.2.1 dX2_fitsSecond_19 (by decide) ?_
      obtain ⟨rfl, rfl, rfl, rfl⟩ := q_some4 hf
      exact q_zret C hr rfl hlocks I dX2_fitsSecond_23
  · have hf := q_if_f hf c1
    refine lv_iload_n C.1 C.2.1 dX2_fitsSecond_5 rfl (lv_at hl 1 rfl) ?_
    refine lv_iconst (v := 5) C.1 C.2.1 dX2_fitsSecond_6 (by decide) ?_
    refine lv_icmp_ne (tgt := 18) C.1 C.2.1 dX2_fitsSecond_7 (by decide) (fun c8 => ?_) (fun c8 => ?_)
    · have hf := q_if_f hf c8
      refine lv_iconst (v := 1) C.1 C.2.1 dX2_fitsSecond_18 (by decide) ?_
      refine lv_goto (tgt := 23) C.1 C.2.1 dX2_fitsSecond_19 (by decide) ?_
      obtain ⟨rfl, rfl, rfl, rfl⟩ := q_some4 hf
      exact q_zret C hr rfl hlocks I dX2_fitsSecond_23
    · have hf := q_if_t hf c8
      refine lv_aload_n C.1 C.2.1 dX2_fitsSecond_10 rfl (lv_at hl 0 rfl) ?_
      refine lv_iload_n C.1 C.2.1 dX2_fitsSecond_11 rfl (lv_at hl 2 rfl) ?_
      obtain ⟨r13, s9, a10, g11, h12, hf⟩ := q_ci_some hf
      refine q_callVi (As := [.int p2]) (rest := []) C hml (c_X2_isReader h12) (cwV 1 C.2.2.2.1 gX2_fitsSecond_X2_isReader rfl rfl rfl e_X2_isReader ⟨Nat.le_of_ble_eq_true rfl, Nat.le_of_ble_eq_true rfl⟩) I hA (q0 := 0) (ci := 2) rfl rfl rfl rfl hl.1 rfl (Nat.le_of_ble_eq_true rfl) dX2_fitsSecond_12 ⟨Nat.zero_le _, Nat.zero_le _⟩ (fun H locs I => ?_)
      refine lv_if_eq (tgt := 22) C.1 C.2.1 dX2_fitsSecond_15 (by decide) (fun c14 => ?_) (fun c14 => ?_)
      · have hf := q_if_t hf c14
        refine lv_iconst (v := 0) C.1 C.2.1 dX2_fitsSecond_22 (by decide) ?_
        obtain ⟨rfl, rfl, rfl, rfl⟩ := q_some4 hf
        exact q_zret C hr rfl hlocks I dX2_fitsSecond_23
      · have hf := q_if_f hf c14
        refine lv_iconst (v := 1) C.1 C.2.1 dX2_fitsSecond_18 (by decide) ?_
        refine lv_goto (tgt := 23) C.1 C.2.1 dX2_fitsSecond_19 (by decide) ?_
        obtain ⟨rfl, rfl, rfl, rfl⟩ := q_some4 hf
        exact q_zret C hr rfl hlocks I dX2_fitsSecond_23
def f_X2_addReader (s : q_s) (a : q_a) (g : q_g) (p1 : Int32) (p2 : Int32) (p3 : Int32) : Option (Int32 × q_S) :=
 q_ck (s 6) 50 <|
 q_bd (q_ua a 2 ((s 6).toNatClampNeg) p1) fun a3 =>
 q_ck (s 6) 50 <|
 q_bd (q_ua a3 3 ((s 6).toNatClampNeg) p2) fun a6 =>
 q_ck (s 6) 50 <|
 q_bd (q_ua a6 4 ((s 6).toNatClampNeg) p3) fun a9 =>
 q_bd (q_us s 6 ((s 6) + 1)) fun s10 =>
 some (s 6, s10, a9, g)
theorem e_X2_addReader : yX2_addReader.cls = RX2 ∧ yX2_addReader.cls ≠ "java/lang/invoke/MethodHandle" ∧ yX2_addReader.cls ≠ "java/lang/invoke/VarHandle" ∧ (parseMethodDescriptor yX2_addReader.desc).map (fun d => d.parameters.length) = some 3 := by decide +kernel
set_option maxHeartbeats 4000000 in
set_option maxRecDepth 100000 in
theorem c_X2_addReader {l : Launch} {D : va_G} {h : Nat} {ad : Nat → Nat} {ca : Nat → ClassId} {s s9 : q_s} {a a9 : q_a} {g g9 : q_g} {p1 : Int32} {p2 : Int32} {p3 : Int32} {r9 : Int32} (hf : f_X2_addReader s a g p1 p2 p3 = some (r9, s9, a9, g9)) : q_Mi l yX2_addReader wsX2_addReader ({ frames := 0, cells := 0, slots := 0, locals := 0 }) D (q_tY ca) (q_wY h ad ca) [.ref h, .int p1, .int p2, .int p3] s a g r9 s9 a9 g9 := by
  unfold f_X2_addReader at hf
  refine q_entI (cc := cX2_addReader) (maxL := 5) (ret := (some .int)) (by decide) rfl (Nat.le_of_ble_eq_true rfl) ?_
  intro p e st m args below meth c A ls C hr hlocks hml hA I hl
  have hl : lv_has ls 5 [(0, .ref h), (1, .int p1), (2, .int p2), (3, .int p3)] := hl
  have hinX2 : ∀ w ∈ wsX20, w ∈ wsX2_addReader := fun _ h => List.mem_cons_of_mem _ (List.mem_append_right _ h)
  have k70 : Cond.fieldLink RX2 70 "ReaderYard" "readerCount" "I" ∈ wsX2_addReader := by decide +kernel
  have k13 : Cond.fieldLink RX2 13 "ReaderYard" "sorts" "[I" ∈ wsX2_addReader := by decide +kernel
  have k17 : Cond.fieldLink RX2 17 "ReaderYard" "firsts" "[I" ∈ wsX2_addReader := by decide +kernel
  have k20 : Cond.fieldLink RX2 20 "ReaderYard" "seconds" "[I" ∈ wsX2_addReader := by decide +kernel
  refine lv_aload_n C.1 C.2.1 dX2_addReader_0 rfl (lv_at hl 0 rfl) ?_
  refine q_get_RX2_70 C hinX2 k70 I dX2_addReader_1 ?_
  refine lv_istore (lv' := [(4, .int (s 6)), (0, .ref h), (1, .int p1), (2, .int p2), (3, .int p3)]) C.1 C.2.1 dX2_addReader_4 hl (by decide) rfl (fun ls hl => ?_)
  refine lv_aload_n C.1 C.2.1 dX2_addReader_6 rfl (lv_at hl 1 rfl) ?_
  refine q_get_RX2_13 C hinX2 k13 I dX2_addReader_7 ?_
  refine lv_iload C.1 C.2.1 dX2_addReader_10 (lv_at hl 0 rfl) ?_
  refine lv_iload_n C.1 C.2.1 dX2_addReader_12 rfl (lv_at hl 2 rfl) ?_
  obtain ⟨b1, hf⟩ := q_ck_some hf
  obtain ⟨a3, e2, hf⟩ := q_bd_some hf
  refine q_st_Y_sorts C b1 e2 I dX2_addReader_13 (fun H locs I => ?_)
  refine lv_aload_n C.1 C.2.1 dX2_addReader_14 rfl (lv_at hl 1 rfl) ?_
  refine q_get_RX2_17 C hinX2 k17 I dX2_addReader_15 ?_
  refine lv_iload C.1 C.2.1 dX2_addReader_18 (lv_at hl 0 rfl) ?_
  refine lv_iload_n C.1 C.2.1 dX2_addReader_20 rfl (lv_at hl 3 rfl) ?_
  obtain ⟨b4, hf⟩ := q_ck_some hf
  obtain ⟨a6, e5, hf⟩ := q_bd_some hf
  refine q_st_Y_firsts C b4 e5 I dX2_addReader_21 (fun H locs I => ?_)
  refine lv_aload_n C.1 C.2.1 dX2_addReader_22 rfl (lv_at hl 1 rfl) ?_
  refine q_get_RX2_20 C hinX2 k20 I dX2_addReader_23 ?_
  refine lv_iload C.1 C.2.1 dX2_addReader_26 (lv_at hl 0 rfl) ?_
  refine lv_iload_n C.1 C.2.1 dX2_addReader_28 rfl (lv_at hl 4 rfl) ?_
  obtain ⟨b7, hf⟩ := q_ck_some hf
  obtain ⟨a9, e8, hf⟩ := q_bd_some hf
  refine q_st_Y_seconds C b7 e8 I dX2_addReader_29 (fun H locs I => ?_)
  refine lv_aload_n C.1 C.2.1 dX2_addReader_30 rfl (lv_at hl 1 rfl) ?_
  refine lv_dup C.1 C.2.1 dX2_addReader_31 rfl ?_
  refine q_get_RX2_70 C hinX2 k70 I dX2_addReader_32 ?_
  refine lv_iconst (v := 1) C.1 C.2.1 dX2_addReader_35 (by decide) ?_
  refine lv_iadd C.1 C.2.1 dX2_addReader_36 ?_
  obtain ⟨s10, e11, hf⟩ := q_bd_some hf
  refine q_put_RX2_70 C hinX2 k70 e11 I dX2_addReader_37 (fun H locs I => ?_)
  refine lv_iload C.1 C.2.1 dX2_addReader_40 (lv_at hl 0 rfl) ?_
  obtain ⟨rfl, rfl, rfl, rfl⟩ := q_some4 hf
  exact q_iret C hr hlocks I dX2_addReader_42
def f_X2_startCall (s : q_s) (a : q_a) (g : q_g) : Option q_S :=
 q_cv (f_X1_makeEmpty s a g) fun s1 a2 g3 =>
 q_bd (q_us s1 33 0) fun s6 =>
 q_bd (q_us s6 11 0) fun s8 =>
 q_bd (q_us s8 12 0) fun s10 =>
 some (s10, a2, g3)
theorem e_X2_startCall : yX2_startCall.cls = RX2 ∧ yX2_startCall.cls ≠ "java/lang/invoke/MethodHandle" ∧ yX2_startCall.cls ≠ "java/lang/invoke/VarHandle" ∧ (parseMethodDescriptor yX2_startCall.desc).map (fun d => d.parameters.length) = some 0 := by decide +kernel
set_option maxHeartbeats 4000000 in
set_option maxRecDepth 100000 in
theorem c_X2_startCall {l : Launch} {D : va_G} {h : Nat} {ad : Nat → Nat} {ca : Nat → ClassId} {s s9 : q_s} {a a9 : q_a} {g g9 : q_g} (hf : f_X2_startCall s a g = some (s9, a9, g9)) : q_Mv l yX2_startCall wsX2_startCall ({ frames := 1, cells := 0, slots := 0, locals := 20 }) D (q_tY ca) (q_wY h ad ca) [.ref h] s a g s9 a9 g9 := by
  unfold f_X2_startCall at hf
  refine q_entV (cc := cX2_startCall) (maxL := 1) (ret := none) (by decide) rfl (Nat.le_of_ble_eq_true rfl) ?_
  intro p e st m args below meth c A ls C hr hlocks hml hA I hl
  have hl : lv_has ls 1 [(0, .ref h)] := hl
  have hinX0 : ∀ w ∈ wsX00, w ∈ wsX2_startCall := fun _ h => List.mem_cons_of_mem _ (List.mem_append_left _ (List.mem_append_right _ h))
  have hinX2 : ∀ w ∈ wsX20, w ∈ wsX2_startCall := fun _ h => List.mem_cons_of_mem _ (List.mem_append_left _ (List.mem_append_left _ (List.mem_append_right _ h)))
  have k36 : Cond.fieldLink RX2 36 "ReaderYard" "numbers" "LReaderYard$Pile;" ∈ wsX2_startCall := by decide +kernel
  have k43 : Cond.fieldLink RX2 43 "ReaderYard" "marks" "LReaderYard$Marks;" ∈ wsX2_startCall := by decide +kernel
  have k97 : Cond.fieldLink RX2 97 "ReaderYard$Marks" "size" "I" ∈ wsX2_startCall := by decide +kernel
  have k121 : Cond.fieldLink RX2 121 "ReaderYard" "steps" "I" ∈ wsX2_startCall := by decide +kernel
  have k124 : Cond.fieldLink RX2 124 "ReaderYard" "deepest" "I" ∈ wsX2_startCall := by decide +kernel
  refine lv_aload_n C.1 C.2.1 dX2_startCall_0 rfl (lv_at hl 0 rfl) ?_
  refine q_get_RX2_36 C hinX2 k36 I dX2_startCall_1 ?_
  obtain ⟨s1, a2, g3, h4, hf⟩ := q_cv_some hf
  refine q_callVv (As := []) (rest := []) C hml (c_X1_makeEmpty h4) (cwV 0 C.2.2.2.1 gX2_startCall_X1_makeEmpty rfl rfl rfl e_X1_makeEmpty ⟨Nat.le_of_ble_eq_true rfl, Nat.le_of_ble_eq_true rfl⟩) I hA (q0 := 1) (ci := 1) rfl rfl rfl rfl hl.1 rfl (Nat.le_of_ble_eq_true rfl) dX2_startCall_4 ⟨Nat.zero_le _, Nat.zero_le _⟩ (fun H locs I => ?_)
  refine lv_aload_n C.1 C.2.1 dX2_startCall_7 rfl (lv_at hl 0 rfl) ?_
  refine q_get_RX2_43 C hinX2 k43 I dX2_startCall_8 ?_
  refine lv_iconst (v := 0) C.1 C.2.1 dX2_startCall_11 (by decide) ?_
  obtain ⟨s6, e7, hf⟩ := q_bd_some hf
  refine q_put_RX2_97 C hinX0 k97 e7 I dX2_startCall_12 (fun H locs I => ?_)
  refine lv_aload_n C.1 C.2.1 dX2_startCall_15 rfl (lv_at hl 0 rfl) ?_
  refine lv_iconst (v := 0) C.1 C.2.1 dX2_startCall_16 (by decide) ?_
  obtain ⟨s8, e9, hf⟩ := q_bd_some hf
  refine q_put_RX2_121 C hinX2 k121 e9 I dX2_startCall_17 (fun H locs I => ?_)
  refine lv_aload_n C.1 C.2.1 dX2_startCall_20 rfl (lv_at hl 0 rfl) ?_
  refine lv_iconst (v := 0) C.1 C.2.1 dX2_startCall_21 (by decide) ?_
  obtain ⟨s10, e11, hf⟩ := q_bd_some hf
  refine q_put_RX2_124 C hinX2 k124 e11 I dX2_startCall_22 (fun H locs I => ?_)
  obtain ⟨rfl, rfl, rfl⟩ := q_some3 hf
  exact q_vret C hr hlocks I dX2_startCall_25
def f_X2_faultAnswer (s : q_s) (a : q_a) (g : q_g) (p1 : Int32) : Option (Int32 × q_S) :=
 some ((-10) - p1, s, a, g)
theorem e_X2_faultAnswer : yX2_faultAnswer.cls ≠ "java/lang/invoke/MethodHandle" ∧ yX2_faultAnswer.cls ≠ "java/lang/invoke/VarHandle" ∧ (parseMethodDescriptor yX2_faultAnswer.desc).map (fun d => d.parameters.length) = some 1 := by decide +kernel
set_option maxHeartbeats 4000000 in
set_option maxRecDepth 100000 in
theorem c_X2_faultAnswer {l : Launch} {D : va_G} {h : Nat} {ad : Nat → Nat} {ca : Nat → ClassId} {s s9 : q_s} {a a9 : q_a} {g g9 : q_g} {p1 : Int32} {r9 : Int32} (hf : f_X2_faultAnswer s a g p1 = some (r9, s9, a9, g9)) : q_Mi l yX2_faultAnswer wsX2_faultAnswer ({ frames := 0, cells := 0, slots := 0, locals := 0 }) D (q_tY ca) (q_wY h ad ca) [.int p1] s a g r9 s9 a9 g9 := by
  unfold f_X2_faultAnswer at hf
  refine q_entI (cc := cX2_faultAnswer) (maxL := 1) (ret := (some .int)) (by decide) rfl (Nat.le_of_ble_eq_true rfl) ?_
  intro p e st m args below meth c A ls C hr hlocks hml hA I hl
  have hl : lv_has ls 1 [(0, .int p1)] := hl
  refine lv_bipush (v := (-10)) C.1 C.2.1 dX2_faultAnswer_0 (by decide) ?_
  refine lv_iload_n C.1 C.2.1 dX2_faultAnswer_2 rfl (lv_at hl 0 rfl) ?_
  refine lv_isub C.1 C.2.1 dX2_faultAnswer_3 ?_
  obtain ⟨rfl, rfl, rfl, rfl⟩ := q_some4 hf
  exact q_iret C hr hlocks I dX2_faultAnswer_4
def f_X2_isFault (s : q_s) (a : q_a) (g : q_g) (p1 : Int32) : Option (Int32 × q_S) :=
 if (-10) ≤ p1 then
  some (0, s, a, g)
 else
  some (1, s, a, g)
theorem e_X2_isFault : yX2_isFault.cls ≠ "java/lang/invoke/MethodHandle" ∧ yX2_isFault.cls ≠ "java/lang/invoke/VarHandle" ∧ (parseMethodDescriptor yX2_isFault.desc).map (fun d => d.parameters.length) = some 1 := by decide +kernel
set_option maxHeartbeats 4000000 in
set_option maxRecDepth 100000 in
theorem c_X2_isFault {l : Launch} {D : va_G} {h : Nat} {ad : Nat → Nat} {ca : Nat → ClassId} {s s9 : q_s} {a a9 : q_a} {g g9 : q_g} {p1 : Int32} {r9 : Int32} (hf : f_X2_isFault s a g p1 = some (r9, s9, a9, g9)) : q_Mi l yX2_isFault wsX2_isFault ({ frames := 0, cells := 0, slots := 0, locals := 0 }) D (q_tY ca) (q_wY h ad ca) [.int p1] s a g r9 s9 a9 g9 := by
  unfold f_X2_isFault at hf
  refine q_entI (cc := cX2_isFault) (maxL := 1) (ret := (some .boolean)) (by decide) rfl (Nat.le_of_ble_eq_true rfl) ?_
  intro p e st m args below meth c A ls C hr hlocks hml hA I hl
  have hl : lv_has ls 1 [(0, .int p1)] := hl
  refine lv_iload_n C.1 C.2.1 dX2_isFault_0 rfl (lv_at hl 0 rfl) ?_
  refine lv_bipush (v := (-10)) C.1 C.2.1 dX2_isFault_1 (by decide) ?_
  refine lv_icmp_ge (tgt := 10) C.1 C.2.1 dX2_isFault_3 (by decide) (fun c1 => ?_) (fun c1 => ?_)
  · have hf := q_if_t hf c1
    refine lv_iconst (v := 0) C.1 C.2.1 dX2_isFault_10 (by decide) ?_
    obtain ⟨rfl, rfl, rfl, rfl⟩ := q_some4 hf
    exact q_zret C hr rfl hlocks I dX2_isFault_11
  · have hf := q_if_f hf c1
    refine lv_iconst (v := 1) C.1 C.2.1 dX2_isFault_6 (by decide) ?_
    refine lv_goto (tgt := 11) C.1 C.2.1 dX2_isFault_7 (by decide) ?_
    obtain ⟨rfl, rfl, rfl, rfl⟩ := q_some4 hf
    exact q_zret C hr rfl hlocks I dX2_isFault_11
def f_X2_noteFault (s : q_s) (a : q_a) (g : q_g) (p1 : Int32) : Option q_S :=
 q_bd (q_us s 14 ((s 14) + 1)) fun s1 =>
 q_bd (q_us s1 15 ((-10) - p1)) fun s3 =>
 some (s3, a, g)
theorem e_X2_noteFault : yX2_noteFault.cls = RX2 ∧ yX2_noteFault.cls ≠ "java/lang/invoke/MethodHandle" ∧ yX2_noteFault.cls ≠ "java/lang/invoke/VarHandle" ∧ (parseMethodDescriptor yX2_noteFault.desc).map (fun d => d.parameters.length) = some 1 := by decide +kernel
set_option maxHeartbeats 4000000 in
set_option maxRecDepth 100000 in
theorem c_X2_noteFault {l : Launch} {D : va_G} {h : Nat} {ad : Nat → Nat} {ca : Nat → ClassId} {s s9 : q_s} {a a9 : q_a} {g g9 : q_g} {p1 : Int32} (hf : f_X2_noteFault s a g p1 = some (s9, a9, g9)) : q_Mv l yX2_noteFault wsX2_noteFault ({ frames := 0, cells := 0, slots := 0, locals := 0 }) D (q_tY ca) (q_wY h ad ca) [.ref h, .int p1] s a g s9 a9 g9 := by
  unfold f_X2_noteFault at hf
  refine q_entV (cc := cX2_noteFault) (maxL := 2) (ret := none) (by decide) rfl (Nat.le_of_ble_eq_true rfl) ?_
  intro p e st m args below meth c A ls C hr hlocks hml hA I hl
  have hl : lv_has ls 2 [(0, .ref h), (1, .int p1)] := hl
  have hinX2 : ∀ w ∈ wsX20, w ∈ wsX2_noteFault := fun _ h => List.mem_cons_of_mem _ (List.mem_append_right _ h)
  have k130 : Cond.fieldLink RX2 130 "ReaderYard" "faultedCalls" "I" ∈ wsX2_noteFault := by decide +kernel
  have k133 : Cond.fieldLink RX2 133 "ReaderYard" "latestFault" "I" ∈ wsX2_noteFault := by decide +kernel
  refine lv_aload_n C.1 C.2.1 dX2_noteFault_0 rfl (lv_at hl 0 rfl) ?_
  refine lv_dup C.1 C.2.1 dX2_noteFault_1 rfl ?_
  refine q_get_RX2_130 C hinX2 k130 I dX2_noteFault_2 ?_
  refine lv_iconst (v := 1) C.1 C.2.1 dX2_noteFault_5 (by decide) ?_
  refine lv_iadd C.1 C.2.1 dX2_noteFault_6 ?_
  obtain ⟨s1, e2, hf⟩ := q_bd_some hf
  refine q_put_RX2_130 C hinX2 k130 e2 I dX2_noteFault_7 (fun H locs I => ?_)
  refine lv_aload_n C.1 C.2.1 dX2_noteFault_10 rfl (lv_at hl 0 rfl) ?_
  refine lv_bipush (v := (-10)) C.1 C.2.1 dX2_noteFault_11 (by decide) ?_
  refine lv_iload_n C.1 C.2.1 dX2_noteFault_13 rfl (lv_at hl 1 rfl) ?_
  refine lv_isub C.1 C.2.1 dX2_noteFault_14 ?_
  obtain ⟨s3, e4, hf⟩ := q_bd_some hf
  refine q_put_RX2_133 C hinX2 k133 e4 I dX2_noteFault_15 (fun H locs I => ?_)
  obtain ⟨rfl, rfl, rfl⟩ := q_some3 hf
  exact q_vret C hr hlocks I dX2_noteFault_18
def f_X2_takeBack (s : q_s) (a : q_a) (g : q_g) (p1 : Int32) (p2 : Int32) : Option q_S :=
 q_bd (q_us s 24 p1) fun s1 =>
 q_bd (q_us s1 33 p2) fun s3 =>
 some (s3, a, g)
theorem e_X2_takeBack : yX2_takeBack.cls = RX2 ∧ yX2_takeBack.cls ≠ "java/lang/invoke/MethodHandle" ∧ yX2_takeBack.cls ≠ "java/lang/invoke/VarHandle" ∧ (parseMethodDescriptor yX2_takeBack.desc).map (fun d => d.parameters.length) = some 2 := by decide +kernel
set_option maxHeartbeats 4000000 in
set_option maxRecDepth 100000 in
theorem c_X2_takeBack {l : Launch} {D : va_G} {h : Nat} {ad : Nat → Nat} {ca : Nat → ClassId} {s s9 : q_s} {a a9 : q_a} {g g9 : q_g} {p1 : Int32} {p2 : Int32} (hf : f_X2_takeBack s a g p1 p2 = some (s9, a9, g9)) : q_Mv l yX2_takeBack wsX2_takeBack ({ frames := 0, cells := 0, slots := 0, locals := 0 }) D (q_tY ca) (q_wY h ad ca) [.ref h, .int p1, .int p2] s a g s9 a9 g9 := by
  unfold f_X2_takeBack at hf
  refine q_entV (cc := cX2_takeBack) (maxL := 3) (ret := none) (by decide) rfl (Nat.le_of_ble_eq_true rfl) ?_
  intro p e st m args below meth c A ls C hr hlocks hml hA I hl
  have hl : lv_has ls 3 [(0, .ref h), (1, .int p1), (2, .int p2)] := hl
  have hinX0 : ∀ w ∈ wsX00, w ∈ wsX2_takeBack := fun _ h => List.mem_cons_of_mem _ (List.mem_append_right _ h)
  have hinX1 : ∀ w ∈ wsX10, w ∈ wsX2_takeBack := fun _ h => List.mem_cons_of_mem _ (List.mem_append_left _ (List.mem_append_right _ h))
  have hinX2 : ∀ w ∈ wsX20, w ∈ wsX2_takeBack := fun _ h => List.mem_cons_of_mem _ (List.mem_append_left _ (List.mem_append_left _ (List.mem_append_right _ h)))
  have k36 : Cond.fieldLink RX2 36 "ReaderYard" "numbers" "LReaderYard$Pile;" ∈ wsX2_takeBack := by decide +kernel
  have k94 : Cond.fieldLink RX2 94 "ReaderYard$Pile" "top" "I" ∈ wsX2_takeBack := by decide +kernel
  have k43 : Cond.fieldLink RX2 43 "ReaderYard" "marks" "LReaderYard$Marks;" ∈ wsX2_takeBack := by decide +kernel
  have k97 : Cond.fieldLink RX2 97 "ReaderYard$Marks" "size" "I" ∈ wsX2_takeBack := by decide +kernel
  refine lv_aload_n C.1 C.2.1 dX2_takeBack_0 rfl (lv_at hl 0 rfl) ?_
  refine q_get_RX2_36 C hinX2 k36 I dX2_takeBack_1 ?_
  refine lv_iload_n C.1 C.2.1 dX2_takeBack_4 rfl (lv_at hl 1 rfl) ?_
  obtain ⟨s1, e2, hf⟩ := q_bd_some hf
  refine q_put_RX2_94 C hinX1 k94 e2 I dX2_takeBack_5 (fun H locs I => ?_)
  refine lv_aload_n C.1 C.2.1 dX2_takeBack_8 rfl (lv_at hl 0 rfl) ?_
  refine q_get_RX2_43 C hinX2 k43 I dX2_takeBack_9 ?_
  refine lv_iload_n C.1 C.2.1 dX2_takeBack_12 rfl (lv_at hl 2 rfl) ?_
  obtain ⟨s3, e4, hf⟩ := q_bd_some hf
  refine q_put_RX2_97 C hinX0 k97 e4 I dX2_takeBack_13 (fun H locs I => ?_)
  obtain ⟨rfl, rfl, rfl⟩ := q_some3 hf
  exact q_vret C hr hlocks I dX2_takeBack_16
def f_X2_begin (s : q_s) (a : q_a) (g : q_g) (p1 : Int32) (p2 : Int32) : Option (Int32 × q_S) :=
 if p2 ≤ 150 then
  if s 11 < 3000 then
   q_bd (q_us s 11 ((s 11) + 1)) fun s3 =>
   q_bd (q_us s3 13 ((s3 13) + 1)) fun s5 =>
   q_ck p1 50 <|
   q_ck p1 50 <|
   q_bd (q_ua a 5 p1.toNatClampNeg ((a 5 p1.toNatClampNeg) + 1)) fun a10 =>
   q_bd (q_us s5 12 (if s5 12 < p2 then p2 else s5 12)) fun s11 =>
   some (0, s11, a10, g)
  else
   q_ci (f_X2_faultAnswer s a g 5) fun r17 s13 a14 g15 =>
   some (r17, s13, a14, g15)
 else
  q_ci (f_X2_faultAnswer s a g 4) fun r22 s18 a19 g20 =>
  some (r22, s18, a19, g20)
theorem e_X2_begin : yX2_begin.cls = RX2 ∧ yX2_begin.cls ≠ "java/lang/invoke/MethodHandle" ∧ yX2_begin.cls ≠ "java/lang/invoke/VarHandle" ∧ (parseMethodDescriptor yX2_begin.desc).map (fun d => d.parameters.length) = some 2 := by decide +kernel
set_option maxHeartbeats 4000000 in
set_option maxRecDepth 100000 in
theorem c_X2_begin {l : Launch} {D : va_G} {h : Nat} {ad : Nat → Nat} {ca : Nat → ClassId} {s s9 : q_s} {a a9 : q_a} {g g9 : q_g} {p1 : Int32} {p2 : Int32} {r9 : Int32} (hf : f_X2_begin s a g p1 p2 = some (r9, s9, a9, g9)) : q_Mi l yX2_begin wsX2_begin ({ frames := 1, cells := 0, slots := 0, locals := 21 }) D (q_tY ca) (q_wY h ad ca) [.ref h, .int p1, .int p2] s a g r9 s9 a9 g9 := by
  unfold f_X2_begin at hf
  refine q_entI (cc := cX2_begin) (maxL := 3) (ret := (some .int)) (by decide) rfl (Nat.le_of_ble_eq_true rfl) ?_
  intro p e st m args below meth c A ls C hr hlocks hml hA I hl
  have hl : lv_has ls 3 [(0, .ref h), (1, .int p1), (2, .int p2)] := hl
  have hinX2 : ∀ w ∈ wsX20, w ∈ wsX2_begin := fun _ h => List.mem_cons_of_mem _ (List.mem_append_right _ h)
  have k121 : Cond.fieldLink RX2 121 "ReaderYard" "steps" "I" ∈ wsX2_begin := by decide +kernel
  have k127 : Cond.fieldLink RX2 127 "ReaderYard" "stepsEver" "I" ∈ wsX2_begin := by decide +kernel
  have k23 : Cond.fieldLink RX2 23 "ReaderYard" "begun" "[I" ∈ wsX2_begin := by decide +kernel
  have k124 : Cond.fieldLink RX2 124 "ReaderYard" "deepest" "I" ∈ wsX2_begin := by decide +kernel
  have kmA : Cond.methodLink RX2 154 Lib.Math.max.name ∈ wsX2_begin := by decide +kernel
  have kmB : Cond.static Lib.Math.max.name ∈ wsX2_begin := by decide +kernel
  have kmC : Cond.initialized "java/lang/Math" ∈ wsX2_begin := by decide +kernel
  have kmD : Cond.code Lib.Math.max.name Lib.Math.max.code 2 (some .int) ∈ wsX2_begin := by decide +kernel
  refine lv_iload_n C.1 C.2.1 dX2_begin_0 rfl (lv_at hl 2 rfl) ?_
  refine lv_sipush (v := 150) C.1 C.2.1 dX2_begin_1 (by decide) ?_
  refine lv_icmp_le (tgt := 12) C.1 C.2.1 dX2_begin_4 (by decide) (fun c1 => ?_) (fun c1 => ?_)
  · have hf := q_if_t hf c1
    refine lv_aload_n C.1 C.2.1 dX2_begin_12 rfl (lv_at hl 0 rfl) ?_
    refine q_get_RX2_121 C hinX2 k121 I dX2_begin_13 ?_
    refine lv_sipush (v := 3000) C.1 C.2.1 dX2_begin_16 (by decide) ?_
    refine lv_icmp_lt (tgt := 27) C.1 C.2.1 dX2_begin_19 (by decide) (fun c2 => ?_) (fun c2 => ?_)
    · have hf := q_if_t hf c2
      refine lv_aload_n C.1 C.2.1 dX2_begin_27 rfl (lv_at hl 0 rfl) ?_
      refine lv_dup C.1 C.2.1 dX2_begin_28 rfl ?_
      refine q_get_RX2_121 C hinX2 k121 I dX2_begin_29 ?_
      refine lv_iconst (v := 1) C.1 C.2.1 dX2_begin_32 (by decide) ?_
      refine lv_iadd C.1 C.2.1 dX2_begin_33 ?_
      obtain ⟨s3, e4, hf⟩ := q_bd_some hf
      refine q_put_RX2_121 C hinX2 k121 e4 I dX2_begin_34 (fun H locs I => ?_)
      refine lv_aload_n C.1 C.2.1 dX2_begin_37 rfl (lv_at hl 0 rfl) ?_
      refine lv_dup C.1 C.2.1 dX2_begin_38 rfl ?_
      refine q_get_RX2_127 C hinX2 k127 I dX2_begin_39 ?_
      refine lv_iconst (v := 1) C.1 C.2.1 dX2_begin_42 (by decide) ?_
      refine lv_iadd C.1 C.2.1 dX2_begin_43 ?_
      obtain ⟨s5, e6, hf⟩ := q_bd_some hf
      refine q_put_RX2_127 C hinX2 k127 e6 I dX2_begin_44 (fun H locs I => ?_)
      refine lv_aload_n C.1 C.2.1 dX2_begin_47 rfl (lv_at hl 0 rfl) ?_
      refine q_get_RX2_23 C hinX2 k23 I dX2_begin_48 ?_
      refine lv_iload_n C.1 C.2.1 dX2_begin_51 rfl (lv_at hl 1 rfl) ?_
      refine lv_dup2_11 C.1 C.2.1 dX2_begin_52 rfl rfl ?_
      obtain ⟨b7, hf⟩ := q_ck_some hf
      refine q_ld_Y_begun C b7 I dX2_begin_53 ?_
      refine lv_iconst (v := 1) C.1 C.2.1 dX2_begin_54 (by decide) ?_
      refine lv_iadd C.1 C.2.1 dX2_begin_55 ?_
      obtain ⟨b8, hf⟩ := q_ck_some hf
      obtain ⟨a10, e9, hf⟩ := q_bd_some hf
      refine q_st_Y_begun C b8 e9 I dX2_begin_56 (fun H locs I => ?_)
      refine lv_aload_n C.1 C.2.1 dX2_begin_57 rfl (lv_at hl 0 rfl) ?_
      refine lv_aload_n C.1 C.2.1 dX2_begin_58 rfl (lv_at hl 0 rfl) ?_
      refine q_get_RX2_124 C hinX2 k124 I dX2_begin_59 ?_
      refine lv_iload_n C.1 C.2.1 dX2_begin_62 rfl (lv_at hl 2 rfl) ?_
      refine va_mmax C.1 C.2.1 (hml.trans hl.1.symm) C.2.2.1 (C.2.2.2.1 _ kmA) (C.2.2.2.1 _ kmB) (C.2.2.2.1 _ kmC) (C.2.2.2.1 _ kmD) (Nat.le_of_ble_eq_true rfl) (Nat.le_of_ble_eq_true rfl) (Nat.zero_le _) (Nat.zero_le _) dX2_begin_63 ?_
      obtain ⟨s11, e12, hf⟩ := q_bd_some hf
      refine q_put_RX2_124 C hinX2 k124 e12 I dX2_begin_66 (fun H locs I => ?_)
      refine lv_iconst (v := 0) C.1 C.2.1 dX2_begin_69 (by decide) ?_
      obtain ⟨rfl, rfl, rfl, rfl⟩ := q_some4 hf
      exact q_iret C hr hlocks I dX2_begin_70
    · have hf := q_if_f hf c2
      refine lv_iconst (v := 5) C.1 C.2.1 dX2_begin_22 (by decide) ?_
      obtain ⟨r17, s13, a14, g15, h16, hf⟩ := q_ci_some hf
      refine q_callSi (As := [.int 5]) (rest := []) C hml (c_X2_faultAnswer h16) (va_cwS 1 C.2.2.2.1 gX2_begin_X2_faultAnswer rfl rfl rfl e_X2_faultAnswer ⟨Nat.le_of_ble_eq_true rfl, Nat.le_of_ble_eq_true rfl⟩) I hA rfl hl.1 rfl (Nat.le_of_ble_eq_true rfl) dX2_begin_23 ⟨Nat.zero_le _, Nat.zero_le _⟩ (fun H locs I => ?_)
      obtain ⟨rfl, rfl, rfl, rfl⟩ := q_some4 hf
      exact q_iret C hr hlocks I dX2_begin_26
  · have hf := q_if_f hf c1
    refine lv_iconst (v := 4) C.1 C.2.1 dX2_begin_7 (by decide) ?_
    obtain ⟨r22, s18, a19, g20, h21, hf⟩ := q_ci_some hf
    refine q_callSi (As := [.int 4]) (rest := []) C hml (c_X2_faultAnswer h21) (va_cwS 1 C.2.2.2.1 gX2_begin_X2_faultAnswer rfl rfl rfl e_X2_faultAnswer ⟨Nat.le_of_ble_eq_true rfl, Nat.le_of_ble_eq_true rfl⟩) I hA rfl hl.1 rfl (Nat.le_of_ble_eq_true rfl) dX2_begin_8 ⟨Nat.zero_le _, Nat.zero_le _⟩ (fun H locs I => ?_)
    obtain ⟨rfl, rfl, rfl, rfl⟩ := q_some4 hf
    exact q_iret C hr hlocks I dX2_begin_11
def f_X2_turn (s : q_s) (a : q_a) (g : q_g) (p1 : Int32) (p2 : Int32) (p3 : Int32) (p4 : Int32) (p5 : Int32) : Option (Int32 × q_S) :=
 q_ci (f_X2_isFault s a g p3) fun r5 s1 a2 g3 =>
 if r5 = 0 then
  q_ck p1 50 <|
  if a2 2 p1.toNatClampNeg = 7 then
   if p3 = (-1) then
    some (p2, s1, a2, g3)
   else
    some (p3, s1, a2, g3)
  else
   if a2 2 p1.toNatClampNeg = 8 then
    if p3 = (-1) then
     some (p2, s1, a2, g3)
    else
     some ((-1), s1, a2, g3)
   else
    if a2 2 p1.toNatClampNeg = 9 then
     q_cv (f_X2_takeBack s1 a2 g3 p4 p5) fun s13 a14 g15 =>
     if p3 = (-1) then
      some ((-1), s13, a14, g15)
     else
      some (p2, s13, a14, g15)
    else
     if p3 = (-1) then
      some (p3, s1, a2, g3)
     else
      q_ck p1 50 <|
      q_cv (f_X0_add s1 a2 g3 (a2 4 p1.toNatClampNeg) p2 p3) fun s21 a22 g23 =>
      some (p3, s21, a22, g23)
 else
  some (p3, s1, a2, g3)
theorem e_X2_turn : yX2_turn.cls = RX2 ∧ yX2_turn.cls ≠ "java/lang/invoke/MethodHandle" ∧ yX2_turn.cls ≠ "java/lang/invoke/VarHandle" ∧ (parseMethodDescriptor yX2_turn.desc).map (fun d => d.parameters.length) = some 5 := by decide +kernel
set_option maxHeartbeats 4000000 in
set_option maxRecDepth 100000 in
theorem c_X2_turn {l : Launch} {D : va_G} {h : Nat} {ad : Nat → Nat} {ca : Nat → ClassId} {s s9 : q_s} {a a9 : q_a} {g g9 : q_g} {p1 : Int32} {p2 : Int32} {p3 : Int32} {p4 : Int32} {p5 : Int32} {r9 : Int32} (hf : f_X2_turn s a g p1 p2 p3 p4 p5 = some (r9, s9, a9, g9)) : q_Mi l yX2_turn wsX2_turn ({ frames := 1, cells := 0, slots := 0, locals := 23 }) D (q_tY ca) (q_wY h ad ca) [.ref h, .int p1, .int p2, .int p3, .int p4, .int p5] s a g r9 s9 a9 g9 := by
  unfold f_X2_turn at hf
  refine q_entI (cc := cX2_turn) (maxL := 6) (ret := (some .int)) (by decide) rfl (Nat.le_of_ble_eq_true rfl) ?_
  intro p e st m args below meth c A ls C hr hlocks hml hA I hl
  have hl : lv_has ls 6 [(0, .ref h), (1, .int p1), (2, .int p2), (3, .int p3), (4, .int p4), (5, .int p5)] := hl
  have hinX2 : ∀ w ∈ wsX20, w ∈ wsX2_turn := fun _ h => List.mem_cons_of_mem _ (List.mem_append_left _ (List.mem_append_left _ (List.mem_append_right _ h)))
  have k13 : Cond.fieldLink RX2 13 "ReaderYard" "sorts" "[I" ∈ wsX2_turn := by decide +kernel
  have k43 : Cond.fieldLink RX2 43 "ReaderYard" "marks" "LReaderYard$Marks;" ∈ wsX2_turn := by decide +kernel
  have k20 : Cond.fieldLink RX2 20 "ReaderYard" "seconds" "[I" ∈ wsX2_turn := by decide +kernel
  refine lv_iload_n C.1 C.2.1 dX2_turn_0 rfl (lv_at hl 3 rfl) ?_
  obtain ⟨r5, s1, a2, g3, h4, hf⟩ := q_ci_some hf
  refine q_callSi (As := [.int p3]) (rest := []) C hml (c_X2_isFault h4) (va_cwS 1 C.2.2.2.1 gX2_turn_X2_isFault rfl rfl rfl e_X2_isFault ⟨Nat.le_of_ble_eq_true rfl, Nat.le_of_ble_eq_true rfl⟩) I hA rfl hl.1 rfl (Nat.le_of_ble_eq_true rfl) dX2_turn_1 ⟨Nat.zero_le _, Nat.zero_le _⟩ (fun H locs I => ?_)
  refine lv_if_eq (tgt := 9) C.1 C.2.1 dX2_turn_4 (by decide) (fun c6 => ?_) (fun c6 => ?_)
  · have hf := q_if_t hf c6
    refine lv_aload_n C.1 C.2.1 dX2_turn_9 rfl (lv_at hl 0 rfl) ?_
    refine q_get_RX2_13 C hinX2 k13 I dX2_turn_10 ?_
    refine lv_iload_n C.1 C.2.1 dX2_turn_13 rfl (lv_at hl 1 rfl) ?_
    obtain ⟨b7, hf⟩ := q_ck_some hf
    refine q_ld_Y_sorts C b7 I dX2_turn_14 ?_
    by_cases c8 : a2 2 p1.toNatClampNeg = 7
    · have hf := q_if_t hf c8
      refine lv_tableIn (off := 25) (tgt := 40) C.1 C.2.1 dX2_turn_15 (by skip <;> rw [c8] <;> decide) (by skip <;> rw [c8] <;> decide) (by skip <;> rw [c8] <;> rfl) (by decide) ?_
      refine lv_iload_n C.1 C.2.1 dX2_turn_40 rfl (lv_at hl 3 rfl) ?_
      refine lv_iconst (v := (-1)) C.1 C.2.1 dX2_turn_41 (by decide) ?_
      refine lv_icmp_ne (tgt := 49) C.1 C.2.1 dX2_turn_42 (by decide) (fun c9 => ?_) (fun c9 => ?_)
      · have hf := q_if_f hf c9
        refine lv_iload_n C.1 C.2.1 dX2_turn_49 rfl (lv_at hl 3 rfl) ?_
        obtain ⟨rfl, rfl, rfl, rfl⟩ := q_some4 hf
        exact q_iret C hr hlocks I dX2_turn_50
      · have hf := q_if_t hf c9
        refine lv_iload_n C.1 C.2.1 dX2_turn_45 rfl (lv_at hl 2 rfl) ?_
        refine lv_goto (tgt := 50) C.1 C.2.1 dX2_turn_46 (by decide) ?_
        obtain ⟨rfl, rfl, rfl, rfl⟩ := q_some4 hf
        exact q_iret C hr hlocks I dX2_turn_50
    have hf := q_if_f hf c8
    by_cases c10 : a2 2 p1.toNatClampNeg = 8
    · have hf := q_if_t hf c10
      refine lv_tableIn (off := 36) (tgt := 51) C.1 C.2.1 dX2_turn_15 (by skip <;> rw [c10] <;> decide) (by skip <;> rw [c10] <;> decide) (by skip <;> rw [c10] <;> rfl) (by decide) ?_
      refine lv_iload_n C.1 C.2.1 dX2_turn_51 rfl (lv_at hl 3 rfl) ?_
      refine lv_iconst (v := (-1)) C.1 C.2.1 dX2_turn_52 (by decide) ?_
      refine lv_icmp_ne (tgt := 60) C.1 C.2.1 dX2_turn_53 (by decide) (fun c11 => ?_) (fun c11 => ?_)
      · have hf := q_if_f hf c11
        refine lv_iconst (v := (-1)) C.1 C.2.1 dX2_turn_60 (by decide) ?_
        obtain ⟨rfl, rfl, rfl, rfl⟩ := q_some4 hf
        exact q_iret C hr hlocks I dX2_turn_61
      · have hf := q_if_t hf c11
        refine lv_iload_n C.1 C.2.1 dX2_turn_56 rfl (lv_at hl 2 rfl) ?_
        refine lv_goto (tgt := 61) C.1 C.2.1 dX2_turn_57 (by decide) ?_
        obtain ⟨rfl, rfl, rfl, rfl⟩ := q_some4 hf
        exact q_iret C hr hlocks I dX2_turn_61
    have hf := q_if_f hf c10
    by_cases c12 : a2 2 p1.toNatClampNeg = 9
    · have hf := q_if_t hf c12
      refine lv_tableIn (off := 47) (tgt := 62) C.1 C.2.1 dX2_turn_15 (by skip <;> rw [c12] <;> decide) (by skip <;> rw [c12] <;> decide) (by skip <;> rw [c12] <;> rfl) (by decide) ?_
      refine lv_aload_n C.1 C.2.1 dX2_turn_62 rfl (lv_at hl 0 rfl) ?_
      refine lv_iload C.1 C.2.1 dX2_turn_63 (lv_at hl 4 rfl) ?_
      refine lv_iload C.1 C.2.1 dX2_turn_65 (lv_at hl 5 rfl) ?_
      obtain ⟨s13, a14, g15, h16, hf⟩ := q_cv_some hf
      refine q_callVv (As := [.int p4, .int p5]) (rest := []) C hml (c_X2_takeBack h16) (cwV 2 C.2.2.2.1 gX2_turn_X2_takeBack rfl rfl rfl e_X2_takeBack ⟨Nat.le_of_ble_eq_true rfl, Nat.le_of_ble_eq_true rfl⟩) I hA (q0 := 0) (ci := 2) rfl rfl rfl rfl hl.1 rfl (Nat.le_of_ble_eq_true rfl) dX2_turn_67 ⟨Nat.zero_le _, Nat.zero_le _⟩ (fun H locs I => ?_)
      refine lv_iload_n C.1 C.2.1 dX2_turn_70 rfl (lv_at hl 3 rfl) ?_
      refine lv_iconst (v := (-1)) C.1 C.2.1 dX2_turn_71 (by decide) ?_
      refine lv_icmp_ne (tgt := 79) C.1 C.2.1 dX2_turn_72 (by decide) (fun c18 => ?_) (fun c18 => ?_)
      · have hf := q_if_f hf c18
        refine lv_iload_n C.1 C.2.1 dX2_turn_79 rfl (lv_at hl 2 rfl) ?_
        obtain ⟨rfl, rfl, rfl, rfl⟩ := q_some4 hf
        exact q_iret C hr hlocks I dX2_turn_80
      · have hf := q_if_t hf c18
        refine lv_iconst (v := (-1)) C.1 C.2.1 dX2_turn_75 (by decide) ?_
        refine lv_goto (tgt := 80) C.1 C.2.1 dX2_turn_76 (by decide) ?_
        obtain ⟨rfl, rfl, rfl, rfl⟩ := q_some4 hf
        exact q_iret C hr hlocks I dX2_turn_80
    have hf := q_if_f hf c12
    refine lv_tableOut (tgt := 81) C.1 C.2.1 dX2_turn_15 (by
      refine q_out (fun k k1 k2 => ?_)
      have k3 : k = 7 ∨ k = 8 ∨ k = 9 := by omega
      rcases k3 with rfl | rfl | rfl
      · exact fun z => c8 (z)
      · exact fun z => c10 (z)
      · exact fun z => c12 (z)
      ) (by decide) ?_
    refine lv_iload_n C.1 C.2.1 dX2_turn_81 rfl (lv_at hl 3 rfl) ?_
    refine lv_iconst (v := (-1)) C.1 C.2.1 dX2_turn_82 (by decide) ?_
    refine lv_icmp_eq (tgt := 101) C.1 C.2.1 dX2_turn_83 (by decide) (fun c19 => ?_) (fun c19 => ?_)
    · have hf := q_if_t hf c19
      refine lv_iload_n C.1 C.2.1 dX2_turn_101 rfl (lv_at hl 3 rfl) ?_
      obtain ⟨rfl, rfl, rfl, rfl⟩ := q_some4 hf
      exact q_iret C hr hlocks I dX2_turn_102
    · have hf := q_if_f hf c19
      refine lv_aload_n C.1 C.2.1 dX2_turn_86 rfl (lv_at hl 0 rfl) ?_
      refine q_get_RX2_43 C hinX2 k43 I dX2_turn_87 ?_
      refine lv_aload_n C.1 C.2.1 dX2_turn_90 rfl (lv_at hl 0 rfl) ?_
      refine q_get_RX2_20 C hinX2 k20 I dX2_turn_91 ?_
      refine lv_iload_n C.1 C.2.1 dX2_turn_94 rfl (lv_at hl 1 rfl) ?_
      obtain ⟨b20, hf⟩ := q_ck_some hf
      refine q_ld_Y_seconds C b20 I dX2_turn_95 ?_
      refine lv_iload_n C.1 C.2.1 dX2_turn_96 rfl (lv_at hl 2 rfl) ?_
      refine lv_iload_n C.1 C.2.1 dX2_turn_97 rfl (lv_at hl 3 rfl) ?_
      obtain ⟨s21, a22, g23, h24, hf⟩ := q_cv_some hf
      refine q_callVv (As := [.int (a2 4 p1.toNatClampNeg), .int p2, .int p3]) (rest := []) C hml (c_X0_add h24) (cwV 3 C.2.2.2.1 gX2_turn_X0_add rfl rfl rfl e_X0_add ⟨Nat.le_of_ble_eq_true rfl, Nat.le_of_ble_eq_true rfl⟩) I hA (q0 := 2) (ci := 0) rfl rfl rfl rfl hl.1 rfl (Nat.le_of_ble_eq_true rfl) dX2_turn_98 ⟨Nat.zero_le _, Nat.zero_le _⟩ (fun H locs I => ?_)
      refine lv_iload_n C.1 C.2.1 dX2_turn_101 rfl (lv_at hl 3 rfl) ?_
      obtain ⟨rfl, rfl, rfl, rfl⟩ := q_some4 hf
      exact q_iret C hr hlocks I dX2_turn_102
  · have hf := q_if_f hf c6
    refine lv_iload_n C.1 C.2.1 dX2_turn_7 rfl (lv_at hl 3 rfl) ?_
    obtain ⟨rfl, rfl, rfl, rfl⟩ := q_some4 hf
    exact q_iret C hr hlocks I dX2_turn_8
def f_X2_passSign (s : q_s) (a : q_a) (g : q_g) (p1 : Int32) (p2 : Int32) (p3 : Int32) : Option (Int32 × q_S) :=
 if p1 < 0 then
  some ((-1), s, a, g)
 else
  if p1 < s 1 then
   q_ck p1 200 <|
   if a 0 p1.toNatClampNeg < p2 then
    some ((-1), s, a, g)
   else
    if p3 < a 0 p1.toNatClampNeg then
     some ((-1), s, a, g)
    else
     some (p1 + 1, s, a, g)
  else
   some ((-1), s, a, g)
theorem e_X2_passSign : yX2_passSign.cls = RX2 ∧ yX2_passSign.cls ≠ "java/lang/invoke/MethodHandle" ∧ yX2_passSign.cls ≠ "java/lang/invoke/VarHandle" ∧ (parseMethodDescriptor yX2_passSign.desc).map (fun d => d.parameters.length) = some 3 := by decide +kernel
set_option maxHeartbeats 4000000 in
set_option maxRecDepth 100000 in
theorem c_X2_passSign {l : Launch} {D : va_G} {h : Nat} {ad : Nat → Nat} {ca : Nat → ClassId} {s s9 : q_s} {a a9 : q_a} {g g9 : q_g} {p1 : Int32} {p2 : Int32} {p3 : Int32} {r9 : Int32} (hf : f_X2_passSign s a g p1 p2 p3 = some (r9, s9, a9, g9)) : q_Mi l yX2_passSign wsX2_passSign ({ frames := 0, cells := 0, slots := 0, locals := 0 }) D (q_tY ca) (q_wY h ad ca) [.ref h, .int p1, .int p2, .int p3] s a g r9 s9 a9 g9 := by
  unfold f_X2_passSign at hf
  refine q_entI (cc := cX2_passSign) (maxL := 5) (ret := (some .int)) (by decide) rfl (Nat.le_of_ble_eq_true rfl) ?_
  intro p e st m args below meth c A ls C hr hlocks hml hA I hl
  have hl : lv_has ls 5 [(0, .ref h), (1, .int p1), (2, .int p2), (3, .int p3)] := hl
  have hinX2 : ∀ w ∈ wsX20, w ∈ wsX2_passSign := fun _ h => List.mem_cons_of_mem _ (List.mem_append_right _ h)
  have k57 : Cond.fieldLink RX2 57 "ReaderYard" "signCount" "I" ∈ wsX2_passSign := by decide +kernel
  have k9 : Cond.fieldLink RX2 9 "ReaderYard" "signs" "[B" ∈ wsX2_passSign := by decide +kernel
  refine lv_iload_n C.1 C.2.1 dX2_passSign_0 rfl (lv_at hl 1 rfl) ?_
  refine lv_if_lt (tgt := 12) C.1 C.2.1 dX2_passSign_1 (by decide) (fun c1 => ?_) (fun c1 => ?_)
  · have hf := q_if_t hf c1
    refine lv_iconst (v := (-1)) C.1 C.2.1 dX2_passSign_12 (by decide) ?_
    obtain ⟨rfl, rfl, rfl, rfl⟩ := q_some4 hf
    exact q_iret C hr hlocks I dX2_passSign_13
  · have hf := q_if_f hf c1
    refine lv_iload_n C.1 C.2.1 dX2_passSign_4 rfl (lv_at hl 1 rfl) ?_
    refine lv_aload_n C.1 C.2.1 dX2_passSign_5 rfl (lv_at hl 0 rfl) ?_
    refine q_get_RX2_57 C hinX2 k57 I dX2_passSign_6 ?_
    refine lv_icmp_lt (tgt := 14) C.1 C.2.1 dX2_passSign_9 (by decide) (fun c2 => ?_) (fun c2 => ?_)
    · have hf := q_if_t hf c2
      refine lv_aload_n C.1 C.2.1 dX2_passSign_14 rfl (lv_at hl 0 rfl) ?_
      refine q_get_RX2_9 C hinX2 k9 I dX2_passSign_15 ?_
      refine lv_iload_n C.1 C.2.1 dX2_passSign_18 rfl (lv_at hl 1 rfl) ?_
      obtain ⟨b3, hf⟩ := q_ck_some hf
      refine q_ld_Y_signs C b3 I dX2_passSign_19 ?_
      refine lv_istore (lv' := [(4, .int (a 0 p1.toNatClampNeg)), (0, .ref h), (1, .int p1), (2, .int p2), (3, .int p3)]) C.1 C.2.1 dX2_passSign_20 hl (by decide) rfl (fun ls hl => ?_)
      refine lv_iload C.1 C.2.1 dX2_passSign_22 (lv_at hl 0 rfl) ?_
      refine lv_iload_n C.1 C.2.1 dX2_passSign_24 rfl (lv_at hl 3 rfl) ?_
      refine lv_icmp_lt (tgt := 40) C.1 C.2.1 dX2_passSign_25 (by decide) (fun c4 => ?_) (fun c4 => ?_)
      · have hf := q_if_t hf c4
        refine lv_iconst (v := (-1)) C.1 C.2.1 dX2_passSign_40 (by decide) ?_
        obtain ⟨rfl, rfl, rfl, rfl⟩ := q_some4 hf
        exact q_iret C hr hlocks I dX2_passSign_41
      · have hf := q_if_f hf c4
        refine lv_iload C.1 C.2.1 dX2_passSign_28 (lv_at hl 0 rfl) ?_
        refine lv_iload_n C.1 C.2.1 dX2_passSign_30 rfl (lv_at hl 4 rfl) ?_
        refine lv_icmp_gt (tgt := 40) C.1 C.2.1 dX2_passSign_31 (by decide) (fun c5 => ?_) (fun c5 => ?_)
        · have hf := q_if_t hf c5
          refine lv_iconst (v := (-1)) C.1 C.2.1 dX2_passSign_40 (by decide) ?_
          obtain ⟨rfl, rfl, rfl, rfl⟩ := q_some4 hf
          exact q_iret C hr hlocks I dX2_passSign_41
        · have hf := q_if_f hf c5
          refine lv_iload_n C.1 C.2.1 dX2_passSign_34 rfl (lv_at hl 2 rfl) ?_
          refine lv_iconst (v := 1) C.1 C.2.1 dX2_passSign_35 (by decide) ?_
          refine lv_iadd C.1 C.2.1 dX2_passSign_36 ?_
          refine lv_goto (tgt := 41) C.1 C.2.1 dX2_passSign_37 (by decide) ?_
          obtain ⟨rfl, rfl, rfl, rfl⟩ := q_some4 hf
          exact q_iret C hr hlocks I dX2_passSign_41
    · have hf := q_if_f hf c2
      refine lv_iconst (v := (-1)) C.1 C.2.1 dX2_passSign_12 (by decide) ?_
      obtain ⟨rfl, rfl, rfl, rfl⟩ := q_some4 hf
      exact q_iret C hr hlocks I dX2_passSign_13
def f_X2_readFigure (n : Nat) (s : q_s) (a : q_a) (g : q_g) (p1 : Int32) : Option (Int32 × q_S) :=
 q_ci (f_X2_passSign s a g p1 48 57) fun r5 s1 a2 g3 =>
 if r5 = (-1) then
  some ((-1), s1, a2, g3)
 else
  q_ci (f_X1_height s1 a2 g3) fun r11 s7 a8 g9 =>
  if 1 ≤ r11 then
   q_cl (f_X1_numberUnder n s7 a8 g9 0) fun r17 s13 a14 g15 =>
   q_ck p1 200 <|
   q_cv (f_X1_lay n s13 a14 g15 (((10 * r17) + ((a14 0 p1.toNatClampNeg).toInt64)) - 48) 1) fun s19 a20 g21 =>
   some (r5, s19, a20, g21)
  else
   q_ci (f_X2_faultAnswer s7 a8 g9 3) fun r28 s24 a25 g26 =>
   some (r28, s24, a25, g26)
theorem e_X2_readFigure : yX2_readFigure.cls = RX2 ∧ yX2_readFigure.cls ≠ "java/lang/invoke/MethodHandle" ∧ yX2_readFigure.cls ≠ "java/lang/invoke/VarHandle" ∧ (parseMethodDescriptor yX2_readFigure.desc).map (fun d => d.parameters.length) = some 1 := by decide +kernel
set_option maxHeartbeats 4000000 in
set_option maxRecDepth 100000 in
theorem c_X2_readFigure {l : Launch} {D : va_G} {h : Nat} {ad : Nat → Nat} {ca : Nat → ClassId} {n : Nat} {s s9 : q_s} {a a9 : q_a} {g g9 : q_g} {p1 : Int32} {r9 : Int32} (hf : f_X2_readFigure n s a g p1 = some (r9, s9, a9, g9)) : q_Mi l yX2_readFigure wsX2_readFigure ({ frames := 2, cells := 0, slots := 0, locals := 47 }) D (q_tY ca) (q_wY h ad ca) [.ref h, .int p1] s a g r9 s9 a9 g9 := by
  unfold f_X2_readFigure at hf
  refine q_entI (cc := cX2_readFigure) (maxL := 3) (ret := (some .int)) (by decide) rfl (Nat.le_of_ble_eq_true rfl) ?_
  intro p e st m args below meth c A ls C hr hlocks hml hA I hl
  have hl : lv_has ls 3 [(0, .ref h), (1, .int p1)] := hl
  have hinX2 : ∀ w ∈ wsX20, w ∈ wsX2_readFigure := fun _ h => List.mem_cons_of_mem _ (List.mem_append_left _ (List.mem_append_right _ h))
  have k36 : Cond.fieldLink RX2 36 "ReaderYard" "numbers" "LReaderYard$Pile;" ∈ wsX2_readFigure := by decide +kernel
  have k176 : Cond.constantLong RX2 176 (10) ∈ wsX2_readFigure := by decide +kernel
  have k9 : Cond.fieldLink RX2 9 "ReaderYard" "signs" "[B" ∈ wsX2_readFigure := by decide +kernel
  have k178 : Cond.constantLong RX2 178 (48) ∈ wsX2_readFigure := by decide +kernel
  refine lv_aload_n C.1 C.2.1 dX2_readFigure_0 rfl (lv_at hl 0 rfl) ?_
  refine lv_iload_n C.1 C.2.1 dX2_readFigure_1 rfl (lv_at hl 1 rfl) ?_
  refine lv_bipush (v := 48) C.1 C.2.1 dX2_readFigure_2 (by decide) ?_
  refine lv_bipush (v := 57) C.1 C.2.1 dX2_readFigure_4 (by decide) ?_
  obtain ⟨r5, s1, a2, g3, h4, hf⟩ := q_ci_some hf
  refine q_callVi (As := [.int p1, .int 48, .int 57]) (rest := []) C hml (c_X2_passSign h4) (cwV 3 C.2.2.2.1 gX2_readFigure_X2_passSign rfl rfl rfl e_X2_passSign ⟨Nat.le_of_ble_eq_true rfl, Nat.le_of_ble_eq_true rfl⟩) I hA (q0 := 0) (ci := 2) rfl rfl rfl rfl hl.1 rfl (Nat.le_of_ble_eq_true rfl) dX2_readFigure_6 ⟨Nat.zero_le _, Nat.zero_le _⟩ (fun H locs I => ?_)
  refine lv_istore_n (lv' := [(2, .int r5), (0, .ref h), (1, .int p1)]) C.1 C.2.1 dX2_readFigure_9 rfl hl (by decide) rfl (fun ls hl => ?_)
  refine lv_iload_n C.1 C.2.1 dX2_readFigure_10 rfl (lv_at hl 0 rfl) ?_
  refine lv_iconst (v := (-1)) C.1 C.2.1 dX2_readFigure_11 (by decide) ?_
  refine lv_icmp_ne (tgt := 17) C.1 C.2.1 dX2_readFigure_12 (by decide) (fun c6 => ?_) (fun c6 => ?_)
  · have hf := q_if_f hf c6
    refine lv_aload_n C.1 C.2.1 dX2_readFigure_17 rfl (lv_at hl 1 rfl) ?_
    refine q_get_RX2_36 C hinX2 k36 I dX2_readFigure_18 ?_
    obtain ⟨r11, s7, a8, g9, h10, hf⟩ := q_ci_some hf
    refine q_callVi (As := []) (rest := []) C hml (c_X1_height h10) (cwV 0 C.2.2.2.1 gX2_readFigure_X1_height rfl rfl rfl e_X1_height ⟨Nat.le_of_ble_eq_true rfl, Nat.le_of_ble_eq_true rfl⟩) I hA (q0 := 1) (ci := 1) rfl rfl rfl rfl hl.1 rfl (Nat.le_of_ble_eq_true rfl) dX2_readFigure_21 ⟨Nat.zero_le _, Nat.zero_le _⟩ (fun H locs I => ?_)
    refine lv_iconst (v := 1) C.1 C.2.1 dX2_readFigure_24 (by decide) ?_
    refine lv_icmp_ge (tgt := 33) C.1 C.2.1 dX2_readFigure_25 (by decide) (fun c12 => ?_) (fun c12 => ?_)
    · have hf := q_if_t hf c12
      refine lv_aload_n C.1 C.2.1 dX2_readFigure_33 rfl (lv_at hl 1 rfl) ?_
      refine q_get_RX2_36 C hinX2 k36 I dX2_readFigure_34 ?_
      refine lv_ldc2 (v := 10) C.1 C.2.1 C.2.2.1 (C.2.2.2.1 _ k176) dX2_readFigure_37 ?_
      refine lv_aload_n C.1 C.2.1 dX2_readFigure_40 rfl (lv_at hl 1 rfl) ?_
      refine q_get_RX2_36 C hinX2 k36 I dX2_readFigure_41 ?_
      refine lv_iconst (v := 0) C.1 C.2.1 dX2_readFigure_44 (by decide) ?_
      obtain ⟨r17, s13, a14, g15, h16, hf⟩ := q_cl_some hf
      refine q_callVl (As := [.int 0]) (rest := [.long 10, .ref (ad 9)]) C hml (c_X1_numberUnder h16) (cwV 1 C.2.2.2.1 gX2_readFigure_X1_numberUnder rfl rfl rfl e_X1_numberUnder ⟨Nat.le_of_ble_eq_true rfl, Nat.le_of_ble_eq_true rfl⟩) I hA (q0 := 1) (ci := 1) rfl rfl rfl rfl hl.1 rfl (Nat.le_of_ble_eq_true rfl) dX2_readFigure_45 ⟨Nat.zero_le _, Nat.zero_le _⟩ (fun H locs I => ?_)
      refine lv_lmul C.1 C.2.1 dX2_readFigure_48 ?_
      refine lv_aload_n C.1 C.2.1 dX2_readFigure_49 rfl (lv_at hl 1 rfl) ?_
      refine q_get_RX2_9 C hinX2 k9 I dX2_readFigure_50 ?_
      refine lv_iload_n C.1 C.2.1 dX2_readFigure_53 rfl (lv_at hl 2 rfl) ?_
      obtain ⟨b18, hf⟩ := q_ck_some hf
      refine q_ld_Y_signs C b18 I dX2_readFigure_54 ?_
      refine lv_i2l (v := (a14 0 p1.toNatClampNeg).toInt64) C.1 C.2.1 dX2_readFigure_55 rfl ?_
      refine lv_ladd C.1 C.2.1 dX2_readFigure_56 ?_
      refine lv_ldc2 (v := 48) C.1 C.2.1 C.2.2.1 (C.2.2.2.1 _ k178) dX2_readFigure_57 ?_
      refine lv_lsub C.1 C.2.1 dX2_readFigure_60 ?_
      refine lv_iconst (v := 1) C.1 C.2.1 dX2_readFigure_61 (by decide) ?_
      obtain ⟨s19, a20, g21, h22, hf⟩ := q_cv_some hf
      refine q_callVv (As := [.long (((10 * r17) + ((a14 0 p1.toNatClampNeg).toInt64)) - 48), .int 1]) (rest := []) C hml (c_X1_lay h22) (cwV 2 C.2.2.2.1 gX2_readFigure_X1_lay rfl rfl rfl e_X1_lay ⟨Nat.le_of_ble_eq_true rfl, Nat.le_of_ble_eq_true rfl⟩) I hA (q0 := 1) (ci := 1) rfl rfl rfl rfl hl.1 rfl (Nat.le_of_ble_eq_true rfl) dX2_readFigure_62 ⟨Nat.zero_le _, Nat.zero_le _⟩ (fun H locs I => ?_)
      refine lv_iload_n C.1 C.2.1 dX2_readFigure_65 rfl (lv_at hl 0 rfl) ?_
      obtain ⟨rfl, rfl, rfl, rfl⟩ := q_some4 hf
      exact q_iret C hr hlocks I dX2_readFigure_66
    · have hf := q_if_f hf c12
      refine lv_iconst (v := 3) C.1 C.2.1 dX2_readFigure_28 (by decide) ?_
      obtain ⟨r28, s24, a25, g26, h27, hf⟩ := q_ci_some hf
      refine q_callSi (As := [.int 3]) (rest := []) C hml (c_X2_faultAnswer h27) (va_cwS 1 C.2.2.2.1 gX2_readFigure_X2_faultAnswer rfl rfl rfl e_X2_faultAnswer ⟨Nat.le_of_ble_eq_true rfl, Nat.le_of_ble_eq_true rfl⟩) I hA rfl hl.1 rfl (Nat.le_of_ble_eq_true rfl) dX2_readFigure_29 ⟨Nat.zero_le _, Nat.zero_le _⟩ (fun H locs I => ?_)
      obtain ⟨rfl, rfl, rfl, rfl⟩ := q_some4 hf
      exact q_iret C hr hlocks I dX2_readFigure_32
  · have hf := q_if_t hf c6
    refine lv_iconst (v := (-1)) C.1 C.2.1 dX2_readFigure_15 (by decide) ?_
    obtain ⟨rfl, rfl, rfl, rfl⟩ := q_some4 hf
    exact q_iret C hr hlocks I dX2_readFigure_16
def f_X2_reckon (s : q_s) (a : q_a) (g : q_g) (p1 : Int32) (p2 : Int64) (p3 : Int64) : Option (Int64 × q_S) :=
 if p1 = 0 then
  some (p2 + p3, s, a, g)
 else
  if p1 = 1 then
   some (p2 - p3, s, a, g)
  else
   if p1 = 2 then
    some (p2 * p3, s, a, g)
   else
    if lg_cmp p3 0 = 0 then
     some (0, s, a, g)
    else
     q_nz p3 <|
     some (p2 / p3, s, a, g)
theorem e_X2_reckon : yX2_reckon.cls ≠ "java/lang/invoke/MethodHandle" ∧ yX2_reckon.cls ≠ "java/lang/invoke/VarHandle" ∧ (parseMethodDescriptor yX2_reckon.desc).map (fun d => d.parameters.length) = some 3 := by decide +kernel
set_option maxHeartbeats 4000000 in
set_option maxRecDepth 100000 in
theorem c_X2_reckon {l : Launch} {D : va_G} {h : Nat} {ad : Nat → Nat} {ca : Nat → ClassId} {s s9 : q_s} {a a9 : q_a} {g g9 : q_g} {p1 : Int32} {p2 : Int64} {p3 : Int64} {r9 : Int64} (hf : f_X2_reckon s a g p1 p2 p3 = some (r9, s9, a9, g9)) : q_Ml l yX2_reckon wsX2_reckon ({ frames := 0, cells := 0, slots := 0, locals := 0 }) D (q_tY ca) (q_wY h ad ca) [.int p1, .long p2, .long p3] s a g r9 s9 a9 g9 := by
  unfold f_X2_reckon at hf
  refine q_entL (cc := cX2_reckon) (maxL := 5) (ret := (some .long)) (by decide) rfl (Nat.le_of_ble_eq_true rfl) ?_
  intro p e st m args below meth c A ls C hr hlocks hml hA I hl
  have hl : lv_has ls 5 [(0, .int p1), (1, .long p2), (3, .long p3)] := hl
  refine lv_iload_n C.1 C.2.1 dX2_reckon_0 rfl (lv_at hl 0 rfl) ?_
  by_cases c1 : p1 = 0
  · have hf := q_if_t hf c1
    refine lv_tableIn (off := 27) (tgt := 28) C.1 C.2.1 dX2_reckon_1 (by skip <;> rw [c1] <;> decide) (by skip <;> rw [c1] <;> decide) (by skip <;> rw [c1] <;> rfl) (by decide) ?_
    refine lv_lload_n C.1 C.2.1 dX2_reckon_28 rfl (lv_at hl 1 rfl) ?_
    refine lv_lload_n C.1 C.2.1 dX2_reckon_29 rfl (lv_at hl 2 rfl) ?_
    refine lv_ladd C.1 C.2.1 dX2_reckon_30 ?_
    obtain ⟨rfl, rfl, rfl, rfl⟩ := q_some4 hf
    exact q_lret C hr hlocks I dX2_reckon_31
  have hf := q_if_f hf c1
  by_cases c2 : p1 = 1
  · have hf := q_if_t hf c2
    refine lv_tableIn (off := 31) (tgt := 32) C.1 C.2.1 dX2_reckon_1 (by skip <;> rw [c2] <;> decide) (by skip <;> rw [c2] <;> decide) (by skip <;> rw [c2] <;> rfl) (by decide) ?_
    refine lv_lload_n C.1 C.2.1 dX2_reckon_32 rfl (lv_at hl 1 rfl) ?_
    refine lv_lload_n C.1 C.2.1 dX2_reckon_33 rfl (lv_at hl 2 rfl) ?_
    refine lv_lsub C.1 C.2.1 dX2_reckon_34 ?_
    obtain ⟨rfl, rfl, rfl, rfl⟩ := q_some4 hf
    exact q_lret C hr hlocks I dX2_reckon_35
  have hf := q_if_f hf c2
  by_cases c3 : p1 = 2
  · have hf := q_if_t hf c3
    refine lv_tableIn (off := 35) (tgt := 36) C.1 C.2.1 dX2_reckon_1 (by skip <;> rw [c3] <;> decide) (by skip <;> rw [c3] <;> decide) (by skip <;> rw [c3] <;> rfl) (by decide) ?_
    refine lv_lload_n C.1 C.2.1 dX2_reckon_36 rfl (lv_at hl 1 rfl) ?_
    refine lv_lload_n C.1 C.2.1 dX2_reckon_37 rfl (lv_at hl 2 rfl) ?_
    refine lv_lmul C.1 C.2.1 dX2_reckon_38 ?_
    obtain ⟨rfl, rfl, rfl, rfl⟩ := q_some4 hf
    exact q_lret C hr hlocks I dX2_reckon_39
  have hf := q_if_f hf c3
  refine lv_tableOut (tgt := 40) C.1 C.2.1 dX2_reckon_1 (by
    refine q_out (fun k k1 k2 => ?_)
    have k3 : k = 0 ∨ k = 1 ∨ k = 2 := by omega
    rcases k3 with rfl | rfl | rfl
    · exact fun z => c1 (z)
    · exact fun z => c2 (z)
    · exact fun z => c3 (z)
    ) (by decide) ?_
  refine lv_lload_n C.1 C.2.1 dX2_reckon_40 rfl (lv_at hl 2 rfl) ?_
  refine lv_lconst (v := 0) C.1 C.2.1 dX2_reckon_41 (by decide) ?_
  refine W.lcmp C.1 C.2.1 dX2_reckon_42 ?_
  refine lv_if_ne (tgt := 50) C.1 C.2.1 dX2_reckon_43 (by decide) (fun c4 => ?_) (fun c4 => ?_)
  · have hf := q_if_f hf c4
    refine lv_lload_n C.1 C.2.1 dX2_reckon_50 rfl (lv_at hl 1 rfl) ?_
    refine lv_lload_n C.1 C.2.1 dX2_reckon_51 rfl (lv_at hl 2 rfl) ?_
    obtain ⟨z5, hf⟩ := q_nz_some hf
    refine lv_ldiv C.1 C.2.1 dX2_reckon_52 z5 ?_
    obtain ⟨rfl, rfl, rfl, rfl⟩ := q_some4 hf
    exact q_lret C hr hlocks I dX2_reckon_53
  · have hf := q_if_t hf c4
    refine lv_lconst (v := 0) C.1 C.2.1 dX2_reckon_46 (by decide) ?_
    refine lv_goto (tgt := 53) C.1 C.2.1 dX2_reckon_47 (by decide) ?_
    obtain ⟨rfl, rfl, rfl, rfl⟩ := q_some4 hf
    exact q_lret C hr hlocks I dX2_reckon_53
def f_X2_act (n : Nat) (s : q_s) (a : q_a) (g : q_g) (p1 : Int32) (p2 : Int32) : Option (Int32 × q_S) :=
 q_ci (f_X1_height s a g) fun r5 s1 a2 g3 =>
 if 2 ≤ r5 then
  q_cl (f_X1_numberUnder n s1 a2 g3 0) fun r11 s7 a8 g9 =>
  q_cl (f_X1_numberUnder n s7 a8 g9 1) fun r16 s12 a13 g14 =>
  if p1 = 3 then
   if lg_cmp r11 0 = 0 then
    q_ci (f_X2_faultAnswer s12 a13 g14 2) fun r43 s39 a40 g41 =>
    some (r43, s39, a40, g41)
   else
    q_cl (f_X2_reckon s12 a13 g14 p1 r16 r11) fun r33 s29 a30 g31 =>
    q_cv (f_X1_lay n s29 a30 g31 r33 2) fun s34 a35 g36 =>
    some (p2, s34, a35, g36)
  else
   q_cl (f_X2_reckon s12 a13 g14 p1 r16 r11) fun r22 s18 a19 g20 =>
   q_cv (f_X1_lay n s18 a19 g20 r22 2) fun s23 a24 g25 =>
   some (p2, s23, a24, g25)
 else
  q_ci (f_X2_faultAnswer s1 a2 g3 3) fun r48 s44 a45 g46 =>
  some (r48, s44, a45, g46)
theorem e_X2_act : yX2_act.cls = RX2 ∧ yX2_act.cls ≠ "java/lang/invoke/MethodHandle" ∧ yX2_act.cls ≠ "java/lang/invoke/VarHandle" ∧ (parseMethodDescriptor yX2_act.desc).map (fun d => d.parameters.length) = some 2 := by decide +kernel
set_option maxHeartbeats 4000000 in
set_option maxRecDepth 100000 in
theorem c_X2_act {l : Launch} {D : va_G} {h : Nat} {ad : Nat → Nat} {ca : Nat → ClassId} {n : Nat} {s s9 : q_s} {a a9 : q_a} {g g9 : q_g} {p1 : Int32} {p2 : Int32} {r9 : Int32} (hf : f_X2_act n s a g p1 p2 = some (r9, s9, a9, g9)) : q_Mi l yX2_act wsX2_act ({ frames := 2, cells := 0, slots := 0, locals := 47 }) D (q_tY ca) (q_wY h ad ca) [.ref h, .int p1, .int p2] s a g r9 s9 a9 g9 := by
  unfold f_X2_act at hf
  refine q_entI (cc := cX2_act) (maxL := 7) (ret := (some .int)) (by decide) rfl (Nat.le_of_ble_eq_true rfl) ?_
  intro p e st m args below meth c A ls C hr hlocks hml hA I hl
  have hl : lv_has ls 7 [(0, .ref h), (1, .int p1), (2, .int p2)] := hl
  have hinX2 : ∀ w ∈ wsX20, w ∈ wsX2_act := fun _ h => List.mem_cons_of_mem _ (List.mem_append_left _ (List.mem_append_right _ h))
  have k36 : Cond.fieldLink RX2 36 "ReaderYard" "numbers" "LReaderYard$Pile;" ∈ wsX2_act := by decide +kernel
  refine lv_aload_n C.1 C.2.1 dX2_act_0 rfl (lv_at hl 0 rfl) ?_
  refine q_get_RX2_36 C hinX2 k36 I dX2_act_1 ?_
  obtain ⟨r5, s1, a2, g3, h4, hf⟩ := q_ci_some hf
  refine q_callVi (As := []) (rest := []) C hml (c_X1_height h4) (cwV 0 C.2.2.2.1 gX2_act_X1_height rfl rfl rfl e_X1_height ⟨Nat.le_of_ble_eq_true rfl, Nat.le_of_ble_eq_true rfl⟩) I hA (q0 := 1) (ci := 1) rfl rfl rfl rfl hl.1 rfl (Nat.le_of_ble_eq_true rfl) dX2_act_4 ⟨Nat.zero_le _, Nat.zero_le _⟩ (fun H locs I => ?_)
  refine lv_iconst (v := 2) C.1 C.2.1 dX2_act_7 (by decide) ?_
  refine lv_icmp_ge (tgt := 16) C.1 C.2.1 dX2_act_8 (by decide) (fun c6 => ?_) (fun c6 => ?_)
  · have hf := q_if_t hf c6
    refine lv_aload_n C.1 C.2.1 dX2_act_16 rfl (lv_at hl 0 rfl) ?_
    refine q_get_RX2_36 C hinX2 k36 I dX2_act_17 ?_
    refine lv_iconst (v := 0) C.1 C.2.1 dX2_act_20 (by decide) ?_
    obtain ⟨r11, s7, a8, g9, h10, hf⟩ := q_cl_some hf
    refine q_callVl (As := [.int 0]) (rest := []) C hml (c_X1_numberUnder h10) (cwV 1 C.2.2.2.1 gX2_act_X1_numberUnder rfl rfl rfl e_X1_numberUnder ⟨Nat.le_of_ble_eq_true rfl, Nat.le_of_ble_eq_true rfl⟩) I hA (q0 := 1) (ci := 1) rfl rfl rfl rfl hl.1 rfl (Nat.le_of_ble_eq_true rfl) dX2_act_21 ⟨Nat.zero_le _, Nat.zero_le _⟩ (fun H locs I => ?_)
    refine lv_lstore_n (lv' := [(3, .long r11), (0, .ref h), (1, .int p1), (2, .int p2)]) C.1 C.2.1 dX2_act_24 rfl hl (by decide) rfl (fun ls hl => ?_)
    refine lv_aload_n C.1 C.2.1 dX2_act_25 rfl (lv_at hl 1 rfl) ?_
    refine q_get_RX2_36 C hinX2 k36 I dX2_act_26 ?_
    refine lv_iconst (v := 1) C.1 C.2.1 dX2_act_29 (by decide) ?_
    obtain ⟨r16, s12, a13, g14, h15, hf⟩ := q_cl_some hf
    refine q_callVl (As := [.int 1]) (rest := []) C hml (c_X1_numberUnder h15) (cwV 1 C.2.2.2.1 gX2_act_X1_numberUnder rfl rfl rfl e_X1_numberUnder ⟨Nat.le_of_ble_eq_true rfl, Nat.le_of_ble_eq_true rfl⟩) I hA (q0 := 1) (ci := 1) rfl rfl rfl rfl hl.1 rfl (Nat.le_of_ble_eq_true rfl) dX2_act_30 ⟨Nat.zero_le _, Nat.zero_le _⟩ (fun H locs I => ?_)
    refine lv_lstore (lv' := [(5, .long r16), (3, .long r11), (0, .ref h), (1, .int p1), (2, .int p2)]) C.1 C.2.1 dX2_act_33 hl (by decide) rfl (fun ls hl => ?_)
    refine lv_iload_n C.1 C.2.1 dX2_act_35 rfl (lv_at hl 3 rfl) ?_
    refine lv_iconst (v := 3) C.1 C.2.1 dX2_act_36 (by decide) ?_
    refine lv_icmp_ne (tgt := 51) C.1 C.2.1 dX2_act_37 (by decide) (fun c17 => ?_) (fun c17 => ?_)
    · have hf := q_if_f hf c17
      refine lv_aload_n C.1 C.2.1 dX2_act_51 rfl (lv_at hl 2 rfl) ?_
      refine q_get_RX2_36 C hinX2 k36 I dX2_act_52 ?_
      refine lv_iload_n C.1 C.2.1 dX2_act_55 rfl (lv_at hl 3 rfl) ?_
      refine lv_lload C.1 C.2.1 dX2_act_56 (lv_at hl 0 rfl) ?_
      refine lv_lload_n C.1 C.2.1 dX2_act_58 rfl (lv_at hl 1 rfl) ?_
      obtain ⟨r22, s18, a19, g20, h21, hf⟩ := q_cl_some hf
      refine q_callSl (As := [.int p1, .long r16, .long r11]) (rest := [.ref (ad 9)]) C hml (c_X2_reckon h21) (va_cwS 3 C.2.2.2.1 gX2_act_X2_reckon rfl rfl rfl e_X2_reckon ⟨Nat.le_of_ble_eq_true rfl, Nat.le_of_ble_eq_true rfl⟩) I hA rfl hl.1 rfl (Nat.le_of_ble_eq_true rfl) dX2_act_59 ⟨Nat.zero_le _, Nat.zero_le _⟩ (fun H locs I => ?_)
      refine lv_iconst (v := 2) C.1 C.2.1 dX2_act_62 (by decide) ?_
      obtain ⟨s23, a24, g25, h26, hf⟩ := q_cv_some hf
      refine q_callVv (As := [.long r22, .int 2]) (rest := []) C hml (c_X1_lay h26) (cwV 2 C.2.2.2.1 gX2_act_X1_lay rfl rfl rfl e_X1_lay ⟨Nat.le_of_ble_eq_true rfl, Nat.le_of_ble_eq_true rfl⟩) I hA (q0 := 1) (ci := 1) rfl rfl rfl rfl hl.1 rfl (Nat.le_of_ble_eq_true rfl) dX2_act_63 ⟨Nat.zero_le _, Nat.zero_le _⟩ (fun H locs I => ?_)
      refine lv_iload_n C.1 C.2.1 dX2_act_66 rfl (lv_at hl 4 rfl) ?_
      obtain ⟨rfl, rfl, rfl, rfl⟩ := q_some4 hf
      exact q_iret C hr hlocks I dX2_act_67
    · have hf := q_if_t hf c17
      refine lv_lload_n C.1 C.2.1 dX2_act_40 rfl (lv_at hl 1 rfl) ?_
      refine lv_lconst (v := 0) C.1 C.2.1 dX2_act_41 (by decide) ?_
      refine W.lcmp C.1 C.2.1 dX2_act_42 ?_
      refine lv_if_ne (tgt := 51) C.1 C.2.1 dX2_act_43 (by decide) (fun c28 => ?_) (fun c28 => ?_)
      · have hf := q_if_f hf c28
        refine lv_aload_n C.1 C.2.1 dX2_act_51 rfl (lv_at hl 2 rfl) ?_
        refine q_get_RX2_36 C hinX2 k36 I dX2_act_52 ?_
        refine lv_iload_n C.1 C.2.1 dX2_act_55 rfl (lv_at hl 3 rfl) ?_
        refine lv_lload C.1 C.2.1 dX2_act_56 (lv_at hl 0 rfl) ?_
        refine lv_lload_n C.1 C.2.1 dX2_act_58 rfl (lv_at hl 1 rfl) ?_
        obtain ⟨r33, s29, a30, g31, h32, hf⟩ := q_cl_some hf
        refine q_callSl (As := [.int p1, .long r16, .long r11]) (rest := [.ref (ad 9)]) C hml (c_X2_reckon h32) (va_cwS 3 C.2.2.2.1 gX2_act_X2_reckon rfl rfl rfl e_X2_reckon ⟨Nat.le_of_ble_eq_true rfl, Nat.le_of_ble_eq_true rfl⟩) I hA rfl hl.1 rfl (Nat.le_of_ble_eq_true rfl) dX2_act_59 ⟨Nat.zero_le _, Nat.zero_le _⟩ (fun H locs I => ?_)
        refine lv_iconst (v := 2) C.1 C.2.1 dX2_act_62 (by decide) ?_
        obtain ⟨s34, a35, g36, h37, hf⟩ := q_cv_some hf
        refine q_callVv (As := [.long r33, .int 2]) (rest := []) C hml (c_X1_lay h37) (cwV 2 C.2.2.2.1 gX2_act_X1_lay rfl rfl rfl e_X1_lay ⟨Nat.le_of_ble_eq_true rfl, Nat.le_of_ble_eq_true rfl⟩) I hA (q0 := 1) (ci := 1) rfl rfl rfl rfl hl.1 rfl (Nat.le_of_ble_eq_true rfl) dX2_act_63 ⟨Nat.zero_le _, Nat.zero_le _⟩ (fun H locs I => ?_)
        refine lv_iload_n C.1 C.2.1 dX2_act_66 rfl (lv_at hl 4 rfl) ?_
        obtain ⟨rfl, rfl, rfl, rfl⟩ := q_some4 hf
        exact q_iret C hr hlocks I dX2_act_67
      · have hf := q_if_t hf c28
        refine lv_iconst (v := 2) C.1 C.2.1 dX2_act_46 (by decide) ?_
        obtain ⟨r43, s39, a40, g41, h42, hf⟩ := q_ci_some hf
        refine q_callSi (As := [.int 2]) (rest := []) C hml (c_X2_faultAnswer h42) (va_cwS 1 C.2.2.2.1 gX2_act_X2_faultAnswer rfl rfl rfl e_X2_faultAnswer ⟨Nat.le_of_ble_eq_true rfl, Nat.le_of_ble_eq_true rfl⟩) I hA rfl hl.1 rfl (Nat.le_of_ble_eq_true rfl) dX2_act_47 ⟨Nat.zero_le _, Nat.zero_le _⟩ (fun H locs I => ?_)
        obtain ⟨rfl, rfl, rfl, rfl⟩ := q_some4 hf
        exact q_iret C hr hlocks I dX2_act_50
  · have hf := q_if_f hf c6
    refine lv_iconst (v := 3) C.1 C.2.1 dX2_act_11 (by decide) ?_
    obtain ⟨r48, s44, a45, g46, h47, hf⟩ := q_ci_some hf
    refine q_callSi (As := [.int 3]) (rest := []) C hml (c_X2_faultAnswer h47) (va_cwS 1 C.2.2.2.1 gX2_act_X2_faultAnswer rfl rfl rfl e_X2_faultAnswer ⟨Nat.le_of_ble_eq_true rfl, Nat.le_of_ble_eq_true rfl⟩) I hA rfl hl.1 rfl (Nat.le_of_ble_eq_true rfl) dX2_act_12 ⟨Nat.zero_le _, Nat.zero_le _⟩ (fun H locs I => ?_)
    obtain ⟨rfl, rfl, rfl, rfl⟩ := q_some4 hf
    exact q_iret C hr hlocks I dX2_act_15
def f_X2_readAlone (n : Nat) (s : q_s) (a : q_a) (g : q_g) (p1 : Int32) (p2 : Int32) (p3 : Int32) : Option (Int32 × q_S) :=
 q_ck p1 50 <|
 q_ck p1 50 <|
 if a 2 p1.toNatClampNeg = 0 then
  q_ci (f_X2_passSign s a g p2 (a 3 p1.toNatClampNeg) (a 3 p1.toNatClampNeg)) fun r8 s4 a5 g6 =>
  some (r8, s4, a5, g6)
 else
  if a 2 p1.toNatClampNeg = 1 then
   q_ck p1 50 <|
   q_ci (f_X2_passSign s a g p2 (a 3 p1.toNatClampNeg) (a 4 p1.toNatClampNeg)) fun r15 s11 a12 g13 =>
   some (r15, s11, a12, g13)
  else
   if a 2 p1.toNatClampNeg = 2 then
    q_ci (f_X2_passSign s a g p2 0 127) fun r21 s17 a18 g19 =>
    some (r21, s17, a18, g19)
   else
    if a 2 p1.toNatClampNeg = 3 then
     if p2 = s 1 then
      some (p2, s, a, g)
     else
      some ((-1), s, a, g)
    else
     if a 2 p1.toNatClampNeg = 12 then
      q_ck p3 151 <|
      q_bd (q_ua a 8 p3.toNatClampNeg (vp_nar .boolean 1)) fun a27 =>
      some (p2, s, a27, g)
     else
      if a 2 p1.toNatClampNeg = 13 then
       q_cv (f_X1_lay n s a g ((a 3 p1.toNatClampNeg).toInt64) 0) fun s29 a30 g31 =>
       some (p2, s29, a30, g31)
      else
       if a 2 p1.toNatClampNeg = 14 then
        q_ci (f_X2_readFigure n s a g p2) fun r39 s35 a36 g37 =>
        some (r39, s35, a36, g37)
       else
        q_ci (f_X2_act n s a g (a 3 p1.toNatClampNeg) p2) fun r44 s40 a41 g42 =>
        some (r44, s40, a41, g42)
theorem e_X2_readAlone : yX2_readAlone.cls = RX2 ∧ yX2_readAlone.cls ≠ "java/lang/invoke/MethodHandle" ∧ yX2_readAlone.cls ≠ "java/lang/invoke/VarHandle" ∧ (parseMethodDescriptor yX2_readAlone.desc).map (fun d => d.parameters.length) = some 3 := by decide +kernel
set_option maxHeartbeats 4000000 in
set_option maxRecDepth 100000 in
theorem c_X2_readAlone {l : Launch} {D : va_G} {h : Nat} {ad : Nat → Nat} {ca : Nat → ClassId} {n : Nat} {s s9 : q_s} {a a9 : q_a} {g g9 : q_g} {p1 : Int32} {p2 : Int32} {p3 : Int32} {r9 : Int32} (hf : f_X2_readAlone n s a g p1 p2 p3 = some (r9, s9, a9, g9)) : q_Mi l yX2_readAlone wsX2_readAlone ({ frames := 3, cells := 0, slots := 0, locals := 73 }) D (q_tY ca) (q_wY h ad ca) [.ref h, .int p1, .int p2, .int p3] s a g r9 s9 a9 g9 := by
  unfold f_X2_readAlone at hf
  refine q_entI (cc := cX2_readAlone) (maxL := 5) (ret := (some .int)) (by decide) rfl (Nat.le_of_ble_eq_true rfl) ?_
  intro p e st m args below meth c A ls C hr hlocks hml hA I hl
  have hl : lv_has ls 5 [(0, .ref h), (1, .int p1), (2, .int p2), (3, .int p3)] := hl
  have hinX2 : ∀ w ∈ wsX20, w ∈ wsX2_readAlone := fun _ h => List.mem_cons_of_mem _ (List.mem_append_left _ (List.mem_append_right _ h))
  have k17 : Cond.fieldLink RX2 17 "ReaderYard" "firsts" "[I" ∈ wsX2_readAlone := by decide +kernel
  have k13 : Cond.fieldLink RX2 13 "ReaderYard" "sorts" "[I" ∈ wsX2_readAlone := by decide +kernel
  have k20 : Cond.fieldLink RX2 20 "ReaderYard" "seconds" "[I" ∈ wsX2_readAlone := by decide +kernel
  have k57 : Cond.fieldLink RX2 57 "ReaderYard" "signCount" "I" ∈ wsX2_readAlone := by decide +kernel
  have k29 : Cond.fieldLink RX2 29 "ReaderYard" "barred" "[Z" ∈ wsX2_readAlone := by decide +kernel
  have k36 : Cond.fieldLink RX2 36 "ReaderYard" "numbers" "LReaderYard$Pile;" ∈ wsX2_readAlone := by decide +kernel
  refine lv_aload_n C.1 C.2.1 dX2_readAlone_0 rfl (lv_at hl 0 rfl) ?_
  refine q_get_RX2_17 C hinX2 k17 I dX2_readAlone_1 ?_
  refine lv_iload_n C.1 C.2.1 dX2_readAlone_4 rfl (lv_at hl 1 rfl) ?_
  obtain ⟨b1, hf⟩ := q_ck_some hf
  refine q_ld_Y_firsts C b1 I dX2_readAlone_5 ?_
  refine lv_istore (lv' := [(4, .int (a 3 p1.toNatClampNeg)), (0, .ref h), (1, .int p1), (2, .int p2), (3, .int p3)]) C.1 C.2.1 dX2_readAlone_6 hl (by decide) rfl (fun ls hl => ?_)
  refine lv_aload_n C.1 C.2.1 dX2_readAlone_8 rfl (lv_at hl 1 rfl) ?_
  refine q_get_RX2_13 C hinX2 k13 I dX2_readAlone_9 ?_
  refine lv_iload_n C.1 C.2.1 dX2_readAlone_12 rfl (lv_at hl 2 rfl) ?_
  obtain ⟨b2, hf⟩ := q_ck_some hf
  refine q_ld_Y_sorts C b2 I dX2_readAlone_13 ?_
  by_cases c3 : a 2 p1.toNatClampNeg = 0
  · have hf := q_if_t hf c3
    refine lv_tableIn (off := 74) (tgt := 88) C.1 C.2.1 dX2_readAlone_14 (by skip <;> rw [c3] <;> decide) (by skip <;> rw [c3] <;> decide) (by skip <;> rw [c3] <;> rfl) (by decide) ?_
    refine lv_aload_n C.1 C.2.1 dX2_readAlone_88 rfl (lv_at hl 1 rfl) ?_
    refine lv_iload_n C.1 C.2.1 dX2_readAlone_89 rfl (lv_at hl 3 rfl) ?_
    refine lv_iload C.1 C.2.1 dX2_readAlone_90 (lv_at hl 0 rfl) ?_
    refine lv_iload C.1 C.2.1 dX2_readAlone_92 (lv_at hl 0 rfl) ?_
    obtain ⟨r8, s4, a5, g6, h7, hf⟩ := q_ci_some hf
    refine q_callVi (As := [.int p2, .int (a 3 p1.toNatClampNeg), .int (a 3 p1.toNatClampNeg)]) (rest := []) C hml (c_X2_passSign h7) (cwV 3 C.2.2.2.1 gX2_readAlone_X2_passSign rfl rfl rfl e_X2_passSign ⟨Nat.le_of_ble_eq_true rfl, Nat.le_of_ble_eq_true rfl⟩) I hA (q0 := 0) (ci := 2) rfl rfl rfl rfl hl.1 rfl (Nat.le_of_ble_eq_true rfl) dX2_readAlone_94 ⟨Nat.zero_le _, Nat.zero_le _⟩ (fun H locs I => ?_)
    obtain ⟨rfl, rfl, rfl, rfl⟩ := q_some4 hf
    exact q_iret C hr hlocks I dX2_readAlone_97
  have hf := q_if_f hf c3
  by_cases c9 : a 2 p1.toNatClampNeg = 1
  · have hf := q_if_t hf c9
    refine lv_tableIn (off := 84) (tgt := 98) C.1 C.2.1 dX2_readAlone_14 (by skip <;> rw [c9] <;> decide) (by skip <;> rw [c9] <;> decide) (by skip <;> rw [c9] <;> rfl) (by decide) ?_
    refine lv_aload_n C.1 C.2.1 dX2_readAlone_98 rfl (lv_at hl 1 rfl) ?_
    refine lv_iload_n C.1 C.2.1 dX2_readAlone_99 rfl (lv_at hl 3 rfl) ?_
    refine lv_iload C.1 C.2.1 dX2_readAlone_100 (lv_at hl 0 rfl) ?_
    refine lv_aload_n C.1 C.2.1 dX2_readAlone_102 rfl (lv_at hl 1 rfl) ?_
    refine q_get_RX2_20 C hinX2 k20 I dX2_readAlone_103 ?_
    refine lv_iload_n C.1 C.2.1 dX2_readAlone_106 rfl (lv_at hl 2 rfl) ?_
    obtain ⟨b10, hf⟩ := q_ck_some hf
    refine q_ld_Y_seconds C b10 I dX2_readAlone_107 ?_
    obtain ⟨r15, s11, a12, g13, h14, hf⟩ := q_ci_some hf
    refine q_callVi (As := [.int p2, .int (a 3 p1.toNatClampNeg), .int (a 4 p1.toNatClampNeg)]) (rest := []) C hml (c_X2_passSign h14) (cwV 3 C.2.2.2.1 gX2_readAlone_X2_passSign rfl rfl rfl e_X2_passSign ⟨Nat.le_of_ble_eq_true rfl, Nat.le_of_ble_eq_true rfl⟩) I hA (q0 := 0) (ci := 2) rfl rfl rfl rfl hl.1 rfl (Nat.le_of_ble_eq_true rfl) dX2_readAlone_108 ⟨Nat.zero_le _, Nat.zero_le _⟩ (fun H locs I => ?_)
    obtain ⟨rfl, rfl, rfl, rfl⟩ := q_some4 hf
    exact q_iret C hr hlocks I dX2_readAlone_111
  have hf := q_if_f hf c9
  by_cases c16 : a 2 p1.toNatClampNeg = 2
  · have hf := q_if_t hf c16
    refine lv_tableIn (off := 98) (tgt := 112) C.1 C.2.1 dX2_readAlone_14 (by skip <;> rw [c16] <;> decide) (by skip <;> rw [c16] <;> decide) (by skip <;> rw [c16] <;> rfl) (by decide) ?_
    refine lv_aload_n C.1 C.2.1 dX2_readAlone_112 rfl (lv_at hl 1 rfl) ?_
    refine lv_iload_n C.1 C.2.1 dX2_readAlone_113 rfl (lv_at hl 3 rfl) ?_
    refine lv_iconst (v := 0) C.1 C.2.1 dX2_readAlone_114 (by decide) ?_
    refine lv_bipush (v := 127) C.1 C.2.1 dX2_readAlone_115 (by decide) ?_
    obtain ⟨r21, s17, a18, g19, h20, hf⟩ := q_ci_some hf
    refine q_callVi (As := [.int p2, .int 0, .int 127]) (rest := []) C hml (c_X2_passSign h20) (cwV 3 C.2.2.2.1 gX2_readAlone_X2_passSign rfl rfl rfl e_X2_passSign ⟨Nat.le_of_ble_eq_true rfl, Nat.le_of_ble_eq_true rfl⟩) I hA (q0 := 0) (ci := 2) rfl rfl rfl rfl hl.1 rfl (Nat.le_of_ble_eq_true rfl) dX2_readAlone_117 ⟨Nat.zero_le _, Nat.zero_le _⟩ (fun H locs I => ?_)
    obtain ⟨rfl, rfl, rfl, rfl⟩ := q_some4 hf
    exact q_iret C hr hlocks I dX2_readAlone_120
  have hf := q_if_f hf c16
  by_cases c22 : a 2 p1.toNatClampNeg = 3
  · have hf := q_if_t hf c22
    refine lv_tableIn (off := 107) (tgt := 121) C.1 C.2.1 dX2_readAlone_14 (by skip <;> rw [c22] <;> decide) (by skip <;> rw [c22] <;> decide) (by skip <;> rw [c22] <;> rfl) (by decide) ?_
    refine lv_iload_n C.1 C.2.1 dX2_readAlone_121 rfl (lv_at hl 3 rfl) ?_
    refine lv_aload_n C.1 C.2.1 dX2_readAlone_122 rfl (lv_at hl 1 rfl) ?_
    refine q_get_RX2_57 C hinX2 k57 I dX2_readAlone_123 ?_
    refine lv_icmp_ne (tgt := 133) C.1 C.2.1 dX2_readAlone_126 (by decide) (fun c23 => ?_) (fun c23 => ?_)
    · have hf := q_if_f hf c23
      refine lv_iconst (v := (-1)) C.1 C.2.1 dX2_readAlone_133 (by decide) ?_
      obtain ⟨rfl, rfl, rfl, rfl⟩ := q_some4 hf
      exact q_iret C hr hlocks I dX2_readAlone_134
    · have hf := q_if_t hf c23
      refine lv_iload_n C.1 C.2.1 dX2_readAlone_129 rfl (lv_at hl 3 rfl) ?_
      refine lv_goto (tgt := 134) C.1 C.2.1 dX2_readAlone_130 (by decide) ?_
      obtain ⟨rfl, rfl, rfl, rfl⟩ := q_some4 hf
      exact q_iret C hr hlocks I dX2_readAlone_134
  have hf := q_if_f hf c22
  by_cases c24 : a 2 p1.toNatClampNeg = 12
  · have hf := q_if_t hf c24
    refine lv_tableIn (off := 121) (tgt := 135) C.1 C.2.1 dX2_readAlone_14 (by skip <;> rw [c24] <;> decide) (by skip <;> rw [c24] <;> decide) (by skip <;> rw [c24] <;> rfl) (by decide) ?_
    refine lv_aload_n C.1 C.2.1 dX2_readAlone_135 rfl (lv_at hl 1 rfl) ?_
    refine q_get_RX2_29 C hinX2 k29 I dX2_readAlone_136 ?_
    refine lv_iload_n C.1 C.2.1 dX2_readAlone_139 rfl (lv_at hl 4 rfl) ?_
    refine lv_iconst (v := 1) C.1 C.2.1 dX2_readAlone_140 (by decide) ?_
    obtain ⟨b25, hf⟩ := q_ck_some hf
    obtain ⟨a27, e26, hf⟩ := q_bd_some hf
    refine q_st_Y_barred C b25 e26 I dX2_readAlone_141 (fun H locs I => ?_)
    refine lv_iload_n C.1 C.2.1 dX2_readAlone_142 rfl (lv_at hl 3 rfl) ?_
    obtain ⟨rfl, rfl, rfl, rfl⟩ := q_some4 hf
    exact q_iret C hr hlocks I dX2_readAlone_143
  have hf := q_if_f hf c24
  by_cases c28 : a 2 p1.toNatClampNeg = 13
  · have hf := q_if_t hf c28
    refine lv_tableIn (off := 130) (tgt := 144) C.1 C.2.1 dX2_readAlone_14 (by skip <;> rw [c28] <;> decide) (by skip <;> rw [c28] <;> decide) (by skip <;> rw [c28] <;> rfl) (by decide) ?_
    refine lv_aload_n C.1 C.2.1 dX2_readAlone_144 rfl (lv_at hl 1 rfl) ?_
    refine q_get_RX2_36 C hinX2 k36 I dX2_readAlone_145 ?_
    refine lv_iload C.1 C.2.1 dX2_readAlone_148 (lv_at hl 0 rfl) ?_
    refine lv_i2l (v := (a 3 p1.toNatClampNeg).toInt64) C.1 C.2.1 dX2_readAlone_150 rfl ?_
    refine lv_iconst (v := 0) C.1 C.2.1 dX2_readAlone_151 (by decide) ?_
    obtain ⟨s29, a30, g31, h32, hf⟩ := q_cv_some hf
    refine q_callVv (As := [.long ((a 3 p1.toNatClampNeg).toInt64), .int 0]) (rest := []) C hml (c_X1_lay h32) (cwV 2 C.2.2.2.1 gX2_readAlone_X1_lay rfl rfl rfl e_X1_lay ⟨Nat.le_of_ble_eq_true rfl, Nat.le_of_ble_eq_true rfl⟩) I hA (q0 := 1) (ci := 1) rfl rfl rfl rfl hl.1 rfl (Nat.le_of_ble_eq_true rfl) dX2_readAlone_152 ⟨Nat.zero_le _, Nat.zero_le _⟩ (fun H locs I => ?_)
    refine lv_iload_n C.1 C.2.1 dX2_readAlone_155 rfl (lv_at hl 3 rfl) ?_
    obtain ⟨rfl, rfl, rfl, rfl⟩ := q_some4 hf
    exact q_iret C hr hlocks I dX2_readAlone_156
  have hf := q_if_f hf c28
  by_cases c34 : a 2 p1.toNatClampNeg = 14
  · have hf := q_if_t hf c34
    refine lv_tableIn (off := 143) (tgt := 157) C.1 C.2.1 dX2_readAlone_14 (by skip <;> rw [c34] <;> decide) (by skip <;> rw [c34] <;> decide) (by skip <;> rw [c34] <;> rfl) (by decide) ?_
    refine lv_aload_n C.1 C.2.1 dX2_readAlone_157 rfl (lv_at hl 1 rfl) ?_
    refine lv_iload_n C.1 C.2.1 dX2_readAlone_158 rfl (lv_at hl 3 rfl) ?_
    obtain ⟨r39, s35, a36, g37, h38, hf⟩ := q_ci_some hf
    refine q_callVi (As := [.int p2]) (rest := []) C hml (c_X2_readFigure h38) (cwV 1 C.2.2.2.1 gX2_readAlone_X2_readFigure rfl rfl rfl e_X2_readFigure ⟨Nat.le_of_ble_eq_true rfl, Nat.le_of_ble_eq_true rfl⟩) I hA (q0 := 0) (ci := 2) rfl rfl rfl rfl hl.1 rfl (Nat.le_of_ble_eq_true rfl) dX2_readAlone_159 ⟨Nat.zero_le _, Nat.zero_le _⟩ (fun H locs I => ?_)
    obtain ⟨rfl, rfl, rfl, rfl⟩ := q_some4 hf
    exact q_iret C hr hlocks I dX2_readAlone_162
  have hf := q_if_f hf c34
  refine q_tabD (tgt := 163) C.1 C.2.1 dX2_readAlone_14 (by
    by_cases c45 : a 2 p1.toNatClampNeg = 4 ∨ a 2 p1.toNatClampNeg = 5 ∨ a 2 p1.toNatClampNeg = 6 ∨ a 2 p1.toNatClampNeg = 7 ∨ a 2 p1.toNatClampNeg = 8 ∨ a 2 p1.toNatClampNeg = 9 ∨ a 2 p1.toNatClampNeg = 10 ∨ a 2 p1.toNatClampNeg = 11
    · exact Or.inr ⟨by rcases c45 with c45 | c45 | c45 | c45 | c45 | c45 | c45 | c45 <;> rw [c45] <;> decide, by rcases c45 with c45 | c45 | c45 | c45 | c45 | c45 | c45 | c45 <;> rw [c45] <;> decide, by rcases c45 with c45 | c45 | c45 | c45 | c45 | c45 | c45 | c45 <;> rw [c45] <;> rfl⟩
    refine Or.inl (q_out (fun k k1 k2 => ?_))
    have k3 : k = 0 ∨ k = 1 ∨ k = 2 ∨ k = 3 ∨ k = 4 ∨ k = 5 ∨ k = 6 ∨ k = 7 ∨ k = 8 ∨ k = 9 ∨ k = 10 ∨ k = 11 ∨ k = 12 ∨ k = 13 ∨ k = 14 := by omega
    rcases k3 with rfl | rfl | rfl | rfl | rfl | rfl | rfl | rfl | rfl | rfl | rfl | rfl | rfl | rfl | rfl
    · exact fun z => c3 (z)
    · exact fun z => c9 (z)
    · exact fun z => c16 (z)
    · exact fun z => c22 (z)
    · exact fun z => c45 (Or.inl z)
    · exact fun z => c45 (Or.inr (Or.inl z))
    · exact fun z => c45 (Or.inr (Or.inr (Or.inl z)))
    · exact fun z => c45 (Or.inr (Or.inr (Or.inr (Or.inl z))))
    · exact fun z => c45 (Or.inr (Or.inr (Or.inr (Or.inr (Or.inl z)))))
    · exact fun z => c45 (Or.inr (Or.inr (Or.inr (Or.inr (Or.inr (Or.inl z))))))
    · exact fun z => c45 (Or.inr (Or.inr (Or.inr (Or.inr (Or.inr (Or.inr (Or.inl z)))))))
    · exact fun z => c45 (Or.inr (Or.inr (Or.inr (Or.inr (Or.inr (Or.inr (Or.inr (z))))))))
    · exact fun z => c24 (z)
    · exact fun z => c28 (z)
    · exact fun z => c34 (z)
    ) (by decide) ?_
  refine lv_aload_n C.1 C.2.1 dX2_readAlone_163 rfl (lv_at hl 1 rfl) ?_
  refine lv_iload C.1 C.2.1 dX2_readAlone_164 (lv_at hl 0 rfl) ?_
  refine lv_iload_n C.1 C.2.1 dX2_readAlone_166 rfl (lv_at hl 3 rfl) ?_
  obtain ⟨r44, s40, a41, g42, h43, hf⟩ := q_ci_some hf
  refine q_callVi (As := [.int (a 3 p1.toNatClampNeg), .int p2]) (rest := []) C hml (c_X2_act h43) (cwV 2 C.2.2.2.1 gX2_readAlone_X2_act rfl rfl rfl e_X2_act ⟨Nat.le_of_ble_eq_true rfl, Nat.le_of_ble_eq_true rfl⟩) I hA (q0 := 0) (ci := 2) rfl rfl rfl rfl hl.1 rfl (Nat.le_of_ble_eq_true rfl) dX2_readAlone_167 ⟨Nat.zero_le _, Nat.zero_le _⟩ (fun H locs I => ?_)
  obtain ⟨rfl, rfl, rfl, rfl⟩ := q_some4 hf
  exact q_iret C hr hlocks I dX2_readAlone_170

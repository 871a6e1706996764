def f_X3_in (s : q_s) (a : q_a) (g : q_g) (p1 : Int32) (p2 : Int32) (p3 : Int32) : Option (Int32 × q_S) :=
 if p1 < p2 then
  some (0, s, a, g)
 else
  if p3 < p1 then
   some (0, s, a, g)
  else
   some (1, s, a, g)
theorem z_X3_in {s s1 : q_s} {a a1 : q_a} {g g1 : q_g} {p1 : Int32} {p2 : Int32} {p3 : Int32} {r : Int32} (h : f_X3_in s a g p1 p2 p3 = some (r, s1, a1, g1)) : r = 0 ∨ r = 1 := by
  unfold f_X3_in at h
  repeat' split at h
  all_goals (obtain ⟨rfl, _⟩ := q_some4 h; first | exact Or.inl rfl | exact Or.inr rfl)
theorem e_X3_in : yX3_in.cls ≠ "java/lang/invoke/MethodHandle" ∧ yX3_in.cls ≠ "java/lang/invoke/VarHandle" ∧ (parseMethodDescriptor yX3_in.desc).map (fun d => d.parameters.length) = some 3 := by decide +kernel
set_option maxHeartbeats 4000000 in
set_option maxRecDepth 100000 in
theorem c_X3_in {l : Launch} {D : va_G} {h : Nat} {ad : Nat → Nat} {ca : Nat → ClassId} {s s9 : q_s} {a a9 : q_a} {g g9 : q_g} {p1 : Int32} {p2 : Int32} {p3 : Int32} {r9 : Int32} (hf : f_X3_in s a g p1 p2 p3 = some (r9, s9, a9, g9)) : q_Mi l yX3_in wsX3_in ({ frames := 0, cells := 0, slots := 0, locals := 0 }) D (q_tM ca) (q_wM h ad ca) [.int p1, .int p2, .int p3] s a g r9 s9 a9 g9 := by
  unfold f_X3_in at hf
  refine q_entI (cc := cX3_in) (maxL := 3) (ret := (some .boolean)) (by decide) rfl (Nat.le_of_ble_eq_true rfl) ?_
  intro p e st m args below meth c A ls C hr hlocks hml hA I hl
  have hl : lv_has ls 3 [(0, .int p1), (1, .int p2), (2, .int p3)] := hl
  refine lv_iload_n C.1 C.2.1 dX3_in_0 rfl (lv_at hl 0 rfl) ?_
  refine lv_iload_n C.1 C.2.1 dX3_in_1 rfl (lv_at hl 1 rfl) ?_
  refine lv_icmp_lt (tgt := 14) C.1 C.2.1 dX3_in_2 (by decide) (fun c1 => ?_) (fun c1 => ?_)
  · have hf := q_if_t hf c1
    refine lv_iconst (v := 0) C.1 C.2.1 dX3_in_14 (by decide) ?_
    obtain ⟨rfl, rfl, rfl, rfl⟩ := q_some4 hf
    exact q_zret C hr rfl hlocks I dX3_in_15
  · have hf := q_if_f hf c1
    refine lv_iload_n C.1 C.2.1 dX3_in_5 rfl (lv_at hl 0 rfl) ?_
    refine lv_iload_n C.1 C.2.1 dX3_in_6 rfl (lv_at hl 2 rfl) ?_
    refine lv_icmp_gt (tgt := 14) C.1 C.2.1 dX3_in_7 (by decide) (fun c2 => ?_) (fun c2 => ?_)
    · have hf := q_if_t hf c2
      refine lv_iconst (v := 0) C.1 C.2.1 dX3_in_14 (by decide) ?_
      obtain ⟨rfl, rfl, rfl, rfl⟩ := q_some4 hf
      exact q_zret C hr rfl hlocks I dX3_in_15
    · have hf := q_if_f hf c2
      refine lv_iconst (v := 1) C.1 C.2.1 dX3_in_10 (by decide) ?_
      refine lv_goto (tgt := 15) C.1 C.2.1 dX3_in_11 (by decide) ?_
      obtain ⟨rfl, rfl, rfl, rfl⟩ := q_some4 hf
      exact q_zret C hr rfl hlocks I dX3_in_15
def f_X3_isReader (s : q_s) (a : q_a) (g : q_g) (p1 : Int32) : Option (Int32 × q_S) :=
 q_ci (f_X3_in s a g p1 0 ((s 2) - 1)) fun r5 s1 a2 g3 =>
 some (r5, s1, a2, g3)
theorem e_X3_isReader : yX3_isReader.cls = RX3 ∧ yX3_isReader.cls ≠ "java/lang/invoke/MethodHandle" ∧ yX3_isReader.cls ≠ "java/lang/invoke/VarHandle" ∧ (parseMethodDescriptor yX3_isReader.desc).map (fun d => d.parameters.length) = some 1 := by decide +kernel
set_option maxHeartbeats 4000000 in
set_option maxRecDepth 100000 in
theorem c_X3_isReader {l : Launch} {D : va_G} {h : Nat} {ad : Nat → Nat} {ca : Nat → ClassId} {s s9 : q_s} {a a9 : q_a} {g g9 : q_g} {p1 : Int32} {r9 : Int32} (hf : f_X3_isReader s a g p1 = some (r9, s9, a9, g9)) : q_Mi l yX3_isReader wsX3_isReader ({ frames := 1, cells := 0, slots := 0, locals := 22 }) D (q_tM ca) (q_wM h ad ca) [.ref h, .int p1] s a g r9 s9 a9 g9 := by
  unfold f_X3_isReader at hf
  refine q_entI (cc := cX3_isReader) (maxL := 2) (ret := (some .boolean)) (by decide) rfl (Nat.le_of_ble_eq_true rfl) ?_
  intro p e st m args below meth c A ls C hr hlocks hml hA I hl
  have hl : lv_has ls 2 [(0, .ref h), (1, .int p1)] := hl
  have hinX3 : ∀ w ∈ wsX30, w ∈ wsX3_isReader := fun _ h => List.mem_cons_of_mem _ (List.mem_append_right _ h)
  have k81 : Cond.fieldLink RX3 81 "ReaderYardModel" "many" "I" ∈ wsX3_isReader := by decide +kernel
  refine lv_iload_n C.1 C.2.1 dX3_isReader_0 rfl (lv_at hl 1 rfl) ?_
  refine lv_iconst (v := 0) C.1 C.2.1 dX3_isReader_1 (by decide) ?_
  refine lv_aload_n C.1 C.2.1 dX3_isReader_2 rfl (lv_at hl 0 rfl) ?_
  refine q_get_RX3_81 C hinX3 k81 I dX3_isReader_3 ?_
  refine lv_iconst (v := 1) C.1 C.2.1 dX3_isReader_6 (by decide) ?_
  refine lv_isub C.1 C.2.1 dX3_isReader_7 ?_
  obtain ⟨r5, s1, a2, g3, h4, hf⟩ := q_ci_some hf
  refine q_callSi (As := [.int p1, .int 0, .int ((s 2) - 1)]) (rest := []) C hml (c_X3_in h4) (va_cwS 3 C.2.2.2.1 gX3_isReader_X3_in rfl rfl rfl e_X3_in ⟨Nat.le_of_ble_eq_true rfl, Nat.le_of_ble_eq_true rfl⟩) I hA rfl hl.1 rfl (Nat.le_of_ble_eq_true rfl) dX3_isReader_8 ⟨Nat.zero_le _, Nat.zero_le _⟩ (fun H locs I => ?_)
  obtain ⟨rfl, rfl, rfl, rfl⟩ := q_some4 hf
  exact q_zret C hr (q_zn (z_X3_in h4)) hlocks I dX3_isReader_11
def f_X3_text_lb (F : q_s → q_a → q_g → Int32 → Int64 → Int32 → Option (Int32 × q_S)) (s : q_s) (a : q_a) (g : q_g) (x1 : Int32) (x2 : Int64) (x4 : Int32) : Option (Int32 × q_S) :=
 if x1 ≤ x4 then
  some (s 1, s, a, g)
 else
  q_ck (s 1) 200 <|
  q_bd (q_ua a 0 ((s 1).toNatClampNeg) (((x2 >>> ((8 * x4).toInt64 &&& 63)).toInt32) &&& 127)) fun a4 =>
  q_bd (q_us s 1 ((s 1) + 1)) fun s5 =>
   F s5 a4 g x1 x2 (x4 + 1)
def f_X3_text_lp (k : Nat) : q_s → q_a → q_g → Int32 → Int64 → Int32 → Option (Int32 × q_S) := match k with
  | 0 => fun _ _ _ _ _ _ => none
  | k + 1 => fun s a g x1 x2 x4 => f_X3_text_lb (f_X3_text_lp k) s a g x1 x2 x4
def f_X3_text (n : Nat) (s : q_s) (a : q_a) (g : q_g) (p1 : Int32) (p2 : Int64) : Option (Int32 × q_S) :=
 q_ci (f_X3_in s a g p1 1 8) fun r11 s7 a8 g9 =>
 if r11 = 0 then
  some ((-2), s7, a8, g9)
 else
  if (s7 1) + p1 ≤ 200 then
   f_X3_text_lp n s7 a8 g9 p1 p2 0
  else
   some ((-3), s7, a8, g9)
theorem e_X3_text : yX3_text.cls = RX3 ∧ yX3_text.cls ≠ "java/lang/invoke/MethodHandle" ∧ yX3_text.cls ≠ "java/lang/invoke/VarHandle" ∧ (parseMethodDescriptor yX3_text.desc).map (fun d => d.parameters.length) = some 2 := by decide +kernel
set_option maxHeartbeats 4000000 in
set_option maxRecDepth 100000 in
theorem c_X3_text {l : Launch} {D : va_G} {h : Nat} {ad : Nat → Nat} {ca : Nat → ClassId} {n : Nat} {s s9 : q_s} {a a9 : q_a} {g g9 : q_g} {p1 : Int32} {p2 : Int64} {r9 : Int32} (hf : f_X3_text n s a g p1 p2 = some (r9, s9, a9, g9)) : q_Mi l yX3_text wsX3_text ({ frames := 1, cells := 0, slots := 0, locals := 22 }) D (q_tM ca) (q_wM h ad ca) [.ref h, .int p1, .long p2] s a g r9 s9 a9 g9 := by
  unfold f_X3_text at hf
  refine q_entI (cc := cX3_text) (maxL := 5) (ret := (some .int)) (by decide) rfl (Nat.le_of_ble_eq_true rfl) ?_
  intro p e st m args below meth c A ls C hr hlocks hml hA I hl
  have hl : lv_has ls 5 [(0, .ref h), (1, .int p1), (2, .long p2)] := hl
  have hinX3 : ∀ w ∈ wsX30, w ∈ wsX3_text := fun _ h => List.mem_cons_of_mem _ (List.mem_append_right _ h)
  have k89 : Cond.fieldLink RX3 89 "ReaderYardModel" "length" "I" ∈ wsX3_text := by decide +kernel
  have k7 : Cond.fieldLink RX3 7 "ReaderYardModel" "signs" "[I" ∈ wsX3_text := by decide +kernel
  have lp : ∀ (k : Nat) (s : q_s) (a : q_a) (g : q_g) (x1 : Int32) (x2 : Int64) (x4 : Int32) (H : Heap) (locs : List Loc) (ls : Array Slot), f_X3_text_lp k s a g x1 x2 x4 = some (r9, s9, a9, g9) → q_I D A st.heap H locs (q_wM h ad ca s a g) → lv_has ls 5 [(0, .ref h), (1, .int x1), (2, .long x2), (4, .int x4)] → W p l e ({ frames := 1, cells := 0, slots := 0, locals := 22 }) st m args below meth c H locs 0 0 (MQ below (va_Qi (fun (r2 : Int32) (u : q_S) => r2 = r9 ∧ u = (s9, a9, g9)) (q_B D (q_tM ca) (q_wM h ad ca) A) A) args st 0 0 A) (F0 m 31 ls []) := by
    intro k
    induction k with
    | zero => intro s a g x1 x2 x4 H locs ls hf; exact absurd hf (by simp [f_X3_text_lp])
    | succ k ih =>
      intro s a g x1 x2 x4 H locs ls hf I hl
      have hf : f_X3_text_lb (f_X3_text_lp k) s a g x1 x2 x4 = some (r9, s9, a9, g9) := hf
      unfold f_X3_text_lb at hf
      refine lv_iload C.1 C.2.1 dX3_text_31 (lv_at hl 3 rfl) ?_
      refine lv_iload_n C.1 C.2.1 dX3_text_33 rfl (lv_at hl 1 rfl) ?_
      refine lv_icmp_ge (tgt := 73) C.1 C.2.1 dX3_text_34 (by decide) (fun c1 => ?_) (fun c1 => ?_)
      · have hf := q_if_t hf c1
        refine lv_aload_n C.1 C.2.1 dX3_text_73 rfl (lv_at hl 0 rfl) ?_
        refine q_get_RX3_89 C hinX3 k89 I dX3_text_74 ?_
        obtain ⟨rfl, rfl, rfl, rfl⟩ := q_some4 hf
        exact q_iret C hr hlocks I dX3_text_77
      · have hf := q_if_f hf c1
        refine lv_aload_n C.1 C.2.1 dX3_text_37 rfl (lv_at hl 0 rfl) ?_
        refine q_get_RX3_7 C hinX3 k7 I dX3_text_38 ?_
        refine lv_aload_n C.1 C.2.1 dX3_text_41 rfl (lv_at hl 0 rfl) ?_
        refine q_get_RX3_89 C hinX3 k89 I dX3_text_42 ?_
        refine lv_lload_n C.1 C.2.1 dX3_text_45 rfl (lv_at hl 2 rfl) ?_
        refine lv_bipush (v := 8) C.1 C.2.1 dX3_text_46 (by decide) ?_
        refine lv_iload C.1 C.2.1 dX3_text_48 (lv_at hl 3 rfl) ?_
        refine lv_imul C.1 C.2.1 dX3_text_50 ?_
        refine lv_lshr (v := x2 >>> ((8 * x4).toInt64 &&& 63)) C.1 C.2.1 dX3_text_51 rfl ?_
        refine lv_l2i (v := (x2 >>> ((8 * x4).toInt64 &&& 63)).toInt32) C.1 C.2.1 dX3_text_52 rfl ?_
        refine lv_bipush (v := 127) C.1 C.2.1 dX3_text_53 (by decide) ?_
        refine lv_iand C.1 C.2.1 dX3_text_55 ?_
        obtain ⟨b2, hf⟩ := q_ck_some hf
        obtain ⟨a4, e3, hf⟩ := q_bd_some hf
        refine q_st_M_signs C b2 e3 I dX3_text_56 (fun H locs I => ?_)
        refine lv_aload_n C.1 C.2.1 dX3_text_57 rfl (lv_at hl 0 rfl) ?_
        refine lv_dup C.1 C.2.1 dX3_text_58 rfl ?_
        refine q_get_RX3_89 C hinX3 k89 I dX3_text_59 ?_
        refine lv_iconst (v := 1) C.1 C.2.1 dX3_text_62 (by decide) ?_
        refine lv_iadd C.1 C.2.1 dX3_text_63 ?_
        obtain ⟨s5, e6, hf⟩ := q_bd_some hf
        refine q_put_RX3_89 C hinX3 k89 e6 I dX3_text_64 (fun H locs I => ?_)
        refine lv_iinc (v := x4 + 1) (lv' := [(4, .int (x4 + 1)), (0, .ref h), (1, .int x1), (2, .long x2)]) C.1 C.2.1 dX3_text_67 hl (k := 3) rfl rfl (by decide) rfl (fun ls hl => ?_)
        refine lv_goto (tgt := 31) C.1 C.2.1 dX3_text_70 (by decide) ?_
        exact ih _ _ _ _ _ _ _ _ _ hf I (lv_sub hl [1, 2, 3, 0] rfl)
  refine lv_iload_n C.1 C.2.1 dX3_text_0 rfl (lv_at hl 1 rfl) ?_
  refine lv_iconst (v := 1) C.1 C.2.1 dX3_text_1 (by decide) ?_
  refine lv_bipush (v := 8) C.1 C.2.1 dX3_text_2 (by decide) ?_
  obtain ⟨r11, s7, a8, g9, h10, hf⟩ := q_ci_some hf
  refine q_callSi (As := [.int p1, .int 1, .int 8]) (rest := []) C hml (c_X3_in h10) (va_cwS 3 C.2.2.2.1 gX3_text_X3_in rfl rfl rfl e_X3_in ⟨Nat.le_of_ble_eq_true rfl, Nat.le_of_ble_eq_true rfl⟩) I hA rfl hl.1 rfl (Nat.le_of_ble_eq_true rfl) dX3_text_4 ⟨Nat.zero_le _, Nat.zero_le _⟩ (fun H locs I => ?_)
  refine lv_if_ne (tgt := 13) C.1 C.2.1 dX3_text_7 (by decide) (fun c12 => ?_) (fun c12 => ?_)
  · have hf := q_if_f hf c12
    refine lv_aload_n C.1 C.2.1 dX3_text_13 rfl (lv_at hl 0 rfl) ?_
    refine q_get_RX3_89 C hinX3 k89 I dX3_text_14 ?_
    refine lv_iload_n C.1 C.2.1 dX3_text_17 rfl (lv_at hl 1 rfl) ?_
    refine lv_iadd C.1 C.2.1 dX3_text_18 ?_
    refine lv_sipush (v := 200) C.1 C.2.1 dX3_text_19 (by decide) ?_
    refine lv_icmp_le (tgt := 28) C.1 C.2.1 dX3_text_22 (by decide) (fun c13 => ?_) (fun c13 => ?_)
    · have hf := q_if_t hf c13
      refine lv_iconst (v := 0) C.1 C.2.1 dX3_text_28 (by decide) ?_
      refine lv_istore (lv' := [(4, .int 0), (0, .ref h), (1, .int p1), (2, .long p2)]) C.1 C.2.1 dX3_text_29 hl (by decide) rfl (fun ls hl => ?_)
      exact lp n _ _ _ _ _ _ _ _ _ hf I (lv_sub hl [1, 2, 3, 0] rfl)
    · have hf := q_if_f hf c13
      refine lv_bipush (v := (-3)) C.1 C.2.1 dX3_text_25 (by decide) ?_
      obtain ⟨rfl, rfl, rfl, rfl⟩ := q_some4 hf
      exact q_iret C hr hlocks I dX3_text_27
  · have hf := q_if_t hf c12
    refine lv_bipush (v := (-2)) C.1 C.2.1 dX3_text_10 (by decide) ?_
    obtain ⟨rfl, rfl, rfl, rfl⟩ := q_some4 hf
    exact q_iret C hr hlocks I dX3_text_12
def f_X3_clear (s : q_s) (a : q_a) (g : q_g) : Option (Int32 × q_S) :=
 q_bd (q_us s 1 0) fun s1 =>
 some (s 1, s1, a, g)
theorem e_X3_clear : yX3_clear.cls = RX3 ∧ yX3_clear.cls ≠ "java/lang/invoke/MethodHandle" ∧ yX3_clear.cls ≠ "java/lang/invoke/VarHandle" ∧ (parseMethodDescriptor yX3_clear.desc).map (fun d => d.parameters.length) = some 0 := by decide +kernel
set_option maxHeartbeats 4000000 in
set_option maxRecDepth 100000 in
theorem c_X3_clear {l : Launch} {D : va_G} {h : Nat} {ad : Nat → Nat} {ca : Nat → ClassId} {s s9 : q_s} {a a9 : q_a} {g g9 : q_g} {r9 : Int32} (hf : f_X3_clear s a g = some (r9, s9, a9, g9)) : q_Mi l yX3_clear wsX3_clear ({ frames := 0, cells := 0, slots := 0, locals := 0 }) D (q_tM ca) (q_wM h ad ca) [.ref h] s a g r9 s9 a9 g9 := by
  unfold f_X3_clear at hf
  refine q_entI (cc := cX3_clear) (maxL := 2) (ret := (some .int)) (by decide) rfl (Nat.le_of_ble_eq_true rfl) ?_
  intro p e st m args below meth c A ls C hr hlocks hml hA I hl
  have hl : lv_has ls 2 [(0, .ref h)] := hl
  have hinX3 : ∀ w ∈ wsX30, w ∈ wsX3_clear := fun _ h => List.mem_cons_of_mem _ (List.mem_append_right _ h)
  have k89 : Cond.fieldLink RX3 89 "ReaderYardModel" "length" "I" ∈ wsX3_clear := by decide +kernel
  refine lv_aload_n C.1 C.2.1 dX3_clear_0 rfl (lv_at hl 0 rfl) ?_
  refine q_get_RX3_89 C hinX3 k89 I dX3_clear_1 ?_
  refine lv_istore_n (lv' := [(1, .int (s 1)), (0, .ref h)]) C.1 C.2.1 dX3_clear_4 rfl hl (by decide) rfl (fun ls hl => ?_)
  refine lv_aload_n C.1 C.2.1 dX3_clear_5 rfl (lv_at hl 1 rfl) ?_
  refine lv_iconst (v := 0) C.1 C.2.1 dX3_clear_6 (by decide) ?_
  obtain ⟨s1, e2, hf⟩ := q_bd_some hf
  refine q_put_RX3_89 C hinX3 k89 e2 I dX3_clear_7 (fun H locs I => ?_)
  refine lv_iload_n C.1 C.2.1 dX3_clear_10 rfl (lv_at hl 0 rfl) ?_
  obtain ⟨rfl, rfl, rfl, rfl⟩ := q_some4 hf
  exact q_iret C hr hlocks I dX3_clear_11
def f_X3_reader_b104 (s : q_s) (a : q_a) (g : q_g) (x1 : Int32) (x2 : Int32) (x3 : Int32) : Option (Int32 × q_S) :=
 if s 2 = 50 then
  some ((-3), s, a, g)
 else
  q_ck (s 2) 50 <|
  q_bd (q_ua a 3 ((s 2).toNatClampNeg) x1) fun a4 =>
  q_ck (s 2) 50 <|
  q_bd (q_ua a4 4 ((s 2).toNatClampNeg) x2) fun a7 =>
  q_ck (s 2) 50 <|
  q_bd (q_ua a7 5 ((s 2).toNatClampNeg) x3) fun a10 =>
  q_bd (q_us s 2 ((s 2) + 1)) fun s11 =>
  some ((s11 2) - 1, s11, a10, g)
def f_X3_reader_b70 (s : q_s) (a : q_a) (g : q_g) (x1 : Int32) (x2 : Int32) (x3 : Int32) : Option (Int32 × q_S) :=
 if x1 = 10 then
  q_ci (f_X3_in s a g x2 0 9) fun r25 s21 a22 g23 =>
  if r25 = 0 then
   some ((-2), s21, a22, g23)
  else
   if x1 = 15 then
    q_ci (f_X3_in s21 a22 g23 x2 0 3) fun r32 s28 a29 g30 =>
    if r32 = 0 then
     some ((-2), s28, a29, g30)
    else
     f_X3_reader_b104 s28 a29 g30 x1 x2 x3
   else
    f_X3_reader_b104 s21 a22 g23 x1 x2 x3
 else
  if x1 = 15 then
   q_ci (f_X3_in s a g x2 0 3) fun r19 s15 a16 g17 =>
   if r19 = 0 then
    some ((-2), s15, a16, g17)
   else
    f_X3_reader_b104 s15 a16 g17 x1 x2 x3
  else
   f_X3_reader_b104 s a g x1 x2 x3
def f_X3_reader_b49 (s : q_s) (a : q_a) (g : q_g) (x1 : Int32) (x2 : Int32) (x3 : Int32) : Option (Int32 × q_S) :=
 if x1 = 4 then
  q_ci (f_X3_isReader s a g x3) fun r39 s35 a36 g37 =>
  if r39 = 0 then
   some ((-2), s35, a36, g37)
  else
   f_X3_reader_b70 s35 a36 g37 x1 x2 x3
 else
  if x1 = 5 then
   q_ci (f_X3_isReader s a g x3) fun r46 s42 a43 g44 =>
   if r46 = 0 then
    some ((-2), s42, a43, g44)
   else
    f_X3_reader_b70 s42 a43 g44 x1 x2 x3
  else
   f_X3_reader_b70 s a g x1 x2 x3
def f_X3_reader (s : q_s) (a : q_a) (g : q_g) (p1 : Int32) (p2 : Int32) (p3 : Int32) : Option (Int32 × q_S) :=
 q_ci (f_X3_in s a g p1 0 15) fun r52 s48 a49 g50 =>
 if r52 = 0 then
  some ((-2), s48, a49, g50)
 else
  q_ci (f_X3_in s48 a49 g50 p1 4 9) fun r58 s54 a55 g56 =>
  if r58 = 0 then
   if p1 = 11 then
    q_ci (f_X3_isReader s54 a55 g56 p2) fun r74 s70 a71 g72 =>
    if r74 = 0 then
     some ((-2), s70, a71, g72)
    else
     f_X3_reader_b49 s70 a71 g72 p1 p2 p3
   else
    f_X3_reader_b49 s54 a55 g56 p1 p2 p3
  else
   q_ci (f_X3_isReader s54 a55 g56 p2) fun r65 s61 a62 g63 =>
   if r65 = 0 then
    some ((-2), s61, a62, g63)
   else
    f_X3_reader_b49 s61 a62 g63 p1 p2 p3
theorem e_X3_reader : yX3_reader.cls = RX3 ∧ yX3_reader.cls ≠ "java/lang/invoke/MethodHandle" ∧ yX3_reader.cls ≠ "java/lang/invoke/VarHandle" ∧ (parseMethodDescriptor yX3_reader.desc).map (fun d => d.parameters.length) = some 3 := by decide +kernel
set_option maxHeartbeats 4000000 in
set_option maxRecDepth 100000 in
theorem c_X3_reader {l : Launch} {D : va_G} {h : Nat} {ad : Nat → Nat} {ca : Nat → ClassId} {s s9 : q_s} {a a9 : q_a} {g g9 : q_g} {p1 : Int32} {p2 : Int32} {p3 : Int32} {r9 : Int32} (hf : f_X3_reader s a g p1 p2 p3 = some (r9, s9, a9, g9)) : q_Mi l yX3_reader wsX3_reader ({ frames := 2, cells := 0, slots := 0, locals := 43 }) D (q_tM ca) (q_wM h ad ca) [.ref h, .int p1, .int p2, .int p3] s a g r9 s9 a9 g9 := by
  unfold f_X3_reader at hf
  refine q_entI (cc := cX3_reader) (maxL := 5) (ret := (some .int)) (by decide) rfl (Nat.le_of_ble_eq_true rfl) ?_
  intro p e st m args below meth c A ls C hr hlocks hml hA I hl
  have hl : lv_has ls 5 [(0, .ref h), (1, .int p1), (2, .int p2), (3, .int p3)] := hl
  have hinX3 : ∀ w ∈ wsX30, w ∈ wsX3_reader := fun _ h => List.mem_cons_of_mem _ (List.mem_append_right _ h)
  have k81 : Cond.fieldLink RX3 81 "ReaderYardModel" "many" "I" ∈ wsX3_reader := by decide +kernel
  have k13 : Cond.fieldLink RX3 13 "ReaderYardModel" "sorts" "[I" ∈ wsX3_reader := by decide +kernel
  have k16 : Cond.fieldLink RX3 16 "ReaderYardModel" "as" "[I" ∈ wsX3_reader := by decide +kernel
  have k19 : Cond.fieldLink RX3 19 "ReaderYardModel" "bs" "[I" ∈ wsX3_reader := by decide +kernel
  have b104 : ∀ (s : q_s) (a : q_a) (g : q_g) (x1 : Int32) (x2 : Int32) (x3 : Int32) (H : Heap) (locs : List Loc) (ls : Array Slot), f_X3_reader_b104 s a g x1 x2 x3 = some (r9, s9, a9, g9) → q_I D A st.heap H locs (q_wM h ad ca s a g) → lv_has ls 5 [(0, .ref h), (1, .int x1), (2, .int x2), (3, .int x3)] → W p l e ({ frames := 2, cells := 0, slots := 0, locals := 43 }) st m args below meth c H locs 0 0 (MQ below (va_Qi (fun (r2 : Int32) (u : q_S) => r2 = r9 ∧ u = (s9, a9, g9)) (q_B D (q_tM ca) (q_wM h ad ca) A) A) args st 0 0 A) (F0 m 104 ls []) := by
    intro s a g x1 x2 x3 H locs ls hf I hl
    unfold f_X3_reader_b104 at hf
    refine lv_aload_n C.1 C.2.1 dX3_reader_104 rfl (lv_at hl 0 rfl) ?_
    refine q_get_RX3_81 C hinX3 k81 I dX3_reader_105 ?_
    refine lv_bipush (v := 50) C.1 C.2.1 dX3_reader_108 (by decide) ?_
    refine lv_icmp_ne (tgt := 116) C.1 C.2.1 dX3_reader_110 (by decide) (fun c1 => ?_) (fun c1 => ?_)
    · have hf := q_if_f hf c1
      refine lv_aload_n C.1 C.2.1 dX3_reader_116 rfl (lv_at hl 0 rfl) ?_
      refine q_get_RX3_13 C hinX3 k13 I dX3_reader_117 ?_
      refine lv_aload_n C.1 C.2.1 dX3_reader_120 rfl (lv_at hl 0 rfl) ?_
      refine q_get_RX3_81 C hinX3 k81 I dX3_reader_121 ?_
      refine lv_iload_n C.1 C.2.1 dX3_reader_124 rfl (lv_at hl 1 rfl) ?_
      obtain ⟨b2, hf⟩ := q_ck_some hf
      obtain ⟨a4, e3, hf⟩ := q_bd_some hf
      refine q_st_M_sorts C b2 e3 I dX3_reader_125 (fun H locs I => ?_)
      refine lv_aload_n C.1 C.2.1 dX3_reader_126 rfl (lv_at hl 0 rfl) ?_
      refine q_get_RX3_16 C hinX3 k16 I dX3_reader_127 ?_
      refine lv_aload_n C.1 C.2.1 dX3_reader_130 rfl (lv_at hl 0 rfl) ?_
      refine q_get_RX3_81 C hinX3 k81 I dX3_reader_131 ?_
      refine lv_iload_n C.1 C.2.1 dX3_reader_134 rfl (lv_at hl 2 rfl) ?_
      obtain ⟨b5, hf⟩ := q_ck_some hf
      obtain ⟨a7, e6, hf⟩ := q_bd_some hf
      refine q_st_M_as C b5 e6 I dX3_reader_135 (fun H locs I => ?_)
      refine lv_aload_n C.1 C.2.1 dX3_reader_136 rfl (lv_at hl 0 rfl) ?_
      refine q_get_RX3_19 C hinX3 k19 I dX3_reader_137 ?_
      refine lv_aload_n C.1 C.2.1 dX3_reader_140 rfl (lv_at hl 0 rfl) ?_
      refine q_get_RX3_81 C hinX3 k81 I dX3_reader_141 ?_
      refine lv_iload_n C.1 C.2.1 dX3_reader_144 rfl (lv_at hl 3 rfl) ?_
      obtain ⟨b8, hf⟩ := q_ck_some hf
      obtain ⟨a10, e9, hf⟩ := q_bd_some hf
      refine q_st_M_bs C b8 e9 I dX3_reader_145 (fun H locs I => ?_)
      refine lv_aload_n C.1 C.2.1 dX3_reader_146 rfl (lv_at hl 0 rfl) ?_
      refine lv_dup C.1 C.2.1 dX3_reader_147 rfl ?_
      refine q_get_RX3_81 C hinX3 k81 I dX3_reader_148 ?_
      refine lv_iconst (v := 1) C.1 C.2.1 dX3_reader_151 (by decide) ?_
      refine lv_iadd C.1 C.2.1 dX3_reader_152 ?_
      obtain ⟨s11, e12, hf⟩ := q_bd_some hf
      refine q_put_RX3_81 C hinX3 k81 e12 I dX3_reader_153 (fun H locs I => ?_)
      refine lv_aload_n C.1 C.2.1 dX3_reader_156 rfl (lv_at hl 0 rfl) ?_
      refine q_get_RX3_81 C hinX3 k81 I dX3_reader_157 ?_
      refine lv_iconst (v := 1) C.1 C.2.1 dX3_reader_160 (by decide) ?_
      refine lv_isub C.1 C.2.1 dX3_reader_161 ?_
      obtain ⟨rfl, rfl, rfl, rfl⟩ := q_some4 hf
      exact q_iret C hr hlocks I dX3_reader_162
    · have hf := q_if_t hf c1
      refine lv_bipush (v := (-3)) C.1 C.2.1 dX3_reader_113 (by decide) ?_
      obtain ⟨rfl, rfl, rfl, rfl⟩ := q_some4 hf
      exact q_iret C hr hlocks I dX3_reader_115
  have b70 : ∀ (s : q_s) (a : q_a) (g : q_g) (x1 : Int32) (x2 : Int32) (x3 : Int32) (H : Heap) (locs : List Loc) (ls : Array Slot), f_X3_reader_b70 s a g x1 x2 x3 = some (r9, s9, a9, g9) → q_I D A st.heap H locs (q_wM h ad ca s a g) → lv_has ls 5 [(0, .ref h), (1, .int x1), (2, .int x2), (3, .int x3)] → W p l e ({ frames := 2, cells := 0, slots := 0, locals := 43 }) st m args below meth c H locs 0 0 (MQ below (va_Qi (fun (r2 : Int32) (u : q_S) => r2 = r9 ∧ u = (s9, a9, g9)) (q_B D (q_tM ca) (q_wM h ad ca) A) A) args st 0 0 A) (F0 m 70 ls []) := by
    intro s a g x1 x2 x3 H locs ls hf I hl
    unfold f_X3_reader_b70 at hf
    refine lv_iload_n C.1 C.2.1 dX3_reader_70 rfl (lv_at hl 1 rfl) ?_
    refine lv_bipush (v := 10) C.1 C.2.1 dX3_reader_71 (by decide) ?_
    refine lv_icmp_ne (tgt := 86) C.1 C.2.1 dX3_reader_73 (by decide) (fun c13 => ?_) (fun c13 => ?_)
    · have hf := q_if_f hf c13
      refine lv_iload_n C.1 C.2.1 dX3_reader_86 rfl (lv_at hl 1 rfl) ?_
      refine lv_bipush (v := 15) C.1 C.2.1 dX3_reader_87 (by decide) ?_
      refine lv_icmp_ne (tgt := 104) C.1 C.2.1 dX3_reader_89 (by decide) (fun c14 => ?_) (fun c14 => ?_)
      · have hf := q_if_f hf c14
        exact b104 _ _ _ _ _ _ _ _ _ hf I (lv_sub hl [0, 1, 2, 3] rfl)
      · have hf := q_if_t hf c14
        refine lv_iload_n C.1 C.2.1 dX3_reader_92 rfl (lv_at hl 2 rfl) ?_
        refine lv_iconst (v := 0) C.1 C.2.1 dX3_reader_93 (by decide) ?_
        refine lv_iconst (v := 3) C.1 C.2.1 dX3_reader_94 (by decide) ?_
        obtain ⟨r19, s15, a16, g17, h18, hf⟩ := q_ci_some hf
        refine q_callSi (As := [.int x2, .int 0, .int 3]) (rest := []) C hml (c_X3_in h18) (va_cwS 3 C.2.2.2.1 gX3_reader_X3_in rfl rfl rfl e_X3_in ⟨Nat.le_of_ble_eq_true rfl, Nat.le_of_ble_eq_true rfl⟩) I hA rfl hl.1 rfl (Nat.le_of_ble_eq_true rfl) dX3_reader_95 ⟨Nat.zero_le _, Nat.zero_le _⟩ (fun H locs I => ?_)
        refine lv_if_ne (tgt := 104) C.1 C.2.1 dX3_reader_98 (by decide) (fun c20 => ?_) (fun c20 => ?_)
        · have hf := q_if_f hf c20
          exact b104 _ _ _ _ _ _ _ _ _ hf I (lv_sub hl [0, 1, 2, 3] rfl)
        · have hf := q_if_t hf c20
          refine lv_bipush (v := (-2)) C.1 C.2.1 dX3_reader_101 (by decide) ?_
          obtain ⟨rfl, rfl, rfl, rfl⟩ := q_some4 hf
          exact q_iret C hr hlocks I dX3_reader_103
    · have hf := q_if_t hf c13
      refine lv_iload_n C.1 C.2.1 dX3_reader_76 rfl (lv_at hl 2 rfl) ?_
      refine lv_iconst (v := 0) C.1 C.2.1 dX3_reader_77 (by decide) ?_
      refine lv_bipush (v := 9) C.1 C.2.1 dX3_reader_78 (by decide) ?_
      obtain ⟨r25, s21, a22, g23, h24, hf⟩ := q_ci_some hf
      refine q_callSi (As := [.int x2, .int 0, .int 9]) (rest := []) C hml (c_X3_in h24) (va_cwS 3 C.2.2.2.1 gX3_reader_X3_in rfl rfl rfl e_X3_in ⟨Nat.le_of_ble_eq_true rfl, Nat.le_of_ble_eq_true rfl⟩) I hA rfl hl.1 rfl (Nat.le_of_ble_eq_true rfl) dX3_reader_80 ⟨Nat.zero_le _, Nat.zero_le _⟩ (fun H locs I => ?_)
      refine lv_if_eq (tgt := 101) C.1 C.2.1 dX3_reader_83 (by decide) (fun c26 => ?_) (fun c26 => ?_)
      · have hf := q_if_t hf c26
        refine lv_bipush (v := (-2)) C.1 C.2.1 dX3_reader_101 (by decide) ?_
        obtain ⟨rfl, rfl, rfl, rfl⟩ := q_some4 hf
        exact q_iret C hr hlocks I dX3_reader_103
      · have hf := q_if_f hf c26
        refine lv_iload_n C.1 C.2.1 dX3_reader_86 rfl (lv_at hl 1 rfl) ?_
        refine lv_bipush (v := 15) C.1 C.2.1 dX3_reader_87 (by decide) ?_
        refine lv_icmp_ne (tgt := 104) C.1 C.2.1 dX3_reader_89 (by decide) (fun c27 => ?_) (fun c27 => ?_)
        · have hf := q_if_f hf c27
          exact b104 _ _ _ _ _ _ _ _ _ hf I (lv_sub hl [0, 1, 2, 3] rfl)
        · have hf := q_if_t hf c27
          refine lv_iload_n C.1 C.2.1 dX3_reader_92 rfl (lv_at hl 2 rfl) ?_
          refine lv_iconst (v := 0) C.1 C.2.1 dX3_reader_93 (by decide) ?_
          refine lv_iconst (v := 3) C.1 C.2.1 dX3_reader_94 (by decide) ?_
          obtain ⟨r32, s28, a29, g30, h31, hf⟩ := q_ci_some hf
          refine q_callSi (As := [.int x2, .int 0, .int 3]) (rest := []) C hml (c_X3_in h31) (va_cwS 3 C.2.2.2.1 gX3_reader_X3_in rfl rfl rfl e_X3_in ⟨Nat.le_of_ble_eq_true rfl, Nat.le_of_ble_eq_true rfl⟩) I hA rfl hl.1 rfl (Nat.le_of_ble_eq_true rfl) dX3_reader_95 ⟨Nat.zero_le _, Nat.zero_le _⟩ (fun H locs I => ?_)
          refine lv_if_ne (tgt := 104) C.1 C.2.1 dX3_reader_98 (by decide) (fun c33 => ?_) (fun c33 => ?_)
          · have hf := q_if_f hf c33
            exact b104 _ _ _ _ _ _ _ _ _ hf I (lv_sub hl [0, 1, 2, 3] rfl)
          · have hf := q_if_t hf c33
            refine lv_bipush (v := (-2)) C.1 C.2.1 dX3_reader_101 (by decide) ?_
            obtain ⟨rfl, rfl, rfl, rfl⟩ := q_some4 hf
            exact q_iret C hr hlocks I dX3_reader_103
  have b49 : ∀ (s : q_s) (a : q_a) (g : q_g) (x1 : Int32) (x2 : Int32) (x3 : Int32) (H : Heap) (locs : List Loc) (ls : Array Slot), f_X3_reader_b49 s a g x1 x2 x3 = some (r9, s9, a9, g9) → q_I D A st.heap H locs (q_wM h ad ca s a g) → lv_has ls 5 [(0, .ref h), (1, .int x1), (2, .int x2), (3, .int x3)] → W p l e ({ frames := 2, cells := 0, slots := 0, locals := 43 }) st m args below meth c H locs 0 0 (MQ below (va_Qi (fun (r2 : Int32) (u : q_S) => r2 = r9 ∧ u = (s9, a9, g9)) (q_B D (q_tM ca) (q_wM h ad ca) A) A) args st 0 0 A) (F0 m 49 ls []) := by
    intro s a g x1 x2 x3 H locs ls hf I hl
    unfold f_X3_reader_b49 at hf
    refine lv_iload_n C.1 C.2.1 dX3_reader_49 rfl (lv_at hl 1 rfl) ?_
    refine lv_iconst (v := 4) C.1 C.2.1 dX3_reader_50 (by decide) ?_
    refine lv_icmp_eq (tgt := 59) C.1 C.2.1 dX3_reader_51 (by decide) (fun c34 => ?_) (fun c34 => ?_)
    · have hf := q_if_t hf c34
      refine lv_aload_n C.1 C.2.1 dX3_reader_59 rfl (lv_at hl 0 rfl) ?_
      refine lv_iload_n C.1 C.2.1 dX3_reader_60 rfl (lv_at hl 3 rfl) ?_
      obtain ⟨r39, s35, a36, g37, h38, hf⟩ := q_ci_some hf
      refine q_callVi (As := [.int x3]) (rest := []) C hml (c_X3_isReader h38) (cwV 1 C.2.2.2.1 gX3_reader_X3_isReader rfl rfl rfl e_X3_isReader ⟨Nat.le_of_ble_eq_true rfl, Nat.le_of_ble_eq_true rfl⟩) I hA (q0 := 0) (ci := 3) rfl rfl rfl rfl hl.1 rfl (Nat.le_of_ble_eq_true rfl) dX3_reader_61 ⟨Nat.zero_le _, Nat.zero_le _⟩ (fun H locs I => ?_)
      refine lv_if_ne (tgt := 70) C.1 C.2.1 dX3_reader_64 (by decide) (fun c40 => ?_) (fun c40 => ?_)
      · have hf := q_if_f hf c40
        exact b70 _ _ _ _ _ _ _ _ _ hf I (lv_sub hl [0, 1, 2, 3] rfl)
      · have hf := q_if_t hf c40
        refine lv_bipush (v := (-2)) C.1 C.2.1 dX3_reader_67 (by decide) ?_
        obtain ⟨rfl, rfl, rfl, rfl⟩ := q_some4 hf
        exact q_iret C hr hlocks I dX3_reader_69
    · have hf := q_if_f hf c34
      refine lv_iload_n C.1 C.2.1 dX3_reader_54 rfl (lv_at hl 1 rfl) ?_
      refine lv_iconst (v := 5) C.1 C.2.1 dX3_reader_55 (by decide) ?_
      refine lv_icmp_ne (tgt := 70) C.1 C.2.1 dX3_reader_56 (by decide) (fun c41 => ?_) (fun c41 => ?_)
      · have hf := q_if_f hf c41
        exact b70 _ _ _ _ _ _ _ _ _ hf I (lv_sub hl [0, 1, 2, 3] rfl)
      · have hf := q_if_t hf c41
        refine lv_aload_n C.1 C.2.1 dX3_reader_59 rfl (lv_at hl 0 rfl) ?_
        refine lv_iload_n C.1 C.2.1 dX3_reader_60 rfl (lv_at hl 3 rfl) ?_
        obtain ⟨r46, s42, a43, g44, h45, hf⟩ := q_ci_some hf
        refine q_callVi (As := [.int x3]) (rest := []) C hml (c_X3_isReader h45) (cwV 1 C.2.2.2.1 gX3_reader_X3_isReader rfl rfl rfl e_X3_isReader ⟨Nat.le_of_ble_eq_true rfl, Nat.le_of_ble_eq_true rfl⟩) I hA (q0 := 0) (ci := 3) rfl rfl rfl rfl hl.1 rfl (Nat.le_of_ble_eq_true rfl) dX3_reader_61 ⟨Nat.zero_le _, Nat.zero_le _⟩ (fun H locs I => ?_)
        refine lv_if_ne (tgt := 70) C.1 C.2.1 dX3_reader_64 (by decide) (fun c47 => ?_) (fun c47 => ?_)
        · have hf := q_if_f hf c47
          exact b70 _ _ _ _ _ _ _ _ _ hf I (lv_sub hl [0, 1, 2, 3] rfl)
        · have hf := q_if_t hf c47
          refine lv_bipush (v := (-2)) C.1 C.2.1 dX3_reader_67 (by decide) ?_
          obtain ⟨rfl, rfl, rfl, rfl⟩ := q_some4 hf
          exact q_iret C hr hlocks I dX3_reader_69
  refine lv_iload_n C.1 C.2.1 dX3_reader_0 rfl (lv_at hl 1 rfl) ?_
  refine lv_iconst (v := 0) C.1 C.2.1 dX3_reader_1 (by decide) ?_
  refine lv_bipush (v := 15) C.1 C.2.1 dX3_reader_2 (by decide) ?_
  obtain ⟨r52, s48, a49, g50, h51, hf⟩ := q_ci_some hf
  refine q_callSi (As := [.int p1, .int 0, .int 15]) (rest := []) C hml (c_X3_in h51) (va_cwS 3 C.2.2.2.1 gX3_reader_X3_in rfl rfl rfl e_X3_in ⟨Nat.le_of_ble_eq_true rfl, Nat.le_of_ble_eq_true rfl⟩) I hA rfl hl.1 rfl (Nat.le_of_ble_eq_true rfl) dX3_reader_4 ⟨Nat.zero_le _, Nat.zero_le _⟩ (fun H locs I => ?_)
  refine lv_if_ne (tgt := 13) C.1 C.2.1 dX3_reader_7 (by decide) (fun c53 => ?_) (fun c53 => ?_)
  · have hf := q_if_f hf c53
    refine lv_iload_n C.1 C.2.1 dX3_reader_13 rfl (lv_at hl 1 rfl) ?_
    refine lv_iconst (v := 4) C.1 C.2.1 dX3_reader_14 (by decide) ?_
    refine lv_bipush (v := 9) C.1 C.2.1 dX3_reader_15 (by decide) ?_
    obtain ⟨r58, s54, a55, g56, h57, hf⟩ := q_ci_some hf
    refine q_callSi (As := [.int p1, .int 4, .int 9]) (rest := []) C hml (c_X3_in h57) (va_cwS 3 C.2.2.2.1 gX3_reader_X3_in rfl rfl rfl e_X3_in ⟨Nat.le_of_ble_eq_true rfl, Nat.le_of_ble_eq_true rfl⟩) I hA rfl hl.1 rfl (Nat.le_of_ble_eq_true rfl) dX3_reader_17 ⟨Nat.zero_le _, Nat.zero_le _⟩ (fun H locs I => ?_)
    refine lv_if_ne (tgt := 29) C.1 C.2.1 dX3_reader_20 (by decide) (fun c59 => ?_) (fun c59 => ?_)
    · have hf := q_if_f hf c59
      refine lv_iconst (v := 1) C.1 C.2.1 dX3_reader_29 (by decide) ?_
      refine lv_goto (tgt := 34) C.1 C.2.1 dX3_reader_30 (by decide) ?_
      refine lv_istore (lv' := [(4, .int 1), (0, .ref h), (1, .int p1), (2, .int p2), (3, .int p3)]) C.1 C.2.1 dX3_reader_34 hl (by decide) rfl (fun ls hl => ?_)
      refine lv_iload C.1 C.2.1 dX3_reader_36 (lv_at hl 0 rfl) ?_
      refine lv_if_eq (tgt := 49) C.1 C.2.1 dX3_reader_38 (by decide) (fun c60 => absurd c60 (by decide)) (fun _ => ?_)
      refine lv_aload_n C.1 C.2.1 dX3_reader_41 rfl (lv_at hl 1 rfl) ?_
      refine lv_iload_n C.1 C.2.1 dX3_reader_42 rfl (lv_at hl 3 rfl) ?_
      obtain ⟨r65, s61, a62, g63, h64, hf⟩ := q_ci_some hf
      refine q_callVi (As := [.int p2]) (rest := []) C hml (c_X3_isReader h64) (cwV 1 C.2.2.2.1 gX3_reader_X3_isReader rfl rfl rfl e_X3_isReader ⟨Nat.le_of_ble_eq_true rfl, Nat.le_of_ble_eq_true rfl⟩) I hA (q0 := 0) (ci := 3) rfl rfl rfl rfl hl.1 rfl (Nat.le_of_ble_eq_true rfl) dX3_reader_43 ⟨Nat.zero_le _, Nat.zero_le _⟩ (fun H locs I => ?_)
      refine lv_if_eq (tgt := 67) C.1 C.2.1 dX3_reader_46 (by decide) (fun c66 => ?_) (fun c66 => ?_)
      · have hf := q_if_t hf c66
        refine lv_bipush (v := (-2)) C.1 C.2.1 dX3_reader_67 (by decide) ?_
        obtain ⟨rfl, rfl, rfl, rfl⟩ := q_some4 hf
        exact q_iret C hr hlocks I dX3_reader_69
      · have hf := q_if_f hf c66
        exact b49 _ _ _ _ _ _ _ _ _ hf I (lv_sub hl [1, 2, 3, 4] rfl)
    · have hf := q_if_t hf c59
      refine lv_iload_n C.1 C.2.1 dX3_reader_23 rfl (lv_at hl 1 rfl) ?_
      refine lv_bipush (v := 11) C.1 C.2.1 dX3_reader_24 (by decide) ?_
      refine lv_icmp_ne (tgt := 33) C.1 C.2.1 dX3_reader_26 (by decide) (fun c67 => ?_) (fun c67 => ?_)
      · have hf := q_if_f hf c67
        refine lv_iconst (v := 0) C.1 C.2.1 dX3_reader_33 (by decide) ?_
        refine lv_istore (lv' := [(4, .int 0), (0, .ref h), (1, .int p1), (2, .int p2), (3, .int p3)]) C.1 C.2.1 dX3_reader_34 hl (by decide) rfl (fun ls hl => ?_)
        refine lv_iload C.1 C.2.1 dX3_reader_36 (lv_at hl 0 rfl) ?_
        refine lv_if_eq (tgt := 49) C.1 C.2.1 dX3_reader_38 (by decide) (fun _ => ?_) (fun c68 => absurd c68 (by decide))
        exact b49 _ _ _ _ _ _ _ _ _ hf I (lv_sub hl [1, 2, 3, 4] rfl)
      · have hf := q_if_t hf c67
        refine lv_iconst (v := 1) C.1 C.2.1 dX3_reader_29 (by decide) ?_
        refine lv_goto (tgt := 34) C.1 C.2.1 dX3_reader_30 (by decide) ?_
        refine lv_istore (lv' := [(4, .int 1), (0, .ref h), (1, .int p1), (2, .int p2), (3, .int p3)]) C.1 C.2.1 dX3_reader_34 hl (by decide) rfl (fun ls hl => ?_)
        refine lv_iload C.1 C.2.1 dX3_reader_36 (lv_at hl 0 rfl) ?_
        refine lv_if_eq (tgt := 49) C.1 C.2.1 dX3_reader_38 (by decide) (fun c69 => absurd c69 (by decide)) (fun _ => ?_)
        refine lv_aload_n C.1 C.2.1 dX3_reader_41 rfl (lv_at hl 1 rfl) ?_
        refine lv_iload_n C.1 C.2.1 dX3_reader_42 rfl (lv_at hl 3 rfl) ?_
        obtain ⟨r74, s70, a71, g72, h73, hf⟩ := q_ci_some hf
        refine q_callVi (As := [.int p2]) (rest := []) C hml (c_X3_isReader h73) (cwV 1 C.2.2.2.1 gX3_reader_X3_isReader rfl rfl rfl e_X3_isReader ⟨Nat.le_of_ble_eq_true rfl, Nat.le_of_ble_eq_true rfl⟩) I hA (q0 := 0) (ci := 3) rfl rfl rfl rfl hl.1 rfl (Nat.le_of_ble_eq_true rfl) dX3_reader_43 ⟨Nat.zero_le _, Nat.zero_le _⟩ (fun H locs I => ?_)
        refine lv_if_eq (tgt := 67) C.1 C.2.1 dX3_reader_46 (by decide) (fun c75 => ?_) (fun c75 => ?_)
        · have hf := q_if_t hf c75
          refine lv_bipush (v := (-2)) C.1 C.2.1 dX3_reader_67 (by decide) ?_
          obtain ⟨rfl, rfl, rfl, rfl⟩ := q_some4 hf
          exact q_iret C hr hlocks I dX3_reader_69
        · have hf := q_if_f hf c75
          exact b49 _ _ _ _ _ _ _ _ _ hf I (lv_sub hl [1, 2, 3, 4] rfl)
  · have hf := q_if_t hf c53
    refine lv_bipush (v := (-2)) C.1 C.2.1 dX3_reader_10 (by decide) ?_
    obtain ⟨rfl, rfl, rfl, rfl⟩ := q_some4 hf
    exact q_iret C hr hlocks I dX3_reader_12
def f_X3_name (s : q_s) (a : q_a) (g : q_g) (p1 : Int32) (p2 : Int32) : Option (Int32 × q_S) :=
 q_ci (f_X3_in s a g p1 0 9) fun r5 s1 a2 g3 =>
 if r5 = 0 then
  some ((-2), s1, a2, g3)
 else
  if p2 = (-1) then
   q_ck p1 10 <|
   if a2 7 p1.toNatClampNeg = (-1) then
    q_ck p1 10 <|
    q_bd (q_ua a2 7 p1.toNatClampNeg p2) fun a15 =>
    some (0, s1, a15, g3)
   else
    q_ck p1 10 <|
    q_bd (q_ua a2 7 p1.toNatClampNeg p2) fun a12 =>
    some (1, s1, a12, g3)
  else
   q_ci (f_X3_isReader s1 a2 g3 p2) fun r20 s16 a17 g18 =>
   if r20 = 0 then
    some ((-2), s16, a17, g18)
   else
    q_ck p1 10 <|
    if a17 7 p1.toNatClampNeg = (-1) then
     q_ck p1 10 <|
     q_bd (q_ua a17 7 p1.toNatClampNeg p2) fun a29 =>
     some (0, s16, a29, g18)
    else
     q_ck p1 10 <|
     q_bd (q_ua a17 7 p1.toNatClampNeg p2) fun a26 =>
     some (1, s16, a26, g18)
theorem e_X3_name : yX3_name.cls = RX3 ∧ yX3_name.cls ≠ "java/lang/invoke/MethodHandle" ∧ yX3_name.cls ≠ "java/lang/invoke/VarHandle" ∧ (parseMethodDescriptor yX3_name.desc).map (fun d => d.parameters.length) = some 2 := by decide +kernel
set_option maxHeartbeats 4000000 in
set_option maxRecDepth 100000 in
theorem c_X3_name {l : Launch} {D : va_G} {h : Nat} {ad : Nat → Nat} {ca : Nat → ClassId} {s s9 : q_s} {a a9 : q_a} {g g9 : q_g} {p1 : Int32} {p2 : Int32} {r9 : Int32} (hf : f_X3_name s a g p1 p2 = some (r9, s9, a9, g9)) : q_Mi l yX3_name wsX3_name ({ frames := 2, cells := 0, slots := 0, locals := 43 }) D (q_tM ca) (q_wM h ad ca) [.ref h, .int p1, .int p2] s a g r9 s9 a9 g9 := by
  unfold f_X3_name at hf
  refine q_entI (cc := cX3_name) (maxL := 4) (ret := (some .int)) (by decide) rfl (Nat.le_of_ble_eq_true rfl) ?_
  intro p e st m args below meth c A ls C hr hlocks hml hA I hl
  have hl : lv_has ls 4 [(0, .ref h), (1, .int p1), (2, .int p2)] := hl
  have hinX3 : ∀ w ∈ wsX30, w ∈ wsX3_name := fun _ h => List.mem_cons_of_mem _ (List.mem_append_right _ h)
  have k25 : Cond.fieldLink RX3 25 "ReaderYardModel" "names" "[I" ∈ wsX3_name := by decide +kernel
  refine lv_iload_n C.1 C.2.1 dX3_name_0 rfl (lv_at hl 1 rfl) ?_
  refine lv_iconst (v := 0) C.1 C.2.1 dX3_name_1 (by decide) ?_
  refine lv_bipush (v := 9) C.1 C.2.1 dX3_name_2 (by decide) ?_
  obtain ⟨r5, s1, a2, g3, h4, hf⟩ := q_ci_some hf
  refine q_callSi (As := [.int p1, .int 0, .int 9]) (rest := []) C hml (c_X3_in h4) (va_cwS 3 C.2.2.2.1 gX3_name_X3_in rfl rfl rfl e_X3_in ⟨Nat.le_of_ble_eq_true rfl, Nat.le_of_ble_eq_true rfl⟩) I hA rfl hl.1 rfl (Nat.le_of_ble_eq_true rfl) dX3_name_4 ⟨Nat.zero_le _, Nat.zero_le _⟩ (fun H locs I => ?_)
  refine lv_if_eq (tgt := 23) C.1 C.2.1 dX3_name_7 (by decide) (fun c6 => ?_) (fun c6 => ?_)
  · have hf := q_if_t hf c6
    refine lv_bipush (v := (-2)) C.1 C.2.1 dX3_name_23 (by decide) ?_
    obtain ⟨rfl, rfl, rfl, rfl⟩ := q_some4 hf
    exact q_iret C hr hlocks I dX3_name_25
  · have hf := q_if_f hf c6
    refine lv_iload_n C.1 C.2.1 dX3_name_10 rfl (lv_at hl 2 rfl) ?_
    refine lv_iconst (v := (-1)) C.1 C.2.1 dX3_name_11 (by decide) ?_
    refine lv_icmp_eq (tgt := 26) C.1 C.2.1 dX3_name_12 (by decide) (fun c7 => ?_) (fun c7 => ?_)
    · have hf := q_if_t hf c7
      refine lv_aload_n C.1 C.2.1 dX3_name_26 rfl (lv_at hl 0 rfl) ?_
      refine q_get_RX3_25 C hinX3 k25 I dX3_name_27 ?_
      refine lv_iload_n C.1 C.2.1 dX3_name_30 rfl (lv_at hl 1 rfl) ?_
      obtain ⟨b8, hf⟩ := q_ck_some hf
      refine q_ld_M_names C b8 I dX3_name_31 ?_
      refine lv_iconst (v := (-1)) C.1 C.2.1 dX3_name_32 (by decide) ?_
      refine lv_icmp_ne (tgt := 40) C.1 C.2.1 dX3_name_33 (by decide) (fun c9 => ?_) (fun c9 => ?_)
      · have hf := q_if_f hf c9
        refine lv_iconst (v := 1) C.1 C.2.1 dX3_name_40 (by decide) ?_
        refine lv_istore_n (lv' := [(3, .int 1), (0, .ref h), (1, .int p1), (2, .int p2)]) C.1 C.2.1 dX3_name_41 rfl hl (by decide) rfl (fun ls hl => ?_)
        refine lv_aload_n C.1 C.2.1 dX3_name_42 rfl (lv_at hl 1 rfl) ?_
        refine q_get_RX3_25 C hinX3 k25 I dX3_name_43 ?_
        refine lv_iload_n C.1 C.2.1 dX3_name_46 rfl (lv_at hl 2 rfl) ?_
        refine lv_iload_n C.1 C.2.1 dX3_name_47 rfl (lv_at hl 3 rfl) ?_
        obtain ⟨b10, hf⟩ := q_ck_some hf
        obtain ⟨a12, e11, hf⟩ := q_bd_some hf
        refine q_st_M_names C b10 e11 I dX3_name_48 (fun H locs I => ?_)
        refine lv_iload_n C.1 C.2.1 dX3_name_49 rfl (lv_at hl 0 rfl) ?_
        obtain ⟨rfl, rfl, rfl, rfl⟩ := q_some4 hf
        exact q_iret C hr hlocks I dX3_name_50
      · have hf := q_if_t hf c9
        refine lv_iconst (v := 0) C.1 C.2.1 dX3_name_36 (by decide) ?_
        refine lv_goto (tgt := 41) C.1 C.2.1 dX3_name_37 (by decide) ?_
        refine lv_istore_n (lv' := [(3, .int 0), (0, .ref h), (1, .int p1), (2, .int p2)]) C.1 C.2.1 dX3_name_41 rfl hl (by decide) rfl (fun ls hl => ?_)
        refine lv_aload_n C.1 C.2.1 dX3_name_42 rfl (lv_at hl 1 rfl) ?_
        refine q_get_RX3_25 C hinX3 k25 I dX3_name_43 ?_
        refine lv_iload_n C.1 C.2.1 dX3_name_46 rfl (lv_at hl 2 rfl) ?_
        refine lv_iload_n C.1 C.2.1 dX3_name_47 rfl (lv_at hl 3 rfl) ?_
        obtain ⟨b13, hf⟩ := q_ck_some hf
        obtain ⟨a15, e14, hf⟩ := q_bd_some hf
        refine q_st_M_names C b13 e14 I dX3_name_48 (fun H locs I => ?_)
        refine lv_iload_n C.1 C.2.1 dX3_name_49 rfl (lv_at hl 0 rfl) ?_
        obtain ⟨rfl, rfl, rfl, rfl⟩ := q_some4 hf
        exact q_iret C hr hlocks I dX3_name_50
    · have hf := q_if_f hf c7
      refine lv_aload_n C.1 C.2.1 dX3_name_15 rfl (lv_at hl 0 rfl) ?_
      refine lv_iload_n C.1 C.2.1 dX3_name_16 rfl (lv_at hl 2 rfl) ?_
      obtain ⟨r20, s16, a17, g18, h19, hf⟩ := q_ci_some hf
      refine q_callVi (As := [.int p2]) (rest := []) C hml (c_X3_isReader h19) (cwV 1 C.2.2.2.1 gX3_name_X3_isReader rfl rfl rfl e_X3_isReader ⟨Nat.le_of_ble_eq_true rfl, Nat.le_of_ble_eq_true rfl⟩) I hA (q0 := 0) (ci := 3) rfl rfl rfl rfl hl.1 rfl (Nat.le_of_ble_eq_true rfl) dX3_name_17 ⟨Nat.zero_le _, Nat.zero_le _⟩ (fun H locs I => ?_)
      refine lv_if_ne (tgt := 26) C.1 C.2.1 dX3_name_20 (by decide) (fun c21 => ?_) (fun c21 => ?_)
      · have hf := q_if_f hf c21
        refine lv_aload_n C.1 C.2.1 dX3_name_26 rfl (lv_at hl 0 rfl) ?_
        refine q_get_RX3_25 C hinX3 k25 I dX3_name_27 ?_
        refine lv_iload_n C.1 C.2.1 dX3_name_30 rfl (lv_at hl 1 rfl) ?_
        obtain ⟨b22, hf⟩ := q_ck_some hf
        refine q_ld_M_names C b22 I dX3_name_31 ?_
        refine lv_iconst (v := (-1)) C.1 C.2.1 dX3_name_32 (by decide) ?_
        refine lv_icmp_ne (tgt := 40) C.1 C.2.1 dX3_name_33 (by decide) (fun c23 => ?_) (fun c23 => ?_)
        · have hf := q_if_f hf c23
          refine lv_iconst (v := 1) C.1 C.2.1 dX3_name_40 (by decide) ?_
          refine lv_istore_n (lv' := [(3, .int 1), (0, .ref h), (1, .int p1), (2, .int p2)]) C.1 C.2.1 dX3_name_41 rfl hl (by decide) rfl (fun ls hl => ?_)
          refine lv_aload_n C.1 C.2.1 dX3_name_42 rfl (lv_at hl 1 rfl) ?_
          refine q_get_RX3_25 C hinX3 k25 I dX3_name_43 ?_
          refine lv_iload_n C.1 C.2.1 dX3_name_46 rfl (lv_at hl 2 rfl) ?_
          refine lv_iload_n C.1 C.2.1 dX3_name_47 rfl (lv_at hl 3 rfl) ?_
          obtain ⟨b24, hf⟩ := q_ck_some hf
          obtain ⟨a26, e25, hf⟩ := q_bd_some hf
          refine q_st_M_names C b24 e25 I dX3_name_48 (fun H locs I => ?_)
          refine lv_iload_n C.1 C.2.1 dX3_name_49 rfl (lv_at hl 0 rfl) ?_
          obtain ⟨rfl, rfl, rfl, rfl⟩ := q_some4 hf
          exact q_iret C hr hlocks I dX3_name_50
        · have hf := q_if_t hf c23
          refine lv_iconst (v := 0) C.1 C.2.1 dX3_name_36 (by decide) ?_
          refine lv_goto (tgt := 41) C.1 C.2.1 dX3_name_37 (by decide) ?_
          refine lv_istore_n (lv' := [(3, .int 0), (0, .ref h), (1, .int p1), (2, .int p2)]) C.1 C.2.1 dX3_name_41 rfl hl (by decide) rfl (fun ls hl => ?_)
          refine lv_aload_n C.1 C.2.1 dX3_name_42 rfl (lv_at hl 1 rfl) ?_
          refine q_get_RX3_25 C hinX3 k25 I dX3_name_43 ?_
          refine lv_iload_n C.1 C.2.1 dX3_name_46 rfl (lv_at hl 2 rfl) ?_
          refine lv_iload_n C.1 C.2.1 dX3_name_47 rfl (lv_at hl 3 rfl) ?_
          obtain ⟨b27, hf⟩ := q_ck_some hf
          obtain ⟨a29, e28, hf⟩ := q_bd_some hf
          refine q_st_M_names C b27 e28 I dX3_name_48 (fun H locs I => ?_)
          refine lv_iload_n C.1 C.2.1 dX3_name_49 rfl (lv_at hl 0 rfl) ?_
          obtain ⟨rfl, rfl, rfl, rfl⟩ := q_some4 hf
          exact q_iret C hr hlocks I dX3_name_50
      · have hf := q_if_t hf c21
        refine lv_bipush (v := (-2)) C.1 C.2.1 dX3_name_23 (by decide) ?_
        obtain ⟨rfl, rfl, rfl, rfl⟩ := q_some4 hf
        exact q_iret C hr hlocks I dX3_name_25
def f_X3_begin (s : q_s) (a : q_a) (g : q_g) (p1 : Int32) (p2 : Int32) : Option q_S :=
 if s 17 = 150 then
  q_bd (q_us s 30 4) fun s44 =>
  some (s44, a, g)
 else
  if s 31 = 3000 then
   q_bd (q_us s 30 5) fun s42 =>
   some (s42, a, g)
  else
   q_bd (q_us s 31 ((s 31) + 1)) fun s3 =>
   q_bd (q_us s3 32 ((s3 32) + 1)) fun s5 =>
   q_ck p1 50 <|
   q_ck p1 50 <|
   q_bd (q_ua a 6 p1.toNatClampNeg ((a 6 p1.toNatClampNeg) + 1)) fun a10 =>
   q_ck (s5 17) 150 <|
   q_bd (q_ua a10 18 ((s5 17).toNatClampNeg) p1) fun a13 =>
   q_ck (s5 17) 150 <|
   q_bd (q_ua a13 19 ((s5 17).toNatClampNeg) 0) fun a16 =>
   q_ck (s5 17) 150 <|
   q_bd (q_ua a16 20 ((s5 17).toNatClampNeg) p2) fun a19 =>
   q_ck (s5 17) 150 <|
   q_bd (q_ua a19 21 ((s5 17).toNatClampNeg) p2) fun a22 =>
   q_ck (s5 17) 150 <|
   q_bd (q_ua a22 22 ((s5 17).toNatClampNeg) (vp_nar .boolean 0)) fun a25 =>
   q_ck (s5 17) 150 <|
   q_bd (q_ua a25 23 ((s5 17).toNatClampNeg) (s5 12)) fun a28 =>
   q_ck (s5 17) 150 <|
   q_bd (q_ua a28 24 ((s5 17).toNatClampNeg) (s5 11)) fun a31 =>
   q_ck (s5 17) 150 <|
   q_bd (q_ua a31 25 ((s5 17).toNatClampNeg) (s5 13)) fun a34 =>
   q_bd (q_us s5 17 ((s5 17) + 1)) fun s35 =>
   if s35 17 ≤ s35 33 then
    q_bd (q_us s35 33 (s35 33)) fun s38 =>
    some (s38, a34, g)
   else
    q_bd (q_us s35 33 (s35 17)) fun s40 =>
    some (s40, a34, g)
theorem e_X3_begin : yX3_begin.cls = RX3 ∧ yX3_begin.cls ≠ "java/lang/invoke/MethodHandle" ∧ yX3_begin.cls ≠ "java/lang/invoke/VarHandle" ∧ (parseMethodDescriptor yX3_begin.desc).map (fun d => d.parameters.length) = some 2 := by decide +kernel
set_option maxHeartbeats 4000000 in
set_option maxRecDepth 100000 in
theorem c_X3_begin {l : Launch} {D : va_G} {h : Nat} {ad : Nat → Nat} {ca : Nat → ClassId} {s s9 : q_s} {a a9 : q_a} {g g9 : q_g} {p1 : Int32} {p2 : Int32} (hf : f_X3_begin s a g p1 p2 = some (s9, a9, g9)) : q_Mv l yX3_begin wsX3_begin ({ frames := 0, cells := 0, slots := 0, locals := 0 }) D (q_tM ca) (q_wM h ad ca) [.ref h, .int p1, .int p2] s a g s9 a9 g9 := by
  unfold f_X3_begin at hf
  refine q_entV (cc := cX3_begin) (maxL := 3) (ret := none) (by decide) rfl (Nat.le_of_ble_eq_true rfl) ?_
  intro p e st m args below meth c A ls C hr hlocks hml hA I hl
  have hl : lv_has ls 3 [(0, .ref h), (1, .int p1), (2, .int p2)] := hl
  have hinX3 : ∀ w ∈ wsX30, w ∈ wsX3_begin := fun _ h => List.mem_cons_of_mem _ (List.mem_append_right _ h)
  have k96 : Cond.fieldLink RX3 96 "ReaderYardModel" "deep" "I" ∈ wsX3_begin := by decide +kernel
  have k102 : Cond.fieldLink RX3 102 "ReaderYardModel" "steps" "I" ∈ wsX3_begin := by decide +kernel
  have k105 : Cond.fieldLink RX3 105 "ReaderYardModel" "allSteps" "I" ∈ wsX3_begin := by decide +kernel
  have k22 : Cond.fieldLink RX3 22 "ReaderYardModel" "begins" "[I" ∈ wsX3_begin := by decide +kernel
  have k47 : Cond.fieldLink RX3 47 "ReaderYardModel" "reader" "[I" ∈ wsX3_begin := by decide +kernel
  have k50 : Cond.fieldLink RX3 50 "ReaderYardModel" "phase" "[I" ∈ wsX3_begin := by decide +kernel
  have k53 : Cond.fieldLink RX3 53 "ReaderYardModel" "start" "[I" ∈ wsX3_begin := by decide +kernel
  have k56 : Cond.fieldLink RX3 56 "ReaderYardModel" "came" "[I" ∈ wsX3_begin := by decide +kernel
  have k59 : Cond.fieldLink RX3 59 "ReaderYardModel" "barred" "[Z" ∈ wsX3_begin := by decide +kernel
  have k63 : Cond.fieldLink RX3 63 "ReaderYardModel" "keptTop" "[I" ∈ wsX3_begin := by decide +kernel
  have k108 : Cond.fieldLink RX3 108 "ReaderYardModel" "onTop" "I" ∈ wsX3_begin := by decide +kernel
  have k66 : Cond.fieldLink RX3 66 "ReaderYardModel" "keptChain" "[I" ∈ wsX3_begin := by decide +kernel
  have k111 : Cond.fieldLink RX3 111 "ReaderYardModel" "chain" "I" ∈ wsX3_begin := by decide +kernel
  have k69 : Cond.fieldLink RX3 69 "ReaderYardModel" "keptMarks" "[I" ∈ wsX3_begin := by decide +kernel
  have k114 : Cond.fieldLink RX3 114 "ReaderYardModel" "marks" "I" ∈ wsX3_begin := by decide +kernel
  have k117 : Cond.fieldLink RX3 117 "ReaderYardModel" "deepest" "I" ∈ wsX3_begin := by decide +kernel
  have k99 : Cond.fieldLink RX3 99 "ReaderYardModel" "fault" "I" ∈ wsX3_begin := by decide +kernel
  refine lv_aload_n C.1 C.2.1 dX3_begin_0 rfl (lv_at hl 0 rfl) ?_
  refine q_get_RX3_96 C hinX3 k96 I dX3_begin_1 ?_
  refine lv_sipush (v := 150) C.1 C.2.1 dX3_begin_4 (by decide) ?_
  refine lv_icmp_ne (tgt := 18) C.1 C.2.1 dX3_begin_7 (by decide) (fun c1 => ?_) (fun c1 => ?_)
  · have hf := q_if_f hf c1
    refine lv_aload_n C.1 C.2.1 dX3_begin_18 rfl (lv_at hl 0 rfl) ?_
    refine q_get_RX3_102 C hinX3 k102 I dX3_begin_19 ?_
    refine lv_sipush (v := 3000) C.1 C.2.1 dX3_begin_22 (by decide) ?_
    refine lv_icmp_ne (tgt := 36) C.1 C.2.1 dX3_begin_25 (by decide) (fun c2 => ?_) (fun c2 => ?_)
    · have hf := q_if_f hf c2
      refine lv_aload_n C.1 C.2.1 dX3_begin_36 rfl (lv_at hl 0 rfl) ?_
      refine lv_dup C.1 C.2.1 dX3_begin_37 rfl ?_
      refine q_get_RX3_102 C hinX3 k102 I dX3_begin_38 ?_
      refine lv_iconst (v := 1) C.1 C.2.1 dX3_begin_41 (by decide) ?_
      refine lv_iadd C.1 C.2.1 dX3_begin_42 ?_
      obtain ⟨s3, e4, hf⟩ := q_bd_some hf
      refine q_put_RX3_102 C hinX3 k102 e4 I dX3_begin_43 (fun H locs I => ?_)
      refine lv_aload_n C.1 C.2.1 dX3_begin_46 rfl (lv_at hl 0 rfl) ?_
      refine lv_dup C.1 C.2.1 dX3_begin_47 rfl ?_
      refine q_get_RX3_105 C hinX3 k105 I dX3_begin_48 ?_
      refine lv_iconst (v := 1) C.1 C.2.1 dX3_begin_51 (by decide) ?_
      refine lv_iadd C.1 C.2.1 dX3_begin_52 ?_
      obtain ⟨s5, e6, hf⟩ := q_bd_some hf
      refine q_put_RX3_105 C hinX3 k105 e6 I dX3_begin_53 (fun H locs I => ?_)
      refine lv_aload_n C.1 C.2.1 dX3_begin_56 rfl (lv_at hl 0 rfl) ?_
      refine q_get_RX3_22 C hinX3 k22 I dX3_begin_57 ?_
      refine lv_iload_n C.1 C.2.1 dX3_begin_60 rfl (lv_at hl 1 rfl) ?_
      refine lv_dup2_11 C.1 C.2.1 dX3_begin_61 rfl rfl ?_
      obtain ⟨b7, hf⟩ := q_ck_some hf
      refine q_ld_M_begins C b7 I dX3_begin_62 ?_
      refine lv_iconst (v := 1) C.1 C.2.1 dX3_begin_63 (by decide) ?_
      refine lv_iadd C.1 C.2.1 dX3_begin_64 ?_
      obtain ⟨b8, hf⟩ := q_ck_some hf
      obtain ⟨a10, e9, hf⟩ := q_bd_some hf
      refine q_st_M_begins C b8 e9 I dX3_begin_65 (fun H locs I => ?_)
      refine lv_aload_n C.1 C.2.1 dX3_begin_66 rfl (lv_at hl 0 rfl) ?_
      refine q_get_RX3_47 C hinX3 k47 I dX3_begin_67 ?_
      refine lv_aload_n C.1 C.2.1 dX3_begin_70 rfl (lv_at hl 0 rfl) ?_
      refine q_get_RX3_96 C hinX3 k96 I dX3_begin_71 ?_
      refine lv_iload_n C.1 C.2.1 dX3_begin_74 rfl (lv_at hl 1 rfl) ?_
      obtain ⟨b11, hf⟩ := q_ck_some hf
      obtain ⟨a13, e12, hf⟩ := q_bd_some hf
      refine q_st_M_reader C b11 e12 I dX3_begin_75 (fun H locs I => ?_)
      refine lv_aload_n C.1 C.2.1 dX3_begin_76 rfl (lv_at hl 0 rfl) ?_
      refine q_get_RX3_50 C hinX3 k50 I dX3_begin_77 ?_
      refine lv_aload_n C.1 C.2.1 dX3_begin_80 rfl (lv_at hl 0 rfl) ?_
      refine q_get_RX3_96 C hinX3 k96 I dX3_begin_81 ?_
      refine lv_iconst (v := 0) C.1 C.2.1 dX3_begin_84 (by decide) ?_
      obtain ⟨b14, hf⟩ := q_ck_some hf
      obtain ⟨a16, e15, hf⟩ := q_bd_some hf
      refine q_st_M_phase C b14 e15 I dX3_begin_85 (fun H locs I => ?_)
      refine lv_aload_n C.1 C.2.1 dX3_begin_86 rfl (lv_at hl 0 rfl) ?_
      refine q_get_RX3_53 C hinX3 k53 I dX3_begin_87 ?_
      refine lv_aload_n C.1 C.2.1 dX3_begin_90 rfl (lv_at hl 0 rfl) ?_
      refine q_get_RX3_96 C hinX3 k96 I dX3_begin_91 ?_
      refine lv_iload_n C.1 C.2.1 dX3_begin_94 rfl (lv_at hl 2 rfl) ?_
      obtain ⟨b17, hf⟩ := q_ck_some hf
      obtain ⟨a19, e18, hf⟩ := q_bd_some hf
      refine q_st_M_start C b17 e18 I dX3_begin_95 (fun H locs I => ?_)
      refine lv_aload_n C.1 C.2.1 dX3_begin_96 rfl (lv_at hl 0 rfl) ?_
      refine q_get_RX3_56 C hinX3 k56 I dX3_begin_97 ?_
      refine lv_aload_n C.1 C.2.1 dX3_begin_100 rfl (lv_at hl 0 rfl) ?_
      refine q_get_RX3_96 C hinX3 k96 I dX3_begin_101 ?_
      refine lv_iload_n C.1 C.2.1 dX3_begin_104 rfl (lv_at hl 2 rfl) ?_
      obtain ⟨b20, hf⟩ := q_ck_some hf
      obtain ⟨a22, e21, hf⟩ := q_bd_some hf
      refine q_st_M_came C b20 e21 I dX3_begin_105 (fun H locs I => ?_)
      refine lv_aload_n C.1 C.2.1 dX3_begin_106 rfl (lv_at hl 0 rfl) ?_
      refine q_get_RX3_59 C hinX3 k59 I dX3_begin_107 ?_
      refine lv_aload_n C.1 C.2.1 dX3_begin_110 rfl (lv_at hl 0 rfl) ?_
      refine q_get_RX3_96 C hinX3 k96 I dX3_begin_111 ?_
      refine lv_iconst (v := 0) C.1 C.2.1 dX3_begin_114 (by decide) ?_
      obtain ⟨b23, hf⟩ := q_ck_some hf
      obtain ⟨a25, e24, hf⟩ := q_bd_some hf
      refine q_st_M_barred C b23 e24 I dX3_begin_115 (fun H locs I => ?_)
      refine lv_aload_n C.1 C.2.1 dX3_begin_116 rfl (lv_at hl 0 rfl) ?_
      refine q_get_RX3_63 C hinX3 k63 I dX3_begin_117 ?_
      refine lv_aload_n C.1 C.2.1 dX3_begin_120 rfl (lv_at hl 0 rfl) ?_
      refine q_get_RX3_96 C hinX3 k96 I dX3_begin_121 ?_
      refine lv_aload_n C.1 C.2.1 dX3_begin_124 rfl (lv_at hl 0 rfl) ?_
      refine q_get_RX3_108 C hinX3 k108 I dX3_begin_125 ?_
      obtain ⟨b26, hf⟩ := q_ck_some hf
      obtain ⟨a28, e27, hf⟩ := q_bd_some hf
      refine q_st_M_keptTop C b26 e27 I dX3_begin_128 (fun H locs I => ?_)
      refine lv_aload_n C.1 C.2.1 dX3_begin_129 rfl (lv_at hl 0 rfl) ?_
      refine q_get_RX3_66 C hinX3 k66 I dX3_begin_130 ?_
      refine lv_aload_n C.1 C.2.1 dX3_begin_133 rfl (lv_at hl 0 rfl) ?_
      refine q_get_RX3_96 C hinX3 k96 I dX3_begin_134 ?_
      refine lv_aload_n C.1 C.2.1 dX3_begin_137 rfl (lv_at hl 0 rfl) ?_
      refine q_get_RX3_111 C hinX3 k111 I dX3_begin_138 ?_
      obtain ⟨b29, hf⟩ := q_ck_some hf
      obtain ⟨a31, e30, hf⟩ := q_bd_some hf
      refine q_st_M_keptChain C b29 e30 I dX3_begin_141 (fun H locs I => ?_)
      refine lv_aload_n C.1 C.2.1 dX3_begin_142 rfl (lv_at hl 0 rfl) ?_
      refine q_get_RX3_69 C hinX3 k69 I dX3_begin_143 ?_
      refine lv_aload_n C.1 C.2.1 dX3_begin_146 rfl (lv_at hl 0 rfl) ?_
      refine q_get_RX3_96 C hinX3 k96 I dX3_begin_147 ?_
      refine lv_aload_n C.1 C.2.1 dX3_begin_150 rfl (lv_at hl 0 rfl) ?_
      refine q_get_RX3_114 C hinX3 k114 I dX3_begin_151 ?_
      obtain ⟨b32, hf⟩ := q_ck_some hf
      obtain ⟨a34, e33, hf⟩ := q_bd_some hf
      refine q_st_M_keptMarks C b32 e33 I dX3_begin_154 (fun H locs I => ?_)
      refine lv_aload_n C.1 C.2.1 dX3_begin_155 rfl (lv_at hl 0 rfl) ?_
      refine lv_dup C.1 C.2.1 dX3_begin_156 rfl ?_
      refine q_get_RX3_96 C hinX3 k96 I dX3_begin_157 ?_
      refine lv_iconst (v := 1) C.1 C.2.1 dX3_begin_160 (by decide) ?_
      refine lv_iadd C.1 C.2.1 dX3_begin_161 ?_
      obtain ⟨s35, e36, hf⟩ := q_bd_some hf
      refine q_put_RX3_96 C hinX3 k96 e36 I dX3_begin_162 (fun H locs I => ?_)
      refine lv_aload_n C.1 C.2.1 dX3_begin_165 rfl (lv_at hl 0 rfl) ?_
      refine lv_aload_n C.1 C.2.1 dX3_begin_166 rfl (lv_at hl 0 rfl) ?_
      refine q_get_RX3_96 C hinX3 k96 I dX3_begin_167 ?_
      refine lv_aload_n C.1 C.2.1 dX3_begin_170 rfl (lv_at hl 0 rfl) ?_
      refine q_get_RX3_117 C hinX3 k117 I dX3_begin_171 ?_
      refine lv_icmp_le (tgt := 184) C.1 C.2.1 dX3_begin_174 (by decide) (fun c37 => ?_) (fun c37 => ?_)
      · have hf := q_if_t hf c37
        refine lv_aload_n C.1 C.2.1 dX3_begin_184 rfl (lv_at hl 0 rfl) ?_
        refine q_get_RX3_117 C hinX3 k117 I dX3_begin_185 ?_
        obtain ⟨s38, e39, hf⟩ := q_bd_some hf
        refine q_put_RX3_117 C hinX3 k117 e39 I dX3_begin_188 (fun H locs I => ?_)
        obtain ⟨rfl, rfl, rfl⟩ := q_some3 hf
        exact q_vret C hr hlocks I dX3_begin_191
      · have hf := q_if_f hf c37
        refine lv_aload_n C.1 C.2.1 dX3_begin_177 rfl (lv_at hl 0 rfl) ?_
        refine q_get_RX3_96 C hinX3 k96 I dX3_begin_178 ?_
        refine lv_goto (tgt := 188) C.1 C.2.1 dX3_begin_181 (by decide) ?_
        obtain ⟨s40, e41, hf⟩ := q_bd_some hf
        refine q_put_RX3_117 C hinX3 k117 e41 I dX3_begin_188 (fun H locs I => ?_)
        obtain ⟨rfl, rfl, rfl⟩ := q_some3 hf
        exact q_vret C hr hlocks I dX3_begin_191
    · have hf := q_if_t hf c2
      refine lv_aload_n C.1 C.2.1 dX3_begin_28 rfl (lv_at hl 0 rfl) ?_
      refine lv_iconst (v := 5) C.1 C.2.1 dX3_begin_29 (by decide) ?_
      obtain ⟨s42, e43, hf⟩ := q_bd_some hf
      refine q_put_RX3_99 C hinX3 k99 e43 I dX3_begin_30 (fun H locs I => ?_)
      refine lv_goto (tgt := 191) C.1 C.2.1 dX3_begin_33 (by decide) ?_
      obtain ⟨rfl, rfl, rfl⟩ := q_some3 hf
      exact q_vret C hr hlocks I dX3_begin_191
  · have hf := q_if_t hf c1
    refine lv_aload_n C.1 C.2.1 dX3_begin_10 rfl (lv_at hl 0 rfl) ?_
    refine lv_iconst (v := 4) C.1 C.2.1 dX3_begin_11 (by decide) ?_
    obtain ⟨s44, e45, hf⟩ := q_bd_some hf
    refine q_put_RX3_99 C hinX3 k99 e45 I dX3_begin_12 (fun H locs I => ?_)
    refine lv_goto (tgt := 191) C.1 C.2.1 dX3_begin_15 (by decide) ?_
    obtain ⟨rfl, rfl, rfl⟩ := q_some3 hf
    exact q_vret C hr hlocks I dX3_begin_191
def f_X3_asks (s : q_s) (a : q_a) (g : q_g) (p1 : Int32) (p2 : Int32) : Option q_S :=
 q_ck ((s 17) - 1) 150 <|
 q_ck ((s 17) - 1) 150 <|
 q_bd (q_ua a 19 (((s 17) - 1).toNatClampNeg) ((a 19 (((s 17) - 1).toNatClampNeg)) + 1)) fun a4 =>
 q_cv (f_X3_begin s a4 g p1 p2) fun s5 a6 g7 =>
 some (s5, a6, g7)
theorem e_X3_asks : yX3_asks.cls = RX3 ∧ yX3_asks.cls ≠ "java/lang/invoke/MethodHandle" ∧ yX3_asks.cls ≠ "java/lang/invoke/VarHandle" ∧ (parseMethodDescriptor yX3_asks.desc).map (fun d => d.parameters.length) = some 2 := by decide +kernel
set_option maxHeartbeats 4000000 in
set_option maxRecDepth 100000 in
theorem c_X3_asks {l : Launch} {D : va_G} {h : Nat} {ad : Nat → Nat} {ca : Nat → ClassId} {s s9 : q_s} {a a9 : q_a} {g g9 : q_g} {p1 : Int32} {p2 : Int32} (hf : f_X3_asks s a g p1 p2 = some (s9, a9, g9)) : q_Mv l yX3_asks wsX3_asks ({ frames := 1, cells := 0, slots := 0, locals := 22 }) D (q_tM ca) (q_wM h ad ca) [.ref h, .int p1, .int p2] s a g s9 a9 g9 := by
  unfold f_X3_asks at hf
  refine q_entV (cc := cX3_asks) (maxL := 3) (ret := none) (by decide) rfl (Nat.le_of_ble_eq_true rfl) ?_
  intro p e st m args below meth c A ls C hr hlocks hml hA I hl
  have hl : lv_has ls 3 [(0, .ref h), (1, .int p1), (2, .int p2)] := hl
  have hinX3 : ∀ w ∈ wsX30, w ∈ wsX3_asks := fun _ h => List.mem_cons_of_mem _ (List.mem_append_right _ h)
  have k50 : Cond.fieldLink RX3 50 "ReaderYardModel" "phase" "[I" ∈ wsX3_asks := by decide +kernel
  have k96 : Cond.fieldLink RX3 96 "ReaderYardModel" "deep" "I" ∈ wsX3_asks := by decide +kernel
  refine lv_aload_n C.1 C.2.1 dX3_asks_0 rfl (lv_at hl 0 rfl) ?_
  refine q_get_RX3_50 C hinX3 k50 I dX3_asks_1 ?_
  refine lv_aload_n C.1 C.2.1 dX3_asks_4 rfl (lv_at hl 0 rfl) ?_
  refine q_get_RX3_96 C hinX3 k96 I dX3_asks_5 ?_
  refine lv_iconst (v := 1) C.1 C.2.1 dX3_asks_8 (by decide) ?_
  refine lv_isub C.1 C.2.1 dX3_asks_9 ?_
  refine lv_dup2_11 C.1 C.2.1 dX3_asks_10 rfl rfl ?_
  obtain ⟨b1, hf⟩ := q_ck_some hf
  refine q_ld_M_phase C b1 I dX3_asks_11 ?_
  refine lv_iconst (v := 1) C.1 C.2.1 dX3_asks_12 (by decide) ?_
  refine lv_iadd C.1 C.2.1 dX3_asks_13 ?_
  obtain ⟨b2, hf⟩ := q_ck_some hf
  obtain ⟨a4, e3, hf⟩ := q_bd_some hf
  refine q_st_M_phase C b2 e3 I dX3_asks_14 (fun H locs I => ?_)
  refine lv_aload_n C.1 C.2.1 dX3_asks_15 rfl (lv_at hl 0 rfl) ?_
  refine lv_iload_n C.1 C.2.1 dX3_asks_16 rfl (lv_at hl 1 rfl) ?_
  refine lv_iload_n C.1 C.2.1 dX3_asks_17 rfl (lv_at hl 2 rfl) ?_
  obtain ⟨s5, a6, g7, h8, hf⟩ := q_cv_some hf
  refine q_callVv (As := [.int p1, .int p2]) (rest := []) C hml (c_X3_begin h8) (cwV 2 C.2.2.2.1 gX3_asks_X3_begin rfl rfl rfl e_X3_begin ⟨Nat.le_of_ble_eq_true rfl, Nat.le_of_ble_eq_true rfl⟩) I hA (q0 := 0) (ci := 3) rfl rfl rfl rfl hl.1 rfl (Nat.le_of_ble_eq_true rfl) dX3_asks_18 ⟨Nat.zero_le _, Nat.zero_le _⟩ (fun H locs I => ?_)
  obtain ⟨rfl, rfl, rfl⟩ := q_some3 hf
  exact q_vret C hr hlocks I dX3_asks_21
def f_X3_takeBack (s : q_s) (a : q_a) (g : q_g) (p1 : Int32) : Option q_S :=
 q_ck p1 150 <|
 q_bd (q_us s 12 (a 23 p1.toNatClampNeg)) fun s2 =>
 q_ck p1 150 <|
 q_bd (q_us s2 11 (a 24 p1.toNatClampNeg)) fun s5 =>
 q_ck p1 150 <|
 q_bd (q_us s5 13 (a 25 p1.toNatClampNeg)) fun s8 =>
 some (s8, a, g)
theorem e_X3_takeBack : yX3_takeBack.cls = RX3 ∧ yX3_takeBack.cls ≠ "java/lang/invoke/MethodHandle" ∧ yX3_takeBack.cls ≠ "java/lang/invoke/VarHandle" ∧ (parseMethodDescriptor yX3_takeBack.desc).map (fun d => d.parameters.length) = some 1 := by decide +kernel
set_option maxHeartbeats 4000000 in
set_option maxRecDepth 100000 in
theorem c_X3_takeBack {l : Launch} {D : va_G} {h : Nat} {ad : Nat → Nat} {ca : Nat → ClassId} {s s9 : q_s} {a a9 : q_a} {g g9 : q_g} {p1 : Int32} (hf : f_X3_takeBack s a g p1 = some (s9, a9, g9)) : q_Mv l yX3_takeBack wsX3_takeBack ({ frames := 0, cells := 0, slots := 0, locals := 0 }) D (q_tM ca) (q_wM h ad ca) [.ref h, .int p1] s a g s9 a9 g9 := by
  unfold f_X3_takeBack at hf
  refine q_entV (cc := cX3_takeBack) (maxL := 2) (ret := none) (by decide) rfl (Nat.le_of_ble_eq_true rfl) ?_
  intro p e st m args below meth c A ls C hr hlocks hml hA I hl
  have hl : lv_has ls 2 [(0, .ref h), (1, .int p1)] := hl
  have hinX3 : ∀ w ∈ wsX30, w ∈ wsX3_takeBack := fun _ h => List.mem_cons_of_mem _ (List.mem_append_right _ h)
  have k63 : Cond.fieldLink RX3 63 "ReaderYardModel" "keptTop" "[I" ∈ wsX3_takeBack := by decide +kernel
  have k108 : Cond.fieldLink RX3 108 "ReaderYardModel" "onTop" "I" ∈ wsX3_takeBack := by decide +kernel
  have k66 : Cond.fieldLink RX3 66 "ReaderYardModel" "keptChain" "[I" ∈ wsX3_takeBack := by decide +kernel
  have k111 : Cond.fieldLink RX3 111 "ReaderYardModel" "chain" "I" ∈ wsX3_takeBack := by decide +kernel
  have k69 : Cond.fieldLink RX3 69 "ReaderYardModel" "keptMarks" "[I" ∈ wsX3_takeBack := by decide +kernel
  have k114 : Cond.fieldLink RX3 114 "ReaderYardModel" "marks" "I" ∈ wsX3_takeBack := by decide +kernel
  refine lv_aload_n C.1 C.2.1 dX3_takeBack_0 rfl (lv_at hl 0 rfl) ?_
  refine lv_aload_n C.1 C.2.1 dX3_takeBack_1 rfl (lv_at hl 0 rfl) ?_
  refine q_get_RX3_63 C hinX3 k63 I dX3_takeBack_2 ?_
  refine lv_iload_n C.1 C.2.1 dX3_takeBack_5 rfl (lv_at hl 1 rfl) ?_
  obtain ⟨b1, hf⟩ := q_ck_some hf
  refine q_ld_M_keptTop C b1 I dX3_takeBack_6 ?_
  obtain ⟨s2, e3, hf⟩ := q_bd_some hf
  refine q_put_RX3_108 C hinX3 k108 e3 I dX3_takeBack_7 (fun H locs I => ?_)
  refine lv_aload_n C.1 C.2.1 dX3_takeBack_10 rfl (lv_at hl 0 rfl) ?_
  refine lv_aload_n C.1 C.2.1 dX3_takeBack_11 rfl (lv_at hl 0 rfl) ?_
  refine q_get_RX3_66 C hinX3 k66 I dX3_takeBack_12 ?_
  refine lv_iload_n C.1 C.2.1 dX3_takeBack_15 rfl (lv_at hl 1 rfl) ?_
  obtain ⟨b4, hf⟩ := q_ck_some hf
  refine q_ld_M_keptChain C b4 I dX3_takeBack_16 ?_
  obtain ⟨s5, e6, hf⟩ := q_bd_some hf
  refine q_put_RX3_111 C hinX3 k111 e6 I dX3_takeBack_17 (fun H locs I => ?_)
  refine lv_aload_n C.1 C.2.1 dX3_takeBack_20 rfl (lv_at hl 0 rfl) ?_
  refine lv_aload_n C.1 C.2.1 dX3_takeBack_21 rfl (lv_at hl 0 rfl) ?_
  refine q_get_RX3_69 C hinX3 k69 I dX3_takeBack_22 ?_
  refine lv_iload_n C.1 C.2.1 dX3_takeBack_25 rfl (lv_at hl 1 rfl) ?_
  obtain ⟨b7, hf⟩ := q_ck_some hf
  refine q_ld_M_keptMarks C b7 I dX3_takeBack_26 ?_
  obtain ⟨s8, e9, hf⟩ := q_bd_some hf
  refine q_put_RX3_114 C hinX3 k114 e9 I dX3_takeBack_27 (fun H locs I => ?_)
  obtain ⟨rfl, rfl, rfl⟩ := q_some3 hf
  exact q_vret C hr hlocks I dX3_takeBack_30
def f_X3_keep (s : q_s) (a : q_a) (g : q_g) (p1 : Int32) : Option q_S :=
 q_ck p1 150 <|
 q_bd (q_ua a 26 p1.toNatClampNeg (s 12)) fun a3 =>
 q_ck p1 150 <|
 q_bd (q_ua a3 27 p1.toNatClampNeg (s 11)) fun a6 =>
 q_ck p1 150 <|
 q_bd (q_ua a6 28 p1.toNatClampNeg (s 13)) fun a9 =>
 some (s, a9, g)
theorem e_X3_keep : yX3_keep.cls = RX3 ∧ yX3_keep.cls ≠ "java/lang/invoke/MethodHandle" ∧ yX3_keep.cls ≠ "java/lang/invoke/VarHandle" ∧ (parseMethodDescriptor yX3_keep.desc).map (fun d => d.parameters.length) = some 1 := by decide +kernel
set_option maxHeartbeats 4000000 in
set_option maxRecDepth 100000 in
theorem c_X3_keep {l : Launch} {D : va_G} {h : Nat} {ad : Nat → Nat} {ca : Nat → ClassId} {s s9 : q_s} {a a9 : q_a} {g g9 : q_g} {p1 : Int32} (hf : f_X3_keep s a g p1 = some (s9, a9, g9)) : q_Mv l yX3_keep wsX3_keep ({ frames := 0, cells := 0, slots := 0, locals := 0 }) D (q_tM ca) (q_wM h ad ca) [.ref h, .int p1] s a g s9 a9 g9 := by
  unfold f_X3_keep at hf
  refine q_entV (cc := cX3_keep) (maxL := 2) (ret := none) (by decide) rfl (Nat.le_of_ble_eq_true rfl) ?_
  intro p e st m args below meth c A ls C hr hlocks hml hA I hl
  have hl : lv_has ls 2 [(0, .ref h), (1, .int p1)] := hl
  have hinX3 : ∀ w ∈ wsX30, w ∈ wsX3_keep := fun _ h => List.mem_cons_of_mem _ (List.mem_append_right _ h)
  have k72 : Cond.fieldLink RX3 72 "ReaderYardModel" "laterTop" "[I" ∈ wsX3_keep := by decide +kernel
  have k108 : Cond.fieldLink RX3 108 "ReaderYardModel" "onTop" "I" ∈ wsX3_keep := by decide +kernel
  have k75 : Cond.fieldLink RX3 75 "ReaderYardModel" "laterChain" "[I" ∈ wsX3_keep := by decide +kernel
  have k111 : Cond.fieldLink RX3 111 "ReaderYardModel" "chain" "I" ∈ wsX3_keep := by decide +kernel
  have k78 : Cond.fieldLink RX3 78 "ReaderYardModel" "laterMarks" "[I" ∈ wsX3_keep := by decide +kernel
  have k114 : Cond.fieldLink RX3 114 "ReaderYardModel" "marks" "I" ∈ wsX3_keep := by decide +kernel
  refine lv_aload_n C.1 C.2.1 dX3_keep_0 rfl (lv_at hl 0 rfl) ?_
  refine q_get_RX3_72 C hinX3 k72 I dX3_keep_1 ?_
  refine lv_iload_n C.1 C.2.1 dX3_keep_4 rfl (lv_at hl 1 rfl) ?_
  refine lv_aload_n C.1 C.2.1 dX3_keep_5 rfl (lv_at hl 0 rfl) ?_
  refine q_get_RX3_108 C hinX3 k108 I dX3_keep_6 ?_
  obtain ⟨b1, hf⟩ := q_ck_some hf
  obtain ⟨a3, e2, hf⟩ := q_bd_some hf
  refine q_st_M_laterTop C b1 e2 I dX3_keep_9 (fun H locs I => ?_)
  refine lv_aload_n C.1 C.2.1 dX3_keep_10 rfl (lv_at hl 0 rfl) ?_
  refine q_get_RX3_75 C hinX3 k75 I dX3_keep_11 ?_
  refine lv_iload_n C.1 C.2.1 dX3_keep_14 rfl (lv_at hl 1 rfl) ?_
  refine lv_aload_n C.1 C.2.1 dX3_keep_15 rfl (lv_at hl 0 rfl) ?_
  refine q_get_RX3_111 C hinX3 k111 I dX3_keep_16 ?_
  obtain ⟨b4, hf⟩ := q_ck_some hf
  obtain ⟨a6, e5, hf⟩ := q_bd_some hf
  refine q_st_M_laterChain C b4 e5 I dX3_keep_19 (fun H locs I => ?_)
  refine lv_aload_n C.1 C.2.1 dX3_keep_20 rfl (lv_at hl 0 rfl) ?_
  refine q_get_RX3_78 C hinX3 k78 I dX3_keep_21 ?_
  refine lv_iload_n C.1 C.2.1 dX3_keep_24 rfl (lv_at hl 1 rfl) ?_
  refine lv_aload_n C.1 C.2.1 dX3_keep_25 rfl (lv_at hl 0 rfl) ?_
  refine q_get_RX3_114 C hinX3 k114 I dX3_keep_26 ?_
  obtain ⟨b7, hf⟩ := q_ck_some hf
  obtain ⟨a9, e8, hf⟩ := q_bd_some hf
  refine q_st_M_laterMarks C b7 e8 I dX3_keep_29 (fun H locs I => ?_)
  obtain ⟨rfl, rfl, rfl⟩ := q_some3 hf
  exact q_vret C hr hlocks I dX3_keep_30
def f_X3_ends (s : q_s) (a : q_a) (g : q_g) (p1 : Int32) : Option q_S :=
 q_bd (q_us s 17 ((s 17) - 1)) fun s1 =>
 if p1 = (-1) then
  q_cv (f_X3_takeBack s1 a g (s1 17)) fun s6 a7 g8 =>
  q_bd (q_us s6 29 p1) fun s11 =>
  some (s11, a7, g8)
 else
  q_bd (q_us s1 29 p1) fun s4 =>
  some (s4, a, g)
theorem e_X3_ends : yX3_ends.cls = RX3 ∧ yX3_ends.cls ≠ "java/lang/invoke/MethodHandle" ∧ yX3_ends.cls ≠ "java/lang/invoke/VarHandle" ∧ (parseMethodDescriptor yX3_ends.desc).map (fun d => d.parameters.length) = some 1 := by decide +kernel
set_option maxHeartbeats 4000000 in
set_option maxRecDepth 100000 in
theorem c_X3_ends {l : Launch} {D : va_G} {h : Nat} {ad : Nat → Nat} {ca : Nat → ClassId} {s s9 : q_s} {a a9 : q_a} {g g9 : q_g} {p1 : Int32} (hf : f_X3_ends s a g p1 = some (s9, a9, g9)) : q_Mv l yX3_ends wsX3_ends ({ frames := 1, cells := 0, slots := 0, locals := 21 }) D (q_tM ca) (q_wM h ad ca) [.ref h, .int p1] s a g s9 a9 g9 := by
  unfold f_X3_ends at hf
  refine q_entV (cc := cX3_ends) (maxL := 2) (ret := none) (by decide) rfl (Nat.le_of_ble_eq_true rfl) ?_
  intro p e st m args below meth c A ls C hr hlocks hml hA I hl
  have hl : lv_has ls 2 [(0, .ref h), (1, .int p1)] := hl
  have hinX3 : ∀ w ∈ wsX30, w ∈ wsX3_ends := fun _ h => List.mem_cons_of_mem _ (List.mem_append_right _ h)
  have k96 : Cond.fieldLink RX3 96 "ReaderYardModel" "deep" "I" ∈ wsX3_ends := by decide +kernel
  have k128 : Cond.fieldLink RX3 128 "ReaderYardModel" "result" "I" ∈ wsX3_ends := by decide +kernel
  refine lv_aload_n C.1 C.2.1 dX3_ends_0 rfl (lv_at hl 0 rfl) ?_
  refine lv_dup C.1 C.2.1 dX3_ends_1 rfl ?_
  refine q_get_RX3_96 C hinX3 k96 I dX3_ends_2 ?_
  refine lv_iconst (v := 1) C.1 C.2.1 dX3_ends_5 (by decide) ?_
  refine lv_isub C.1 C.2.1 dX3_ends_6 ?_
  obtain ⟨s1, e2, hf⟩ := q_bd_some hf
  refine q_put_RX3_96 C hinX3 k96 e2 I dX3_ends_7 (fun H locs I => ?_)
  refine lv_iload_n C.1 C.2.1 dX3_ends_10 rfl (lv_at hl 1 rfl) ?_
  refine lv_iconst (v := (-1)) C.1 C.2.1 dX3_ends_11 (by decide) ?_
  refine lv_icmp_ne (tgt := 23) C.1 C.2.1 dX3_ends_12 (by decide) (fun c3 => ?_) (fun c3 => ?_)
  · have hf := q_if_f hf c3
    refine lv_aload_n C.1 C.2.1 dX3_ends_23 rfl (lv_at hl 0 rfl) ?_
    refine lv_iload_n C.1 C.2.1 dX3_ends_24 rfl (lv_at hl 1 rfl) ?_
    obtain ⟨s4, e5, hf⟩ := q_bd_some hf
    refine q_put_RX3_128 C hinX3 k128 e5 I dX3_ends_25 (fun H locs I => ?_)
    obtain ⟨rfl, rfl, rfl⟩ := q_some3 hf
    exact q_vret C hr hlocks I dX3_ends_28
  · have hf := q_if_t hf c3
    refine lv_aload_n C.1 C.2.1 dX3_ends_15 rfl (lv_at hl 0 rfl) ?_
    refine lv_aload_n C.1 C.2.1 dX3_ends_16 rfl (lv_at hl 0 rfl) ?_
    refine q_get_RX3_96 C hinX3 k96 I dX3_ends_17 ?_
    obtain ⟨s6, a7, g8, h9, hf⟩ := q_cv_some hf
    refine q_callVv (As := [.int (s1 17)]) (rest := []) C hml (c_X3_takeBack h9) (cwV 1 C.2.2.2.1 gX3_ends_X3_takeBack rfl rfl rfl e_X3_takeBack ⟨Nat.le_of_ble_eq_true rfl, Nat.le_of_ble_eq_true rfl⟩) I hA (q0 := 0) (ci := 3) rfl rfl rfl rfl hl.1 rfl (Nat.le_of_ble_eq_true rfl) dX3_ends_20 ⟨Nat.zero_le _, Nat.zero_le _⟩ (fun H locs I => ?_)
    refine lv_aload_n C.1 C.2.1 dX3_ends_23 rfl (lv_at hl 0 rfl) ?_
    refine lv_iload_n C.1 C.2.1 dX3_ends_24 rfl (lv_at hl 1 rfl) ?_
    obtain ⟨s11, e12, hf⟩ := q_bd_some hf
    refine q_put_RX3_128 C hinX3 k128 e12 I dX3_ends_25 (fun H locs I => ?_)
    obtain ⟨rfl, rfl, rfl⟩ := q_some3 hf
    exact q_vret C hr hlocks I dX3_ends_28
def f_X3_lay (s : q_s) (a : q_a) (g : q_g) (p1 : Int64) (p2 : Int32) : Option q_S :=
 q_bd (q_us s 11 ((s 11) + 1)) fun s1 =>
 q_ck (s1 11) 3001 <|
 q_bd (vp_updL g ((s1 11).toNatClampNeg) p1) fun g5 =>
 q_ck (s1 11) 3001 <|
 q_bd (q_ua a 9 ((s1 11).toNatClampNeg) p2) fun a8 =>
 if p2 = 0 then
  q_ck (s1 11) 3001 <|
  q_bd (q_ua a8 10 ((s1 11).toNatClampNeg) 1) fun a18 =>
  q_bd (q_us s1 12 (s1 11)) fun s19 =>
  some (s19, a18, g5)
 else
  q_ck p2 3001 <|
  q_ck (s1 11) 3001 <|
  q_bd (q_ua a8 10 ((s1 11).toNatClampNeg) ((a8 10 p2.toNatClampNeg) + 1)) fun a13 =>
  q_bd (q_us s1 12 (s1 11)) fun s14 =>
  some (s14, a13, g5)
theorem e_X3_lay : yX3_lay.cls = RX3 ∧ yX3_lay.cls ≠ "java/lang/invoke/MethodHandle" ∧ yX3_lay.cls ≠ "java/lang/invoke/VarHandle" ∧ (parseMethodDescriptor yX3_lay.desc).map (fun d => d.parameters.length) = some 2 := by decide +kernel
set_option maxHeartbeats 4000000 in
set_option maxRecDepth 100000 in
theorem c_X3_lay {l : Launch} {D : va_G} {h : Nat} {ad : Nat → Nat} {ca : Nat → ClassId} {s s9 : q_s} {a a9 : q_a} {g g9 : q_g} {p1 : Int64} {p2 : Int32} (hf : f_X3_lay s a g p1 p2 = some (s9, a9, g9)) : q_Mv l yX3_lay wsX3_lay ({ frames := 0, cells := 0, slots := 0, locals := 0 }) D (q_tM ca) (q_wM h ad ca) [.ref h, .long p1, .int p2] s a g s9 a9 g9 := by
  unfold f_X3_lay at hf
  refine q_entV (cc := cX3_lay) (maxL := 4) (ret := none) (by decide) rfl (Nat.le_of_ble_eq_true rfl) ?_
  intro p e st m args below meth c A ls C hr hlocks hml hA I hl
  have hl : lv_has ls 4 [(0, .ref h), (1, .long p1), (3, .int p2)] := hl
  have hinX3 : ∀ w ∈ wsX30, w ∈ wsX3_lay := fun _ h => List.mem_cons_of_mem _ (List.mem_append_right _ h)
  have k111 : Cond.fieldLink RX3 111 "ReaderYardModel" "chain" "I" ∈ wsX3_lay := by decide +kernel
  have k28 : Cond.fieldLink RX3 28 "ReaderYardModel" "laid" "[J" ∈ wsX3_lay := by decide +kernel
  have k32 : Cond.fieldLink RX3 32 "ReaderYardModel" "below" "[I" ∈ wsX3_lay := by decide +kernel
  have k35 : Cond.fieldLink RX3 35 "ReaderYardModel" "tall" "[I" ∈ wsX3_lay := by decide +kernel
  have k108 : Cond.fieldLink RX3 108 "ReaderYardModel" "onTop" "I" ∈ wsX3_lay := by decide +kernel
  refine lv_aload_n C.1 C.2.1 dX3_lay_0 rfl (lv_at hl 0 rfl) ?_
  refine lv_dup C.1 C.2.1 dX3_lay_1 rfl ?_
  refine q_get_RX3_111 C hinX3 k111 I dX3_lay_2 ?_
  refine lv_iconst (v := 1) C.1 C.2.1 dX3_lay_5 (by decide) ?_
  refine lv_iadd C.1 C.2.1 dX3_lay_6 ?_
  obtain ⟨s1, e2, hf⟩ := q_bd_some hf
  refine q_put_RX3_111 C hinX3 k111 e2 I dX3_lay_7 (fun H locs I => ?_)
  refine lv_aload_n C.1 C.2.1 dX3_lay_10 rfl (lv_at hl 0 rfl) ?_
  refine q_get_RX3_28 C hinX3 k28 I dX3_lay_11 ?_
  refine lv_aload_n C.1 C.2.1 dX3_lay_14 rfl (lv_at hl 0 rfl) ?_
  refine q_get_RX3_111 C hinX3 k111 I dX3_lay_15 ?_
  refine lv_lload_n C.1 C.2.1 dX3_lay_18 rfl (lv_at hl 1 rfl) ?_
  obtain ⟨b3, hf⟩ := q_ck_some hf
  obtain ⟨g5, e4, hf⟩ := q_bd_some hf
  refine q_st_M_laid C b3 e4 I dX3_lay_19 (fun H locs I => ?_)
  refine lv_aload_n C.1 C.2.1 dX3_lay_20 rfl (lv_at hl 0 rfl) ?_
  refine q_get_RX3_32 C hinX3 k32 I dX3_lay_21 ?_
  refine lv_aload_n C.1 C.2.1 dX3_lay_24 rfl (lv_at hl 0 rfl) ?_
  refine q_get_RX3_111 C hinX3 k111 I dX3_lay_25 ?_
  refine lv_iload_n C.1 C.2.1 dX3_lay_28 rfl (lv_at hl 2 rfl) ?_
  obtain ⟨b6, hf⟩ := q_ck_some hf
  obtain ⟨a8, e7, hf⟩ := q_bd_some hf
  refine q_st_M_below C b6 e7 I dX3_lay_29 (fun H locs I => ?_)
  refine lv_aload_n C.1 C.2.1 dX3_lay_30 rfl (lv_at hl 0 rfl) ?_
  refine q_get_RX3_35 C hinX3 k35 I dX3_lay_31 ?_
  refine lv_aload_n C.1 C.2.1 dX3_lay_34 rfl (lv_at hl 0 rfl) ?_
  refine q_get_RX3_111 C hinX3 k111 I dX3_lay_35 ?_
  refine lv_iload_n C.1 C.2.1 dX3_lay_38 rfl (lv_at hl 2 rfl) ?_
  refine lv_if_ne (tgt := 46) C.1 C.2.1 dX3_lay_39 (by decide) (fun c9 => ?_) (fun c9 => ?_)
  · have hf := q_if_f hf c9
    refine lv_aload_n C.1 C.2.1 dX3_lay_46 rfl (lv_at hl 0 rfl) ?_
    refine q_get_RX3_35 C hinX3 k35 I dX3_lay_47 ?_
    refine lv_iload_n C.1 C.2.1 dX3_lay_50 rfl (lv_at hl 2 rfl) ?_
    obtain ⟨b10, hf⟩ := q_ck_some hf
    refine q_ld_M_tall C b10 I dX3_lay_51 ?_
    refine lv_iconst (v := 1) C.1 C.2.1 dX3_lay_52 (by decide) ?_
    refine lv_iadd C.1 C.2.1 dX3_lay_53 ?_
    obtain ⟨b11, hf⟩ := q_ck_some hf
    obtain ⟨a13, e12, hf⟩ := q_bd_some hf
    refine q_st_M_tall C b11 e12 I dX3_lay_54 (fun H locs I => ?_)
    refine lv_aload_n C.1 C.2.1 dX3_lay_55 rfl (lv_at hl 0 rfl) ?_
    refine lv_aload_n C.1 C.2.1 dX3_lay_56 rfl (lv_at hl 0 rfl) ?_
    refine q_get_RX3_111 C hinX3 k111 I dX3_lay_57 ?_
    obtain ⟨s14, e15, hf⟩ := q_bd_some hf
    refine q_put_RX3_108 C hinX3 k108 e15 I dX3_lay_60 (fun H locs I => ?_)
    obtain ⟨rfl, rfl, rfl⟩ := q_some3 hf
    exact q_vret C hr hlocks I dX3_lay_63
  · have hf := q_if_t hf c9
    refine lv_iconst (v := 1) C.1 C.2.1 dX3_lay_42 (by decide) ?_
    refine lv_goto (tgt := 54) C.1 C.2.1 dX3_lay_43 (by decide) ?_
    obtain ⟨b16, hf⟩ := q_ck_some hf
    obtain ⟨a18, e17, hf⟩ := q_bd_some hf
    refine q_st_M_tall C b16 e17 I dX3_lay_54 (fun H locs I => ?_)
    refine lv_aload_n C.1 C.2.1 dX3_lay_55 rfl (lv_at hl 0 rfl) ?_
    refine lv_aload_n C.1 C.2.1 dX3_lay_56 rfl (lv_at hl 0 rfl) ?_
    refine q_get_RX3_111 C hinX3 k111 I dX3_lay_57 ?_
    obtain ⟨s19, e20, hf⟩ := q_bd_some hf
    refine q_put_RX3_108 C hinX3 k108 e20 I dX3_lay_60 (fun H locs I => ?_)
    obtain ⟨rfl, rfl, rfl⟩ := q_some3 hf
    exact q_vret C hr hlocks I dX3_lay_63
def f_X3_height (s : q_s) (a : q_a) (g : q_g) : Option (Int32 × q_S) :=
 if s 12 = 0 then
  some (0, s, a, g)
 else
  q_ck (s 12) 3001 <|
  some (a 10 ((s 12).toNatClampNeg), s, a, g)
theorem e_X3_height : yX3_height.cls = RX3 ∧ yX3_height.cls ≠ "java/lang/invoke/MethodHandle" ∧ yX3_height.cls ≠ "java/lang/invoke/VarHandle" ∧ (parseMethodDescriptor yX3_height.desc).map (fun d => d.parameters.length) = some 0 := by decide +kernel
set_option maxHeartbeats 4000000 in
set_option maxRecDepth 100000 in
theorem c_X3_height {l : Launch} {D : va_G} {h : Nat} {ad : Nat → Nat} {ca : Nat → ClassId} {s s9 : q_s} {a a9 : q_a} {g g9 : q_g} {r9 : Int32} (hf : f_X3_height s a g = some (r9, s9, a9, g9)) : q_Mi l yX3_height wsX3_height ({ frames := 0, cells := 0, slots := 0, locals := 0 }) D (q_tM ca) (q_wM h ad ca) [.ref h] s a g r9 s9 a9 g9 := by
  unfold f_X3_height at hf
  refine q_entI (cc := cX3_height) (maxL := 1) (ret := (some .int)) (by decide) rfl (Nat.le_of_ble_eq_true rfl) ?_
  intro p e st m args below meth c A ls C hr hlocks hml hA I hl
  have hl : lv_has ls 1 [(0, .ref h)] := hl
  have hinX3 : ∀ w ∈ wsX30, w ∈ wsX3_height := fun _ h => List.mem_cons_of_mem _ (List.mem_append_right _ h)
  have k108 : Cond.fieldLink RX3 108 "ReaderYardModel" "onTop" "I" ∈ wsX3_height := by decide +kernel
  have k35 : Cond.fieldLink RX3 35 "ReaderYardModel" "tall" "[I" ∈ wsX3_height := by decide +kernel
  refine lv_aload_n C.1 C.2.1 dX3_height_0 rfl (lv_at hl 0 rfl) ?_
  refine q_get_RX3_108 C hinX3 k108 I dX3_height_1 ?_
  refine lv_if_ne (tgt := 11) C.1 C.2.1 dX3_height_4 (by decide) (fun c1 => ?_) (fun c1 => ?_)
  · have hf := q_if_f hf c1
    refine lv_aload_n C.1 C.2.1 dX3_height_11 rfl (lv_at hl 0 rfl) ?_
    refine q_get_RX3_35 C hinX3 k35 I dX3_height_12 ?_
    refine lv_aload_n C.1 C.2.1 dX3_height_15 rfl (lv_at hl 0 rfl) ?_
    refine q_get_RX3_108 C hinX3 k108 I dX3_height_16 ?_
    obtain ⟨b2, hf⟩ := q_ck_some hf
    refine q_ld_M_tall C b2 I dX3_height_19 ?_
    obtain ⟨rfl, rfl, rfl, rfl⟩ := q_some4 hf
    exact q_iret C hr hlocks I dX3_height_20
  · have hf := q_if_t hf c1
    refine lv_iconst (v := 0) C.1 C.2.1 dX3_height_7 (by decide) ?_
    refine lv_goto (tgt := 20) C.1 C.2.1 dX3_height_8 (by decide) ?_
    obtain ⟨rfl, rfl, rfl, rfl⟩ := q_some4 hf
    exact q_iret C hr hlocks I dX3_height_20
def f_X3_sign (s : q_s) (a : q_a) (g : q_g) (p1 : Int32) (p2 : Int32) : Option q_S :=
 q_ck p1 150 <|
 if s 1 ≤ a 20 p1.toNatClampNeg then
  q_ck p2 50 <|
  if a 3 p2.toNatClampNeg = 0 then
   q_cv (f_X3_ends s a g (-1)) fun s7 a8 g9 =>
   some (s7, a8, g9)
  else
   if a 3 p2.toNatClampNeg = 1 then
    q_cv (f_X3_ends s a g (-1)) fun s14 a15 g16 =>
    some (s14, a15, g16)
   else
    if a 3 p2.toNatClampNeg = 2 then
     q_cv (f_X3_ends s a g (-1)) fun s21 a22 g23 =>
     some (s21, a22, g23)
    else
     q_cv (f_X3_ends s a g (a 20 p1.toNatClampNeg)) fun s27 a28 g29 =>
     some (s27, a28, g29)
 else
  q_ck (a 20 p1.toNatClampNeg) 200 <|
  q_ck p2 50 <|
  if a 3 p2.toNatClampNeg = 0 then
   q_ck p2 50 <|
   if a 0 ((a 20 p1.toNatClampNeg).toNatClampNeg) = a 4 p2.toNatClampNeg then
    q_cv (f_X3_ends s a g ((a 20 p1.toNatClampNeg) + 1)) fun s45 a46 g47 =>
    some (s45, a46, g47)
   else
    q_cv (f_X3_ends s a g (-1)) fun s40 a41 g42 =>
    some (s40, a41, g42)
  else
   if a 3 p2.toNatClampNeg = 1 then
    q_ck p2 50 <|
    q_ck p2 50 <|
    q_ci (f_X3_in s a g (a 0 ((a 20 p1.toNatClampNeg).toNatClampNeg)) (a 4 p2.toNatClampNeg) (a 5 p2.toNatClampNeg)) fun r58 s54 a55 g56 =>
    if r58 = 0 then
     q_cv (f_X3_ends s54 a55 g56 (-1)) fun s60 a61 g62 =>
     some (s60, a61, g62)
    else
     q_cv (f_X3_ends s54 a55 g56 ((a 20 p1.toNatClampNeg) + 1)) fun s65 a66 g67 =>
     some (s65, a66, g67)
   else
    if a 3 p2.toNatClampNeg = 2 then
     q_cv (f_X3_ends s a g ((a 20 p1.toNatClampNeg) + 1)) fun s72 a73 g74 =>
     some (s72, a73, g74)
    else
     q_cv (f_X3_ends s a g (-1)) fun s78 a79 g80 =>
     some (s78, a79, g80)
theorem e_X3_sign : yX3_sign.cls = RX3 ∧ yX3_sign.cls ≠ "java/lang/invoke/MethodHandle" ∧ yX3_sign.cls ≠ "java/lang/invoke/VarHandle" ∧ (parseMethodDescriptor yX3_sign.desc).map (fun d => d.parameters.length) = some 2 := by decide +kernel
set_option maxHeartbeats 4000000 in
set_option maxRecDepth 100000 in
theorem c_X3_sign {l : Launch} {D : va_G} {h : Nat} {ad : Nat → Nat} {ca : Nat → ClassId} {s s9 : q_s} {a a9 : q_a} {g g9 : q_g} {p1 : Int32} {p2 : Int32} (hf : f_X3_sign s a g p1 p2 = some (s9, a9, g9)) : q_Mv l yX3_sign wsX3_sign ({ frames := 2, cells := 0, slots := 0, locals := 42 }) D (q_tM ca) (q_wM h ad ca) [.ref h, .int p1, .int p2] s a g s9 a9 g9 := by
  unfold f_X3_sign at hf
  refine q_entV (cc := cX3_sign) (maxL := 6) (ret := none) (by decide) rfl (Nat.le_of_ble_eq_true rfl) ?_
  intro p e st m args below meth c A ls C hr hlocks hml hA I hl
  have hl : lv_has ls 6 [(0, .ref h), (1, .int p1), (2, .int p2)] := hl
  have hinX3 : ∀ w ∈ wsX30, w ∈ wsX3_sign := fun _ h => List.mem_cons_of_mem _ (List.mem_append_right _ h)
  have k53 : Cond.fieldLink RX3 53 "ReaderYardModel" "start" "[I" ∈ wsX3_sign := by decide +kernel
  have k89 : Cond.fieldLink RX3 89 "ReaderYardModel" "length" "I" ∈ wsX3_sign := by decide +kernel
  have k13 : Cond.fieldLink RX3 13 "ReaderYardModel" "sorts" "[I" ∈ wsX3_sign := by decide +kernel
  have k7 : Cond.fieldLink RX3 7 "ReaderYardModel" "signs" "[I" ∈ wsX3_sign := by decide +kernel
  have k16 : Cond.fieldLink RX3 16 "ReaderYardModel" "as" "[I" ∈ wsX3_sign := by decide +kernel
  have k19 : Cond.fieldLink RX3 19 "ReaderYardModel" "bs" "[I" ∈ wsX3_sign := by decide +kernel
  refine lv_aload_n C.1 C.2.1 dX3_sign_0 rfl (lv_at hl 0 rfl) ?_
  refine q_get_RX3_53 C hinX3 k53 I dX3_sign_1 ?_
  refine lv_iload_n C.1 C.2.1 dX3_sign_4 rfl (lv_at hl 1 rfl) ?_
  obtain ⟨b1, hf⟩ := q_ck_some hf
  refine q_ld_M_start C b1 I dX3_sign_5 ?_
  refine lv_istore_n (lv' := [(3, .int (a 20 p1.toNatClampNeg)), (0, .ref h), (1, .int p1), (2, .int p2)]) C.1 C.2.1 dX3_sign_6 rfl hl (by decide) rfl (fun ls hl => ?_)
  refine lv_iload_n C.1 C.2.1 dX3_sign_7 rfl (lv_at hl 0 rfl) ?_
  refine lv_aload_n C.1 C.2.1 dX3_sign_8 rfl (lv_at hl 1 rfl) ?_
  refine q_get_RX3_89 C hinX3 k89 I dX3_sign_9 ?_
  refine lv_icmp_ge (tgt := 19) C.1 C.2.1 dX3_sign_12 (by decide) (fun c2 => ?_) (fun c2 => ?_)
  · have hf := q_if_t hf c2
    refine lv_iconst (v := 0) C.1 C.2.1 dX3_sign_19 (by decide) ?_
    refine lv_istore (lv' := [(4, .int 0), (3, .int (a 20 p1.toNatClampNeg)), (0, .ref h), (1, .int p1), (2, .int p2)]) C.1 C.2.1 dX3_sign_20 hl (by decide) rfl (fun ls hl => ?_)
    refine lv_iload C.1 C.2.1 dX3_sign_22 (lv_at hl 0 rfl) ?_
    refine lv_if_eq (tgt := 36) C.1 C.2.1 dX3_sign_24 (by decide) (fun _ => ?_) (fun c3 => absurd c3 (by decide))
    refine lv_iconst (v := (-1)) C.1 C.2.1 dX3_sign_36 (by decide) ?_
    refine lv_istore (lv' := [(5, .int (-1)), (4, .int 0), (3, .int (a 20 p1.toNatClampNeg)), (0, .ref h), (1, .int p1), (2, .int p2)]) C.1 C.2.1 dX3_sign_37 hl (by decide) rfl (fun ls hl => ?_)
    refine lv_aload_n C.1 C.2.1 dX3_sign_39 rfl (lv_at hl 3 rfl) ?_
    refine q_get_RX3_13 C hinX3 k13 I dX3_sign_40 ?_
    refine lv_iload_n C.1 C.2.1 dX3_sign_43 rfl (lv_at hl 5 rfl) ?_
    obtain ⟨b4, hf⟩ := q_ck_some hf
    refine q_ld_M_sorts C b4 I dX3_sign_44 ?_
    by_cases c5 : a 3 p2.toNatClampNeg = 0
    · have hf := q_if_t hf c5
      refine lv_tableIn (off := 27) (tgt := 72) C.1 C.2.1 dX3_sign_45 (by skip <;> rw [c5] <;> decide) (by skip <;> rw [c5] <;> decide) (by skip <;> rw [c5] <;> rfl) (by decide) ?_
      refine lv_aload_n C.1 C.2.1 dX3_sign_72 rfl (lv_at hl 3 rfl) ?_
      refine lv_iload C.1 C.2.1 dX3_sign_73 (lv_at hl 1 rfl) ?_
      refine lv_if_eq (tgt := 95) C.1 C.2.1 dX3_sign_75 (by decide) (fun _ => ?_) (fun c6 => absurd c6 (by decide))
      refine lv_iconst (v := (-1)) C.1 C.2.1 dX3_sign_95 (by decide) ?_
      obtain ⟨s7, a8, g9, h10, hf⟩ := q_cv_some hf
      refine q_callVv (As := [.int (-1)]) (rest := []) C hml (c_X3_ends h10) (cwV 1 C.2.2.2.1 gX3_sign_X3_ends rfl rfl rfl e_X3_ends ⟨Nat.le_of_ble_eq_true rfl, Nat.le_of_ble_eq_true rfl⟩) I hA (q0 := 0) (ci := 3) rfl rfl rfl rfl hl.1 rfl (Nat.le_of_ble_eq_true rfl) dX3_sign_96 ⟨Nat.zero_le _, Nat.zero_le _⟩ (fun H locs I => ?_)
      refine lv_goto (tgt := 174) C.1 C.2.1 dX3_sign_99 (by decide) ?_
      obtain ⟨rfl, rfl, rfl⟩ := q_some3 hf
      exact q_vret C hr hlocks I dX3_sign_174
    have hf := q_if_f hf c5
    by_cases c12 : a 3 p2.toNatClampNeg = 1
    · have hf := q_if_t hf c12
      refine lv_tableIn (off := 57) (tgt := 102) C.1 C.2.1 dX3_sign_45 (by skip <;> rw [c12] <;> decide) (by skip <;> rw [c12] <;> decide) (by skip <;> rw [c12] <;> rfl) (by decide) ?_
      refine lv_aload_n C.1 C.2.1 dX3_sign_102 rfl (lv_at hl 3 rfl) ?_
      refine lv_iload C.1 C.2.1 dX3_sign_103 (lv_at hl 1 rfl) ?_
      refine lv_if_eq (tgt := 134) C.1 C.2.1 dX3_sign_105 (by decide) (fun _ => ?_) (fun c13 => absurd c13 (by decide))
      refine lv_iconst (v := (-1)) C.1 C.2.1 dX3_sign_134 (by decide) ?_
      obtain ⟨s14, a15, g16, h17, hf⟩ := q_cv_some hf
      refine q_callVv (As := [.int (-1)]) (rest := []) C hml (c_X3_ends h17) (cwV 1 C.2.2.2.1 gX3_sign_X3_ends rfl rfl rfl e_X3_ends ⟨Nat.le_of_ble_eq_true rfl, Nat.le_of_ble_eq_true rfl⟩) I hA (q0 := 0) (ci := 3) rfl rfl rfl rfl hl.1 rfl (Nat.le_of_ble_eq_true rfl) dX3_sign_135 ⟨Nat.zero_le _, Nat.zero_le _⟩ (fun H locs I => ?_)
      refine lv_goto (tgt := 174) C.1 C.2.1 dX3_sign_138 (by decide) ?_
      obtain ⟨rfl, rfl, rfl⟩ := q_some3 hf
      exact q_vret C hr hlocks I dX3_sign_174
    have hf := q_if_f hf c12
    by_cases c19 : a 3 p2.toNatClampNeg = 2
    · have hf := q_if_t hf c19
      refine lv_tableIn (off := 96) (tgt := 141) C.1 C.2.1 dX3_sign_45 (by skip <;> rw [c19] <;> decide) (by skip <;> rw [c19] <;> decide) (by skip <;> rw [c19] <;> rfl) (by decide) ?_
      refine lv_aload_n C.1 C.2.1 dX3_sign_141 rfl (lv_at hl 3 rfl) ?_
      refine lv_iload C.1 C.2.1 dX3_sign_142 (lv_at hl 1 rfl) ?_
      refine lv_if_eq (tgt := 153) C.1 C.2.1 dX3_sign_144 (by decide) (fun _ => ?_) (fun c20 => absurd c20 (by decide))
      refine lv_iconst (v := (-1)) C.1 C.2.1 dX3_sign_153 (by decide) ?_
      obtain ⟨s21, a22, g23, h24, hf⟩ := q_cv_some hf
      refine q_callVv (As := [.int (-1)]) (rest := []) C hml (c_X3_ends h24) (cwV 1 C.2.2.2.1 gX3_sign_X3_ends rfl rfl rfl e_X3_ends ⟨Nat.le_of_ble_eq_true rfl, Nat.le_of_ble_eq_true rfl⟩) I hA (q0 := 0) (ci := 3) rfl rfl rfl rfl hl.1 rfl (Nat.le_of_ble_eq_true rfl) dX3_sign_154 ⟨Nat.zero_le _, Nat.zero_le _⟩ (fun H locs I => ?_)
      refine lv_goto (tgt := 174) C.1 C.2.1 dX3_sign_157 (by decide) ?_
      obtain ⟨rfl, rfl, rfl⟩ := q_some3 hf
      exact q_vret C hr hlocks I dX3_sign_174
    have hf := q_if_f hf c19
    refine lv_tableOut (tgt := 160) C.1 C.2.1 dX3_sign_45 (by
      refine q_out (fun k k1 k2 => ?_)
      have k3 : k = 0 ∨ k = 1 ∨ k = 2 := by omega
      rcases k3 with rfl | rfl | rfl
      · exact fun z => c5 (z)
      · exact fun z => c12 (z)
      · exact fun z => c19 (z)
      ) (by decide) ?_
    refine lv_aload_n C.1 C.2.1 dX3_sign_160 rfl (lv_at hl 3 rfl) ?_
    refine lv_iload C.1 C.2.1 dX3_sign_161 (lv_at hl 1 rfl) ?_
    refine lv_if_eq (tgt := 170) C.1 C.2.1 dX3_sign_163 (by decide) (fun _ => ?_) (fun c26 => absurd c26 (by decide))
    refine lv_iload_n C.1 C.2.1 dX3_sign_170 rfl (lv_at hl 2 rfl) ?_
    obtain ⟨s27, a28, g29, h30, hf⟩ := q_cv_some hf
    refine q_callVv (As := [.int (a 20 p1.toNatClampNeg)]) (rest := []) C hml (c_X3_ends h30) (cwV 1 C.2.2.2.1 gX3_sign_X3_ends rfl rfl rfl e_X3_ends ⟨Nat.le_of_ble_eq_true rfl, Nat.le_of_ble_eq_true rfl⟩) I hA (q0 := 0) (ci := 3) rfl rfl rfl rfl hl.1 rfl (Nat.le_of_ble_eq_true rfl) dX3_sign_171 ⟨Nat.zero_le _, Nat.zero_le _⟩ (fun H locs I => ?_)
    obtain ⟨rfl, rfl, rfl⟩ := q_some3 hf
    exact q_vret C hr hlocks I dX3_sign_174
  · have hf := q_if_f hf c2
    refine lv_iconst (v := 1) C.1 C.2.1 dX3_sign_15 (by decide) ?_
    refine lv_goto (tgt := 20) C.1 C.2.1 dX3_sign_16 (by decide) ?_
    refine lv_istore (lv' := [(4, .int 1), (3, .int (a 20 p1.toNatClampNeg)), (0, .ref h), (1, .int p1), (2, .int p2)]) C.1 C.2.1 dX3_sign_20 hl (by decide) rfl (fun ls hl => ?_)
    refine lv_iload C.1 C.2.1 dX3_sign_22 (lv_at hl 0 rfl) ?_
    refine lv_if_eq (tgt := 36) C.1 C.2.1 dX3_sign_24 (by decide) (fun c33 => absurd c33 (by decide)) (fun _ => ?_)
    refine lv_aload_n C.1 C.2.1 dX3_sign_27 rfl (lv_at hl 2 rfl) ?_
    refine q_get_RX3_7 C hinX3 k7 I dX3_sign_28 ?_
    refine lv_iload_n C.1 C.2.1 dX3_sign_31 rfl (lv_at hl 1 rfl) ?_
    obtain ⟨b34, hf⟩ := q_ck_some hf
    refine q_ld_M_signs C b34 I dX3_sign_32 ?_
    refine lv_goto (tgt := 37) C.1 C.2.1 dX3_sign_33 (by decide) ?_
    refine lv_istore (lv' := [(5, .int (a 0 ((a 20 p1.toNatClampNeg).toNatClampNeg))), (4, .int 1), (3, .int (a 20 p1.toNatClampNeg)), (0, .ref h), (1, .int p1), (2, .int p2)]) C.1 C.2.1 dX3_sign_37 hl (by decide) rfl (fun ls hl => ?_)
    refine lv_aload_n C.1 C.2.1 dX3_sign_39 rfl (lv_at hl 3 rfl) ?_
    refine q_get_RX3_13 C hinX3 k13 I dX3_sign_40 ?_
    refine lv_iload_n C.1 C.2.1 dX3_sign_43 rfl (lv_at hl 5 rfl) ?_
    obtain ⟨b35, hf⟩ := q_ck_some hf
    refine q_ld_M_sorts C b35 I dX3_sign_44 ?_
    by_cases c36 : a 3 p2.toNatClampNeg = 0
    · have hf := q_if_t hf c36
      refine lv_tableIn (off := 27) (tgt := 72) C.1 C.2.1 dX3_sign_45 (by skip <;> rw [c36] <;> decide) (by skip <;> rw [c36] <;> decide) (by skip <;> rw [c36] <;> rfl) (by decide) ?_
      refine lv_aload_n C.1 C.2.1 dX3_sign_72 rfl (lv_at hl 3 rfl) ?_
      refine lv_iload C.1 C.2.1 dX3_sign_73 (lv_at hl 1 rfl) ?_
      refine lv_if_eq (tgt := 95) C.1 C.2.1 dX3_sign_75 (by decide) (fun c37 => absurd c37 (by decide)) (fun _ => ?_)
      refine lv_iload C.1 C.2.1 dX3_sign_78 (lv_at hl 0 rfl) ?_
      refine lv_aload_n C.1 C.2.1 dX3_sign_80 rfl (lv_at hl 3 rfl) ?_
      refine q_get_RX3_16 C hinX3 k16 I dX3_sign_81 ?_
      refine lv_iload_n C.1 C.2.1 dX3_sign_84 rfl (lv_at hl 5 rfl) ?_
      obtain ⟨b38, hf⟩ := q_ck_some hf
      refine q_ld_M_as C b38 I dX3_sign_85 ?_
      refine lv_icmp_ne (tgt := 95) C.1 C.2.1 dX3_sign_86 (by decide) (fun c39 => ?_) (fun c39 => ?_)
      · have hf := q_if_f hf c39
        refine lv_iconst (v := (-1)) C.1 C.2.1 dX3_sign_95 (by decide) ?_
        obtain ⟨s40, a41, g42, h43, hf⟩ := q_cv_some hf
        refine q_callVv (As := [.int (-1)]) (rest := []) C hml (c_X3_ends h43) (cwV 1 C.2.2.2.1 gX3_sign_X3_ends rfl rfl rfl e_X3_ends ⟨Nat.le_of_ble_eq_true rfl, Nat.le_of_ble_eq_true rfl⟩) I hA (q0 := 0) (ci := 3) rfl rfl rfl rfl hl.1 rfl (Nat.le_of_ble_eq_true rfl) dX3_sign_96 ⟨Nat.zero_le _, Nat.zero_le _⟩ (fun H locs I => ?_)
        refine lv_goto (tgt := 174) C.1 C.2.1 dX3_sign_99 (by decide) ?_
        obtain ⟨rfl, rfl, rfl⟩ := q_some3 hf
        exact q_vret C hr hlocks I dX3_sign_174
      · have hf := q_if_t hf c39
        refine lv_iload_n C.1 C.2.1 dX3_sign_89 rfl (lv_at hl 2 rfl) ?_
        refine lv_iconst (v := 1) C.1 C.2.1 dX3_sign_90 (by decide) ?_
        refine lv_iadd C.1 C.2.1 dX3_sign_91 ?_
        refine lv_goto (tgt := 96) C.1 C.2.1 dX3_sign_92 (by decide) ?_
        obtain ⟨s45, a46, g47, h48, hf⟩ := q_cv_some hf
        refine q_callVv (As := [.int ((a 20 p1.toNatClampNeg) + 1)]) (rest := []) C hml (c_X3_ends h48) (cwV 1 C.2.2.2.1 gX3_sign_X3_ends rfl rfl rfl e_X3_ends ⟨Nat.le_of_ble_eq_true rfl, Nat.le_of_ble_eq_true rfl⟩) I hA (q0 := 0) (ci := 3) rfl rfl rfl rfl hl.1 rfl (Nat.le_of_ble_eq_true rfl) dX3_sign_96 ⟨Nat.zero_le _, Nat.zero_le _⟩ (fun H locs I => ?_)
        refine lv_goto (tgt := 174) C.1 C.2.1 dX3_sign_99 (by decide) ?_
        obtain ⟨rfl, rfl, rfl⟩ := q_some3 hf
        exact q_vret C hr hlocks I dX3_sign_174
    have hf := q_if_f hf c36
    by_cases c50 : a 3 p2.toNatClampNeg = 1
    · have hf := q_if_t hf c50
      refine lv_tableIn (off := 57) (tgt := 102) C.1 C.2.1 dX3_sign_45 (by skip <;> rw [c50] <;> decide) (by skip <;> rw [c50] <;> decide) (by skip <;> rw [c50] <;> rfl) (by decide) ?_
      refine lv_aload_n C.1 C.2.1 dX3_sign_102 rfl (lv_at hl 3 rfl) ?_
      refine lv_iload C.1 C.2.1 dX3_sign_103 (lv_at hl 1 rfl) ?_
      refine lv_if_eq (tgt := 134) C.1 C.2.1 dX3_sign_105 (by decide) (fun c51 => absurd c51 (by decide)) (fun _ => ?_)
      refine lv_iload C.1 C.2.1 dX3_sign_108 (lv_at hl 0 rfl) ?_
      refine lv_aload_n C.1 C.2.1 dX3_sign_110 rfl (lv_at hl 3 rfl) ?_
      refine q_get_RX3_16 C hinX3 k16 I dX3_sign_111 ?_
      refine lv_iload_n C.1 C.2.1 dX3_sign_114 rfl (lv_at hl 5 rfl) ?_
      obtain ⟨b52, hf⟩ := q_ck_some hf
      refine q_ld_M_as C b52 I dX3_sign_115 ?_
      refine lv_aload_n C.1 C.2.1 dX3_sign_116 rfl (lv_at hl 3 rfl) ?_
      refine q_get_RX3_19 C hinX3 k19 I dX3_sign_117 ?_
      refine lv_iload_n C.1 C.2.1 dX3_sign_120 rfl (lv_at hl 5 rfl) ?_
      obtain ⟨b53, hf⟩ := q_ck_some hf
      refine q_ld_M_bs C b53 I dX3_sign_121 ?_
      obtain ⟨r58, s54, a55, g56, h57, hf⟩ := q_ci_some hf
      refine q_callSi (As := [.int (a 0 ((a 20 p1.toNatClampNeg).toNatClampNeg)), .int (a 4 p2.toNatClampNeg), .int (a 5 p2.toNatClampNeg)]) (rest := [.ref h]) C hml (c_X3_in h57) (va_cwS 3 C.2.2.2.1 gX3_sign_X3_in rfl rfl rfl e_X3_in ⟨Nat.le_of_ble_eq_true rfl, Nat.le_of_ble_eq_true rfl⟩) I hA rfl hl.1 rfl (Nat.le_of_ble_eq_true rfl) dX3_sign_122 ⟨Nat.zero_le _, Nat.zero_le _⟩ (fun H locs I => ?_)
      refine lv_if_eq (tgt := 134) C.1 C.2.1 dX3_sign_125 (by decide) (fun c59 => ?_) (fun c59 => ?_)
      · have hf := q_if_t hf c59
        refine lv_iconst (v := (-1)) C.1 C.2.1 dX3_sign_134 (by decide) ?_
        obtain ⟨s60, a61, g62, h63, hf⟩ := q_cv_some hf
        refine q_callVv (As := [.int (-1)]) (rest := []) C hml (c_X3_ends h63) (cwV 1 C.2.2.2.1 gX3_sign_X3_ends rfl rfl rfl e_X3_ends ⟨Nat.le_of_ble_eq_true rfl, Nat.le_of_ble_eq_true rfl⟩) I hA (q0 := 0) (ci := 3) rfl rfl rfl rfl hl.1 rfl (Nat.le_of_ble_eq_true rfl) dX3_sign_135 ⟨Nat.zero_le _, Nat.zero_le _⟩ (fun H locs I => ?_)
        refine lv_goto (tgt := 174) C.1 C.2.1 dX3_sign_138 (by decide) ?_
        obtain ⟨rfl, rfl, rfl⟩ := q_some3 hf
        exact q_vret C hr hlocks I dX3_sign_174
      · have hf := q_if_f hf c59
        refine lv_iload_n C.1 C.2.1 dX3_sign_128 rfl (lv_at hl 2 rfl) ?_
        refine lv_iconst (v := 1) C.1 C.2.1 dX3_sign_129 (by decide) ?_
        refine lv_iadd C.1 C.2.1 dX3_sign_130 ?_
        refine lv_goto (tgt := 135) C.1 C.2.1 dX3_sign_131 (by decide) ?_
        obtain ⟨s65, a66, g67, h68, hf⟩ := q_cv_some hf
        refine q_callVv (As := [.int ((a 20 p1.toNatClampNeg) + 1)]) (rest := []) C hml (c_X3_ends h68) (cwV 1 C.2.2.2.1 gX3_sign_X3_ends rfl rfl rfl e_X3_ends ⟨Nat.le_of_ble_eq_true rfl, Nat.le_of_ble_eq_true rfl⟩) I hA (q0 := 0) (ci := 3) rfl rfl rfl rfl hl.1 rfl (Nat.le_of_ble_eq_true rfl) dX3_sign_135 ⟨Nat.zero_le _, Nat.zero_le _⟩ (fun H locs I => ?_)
        refine lv_goto (tgt := 174) C.1 C.2.1 dX3_sign_138 (by decide) ?_
        obtain ⟨rfl, rfl, rfl⟩ := q_some3 hf
        exact q_vret C hr hlocks I dX3_sign_174
    have hf := q_if_f hf c50
    by_cases c70 : a 3 p2.toNatClampNeg = 2
    · have hf := q_if_t hf c70
      refine lv_tableIn (off := 96) (tgt := 141) C.1 C.2.1 dX3_sign_45 (by skip <;> rw [c70] <;> decide) (by skip <;> rw [c70] <;> decide) (by skip <;> rw [c70] <;> rfl) (by decide) ?_
      refine lv_aload_n C.1 C.2.1 dX3_sign_141 rfl (lv_at hl 3 rfl) ?_
      refine lv_iload C.1 C.2.1 dX3_sign_142 (lv_at hl 1 rfl) ?_
      refine lv_if_eq (tgt := 153) C.1 C.2.1 dX3_sign_144 (by decide) (fun c71 => absurd c71 (by decide)) (fun _ => ?_)
      refine lv_iload_n C.1 C.2.1 dX3_sign_147 rfl (lv_at hl 2 rfl) ?_
      refine lv_iconst (v := 1) C.1 C.2.1 dX3_sign_148 (by decide) ?_
      refine lv_iadd C.1 C.2.1 dX3_sign_149 ?_
      refine lv_goto (tgt := 154) C.1 C.2.1 dX3_sign_150 (by decide) ?_
      obtain ⟨s72, a73, g74, h75, hf⟩ := q_cv_some hf
      refine q_callVv (As := [.int ((a 20 p1.toNatClampNeg) + 1)]) (rest := []) C hml (c_X3_ends h75) (cwV 1 C.2.2.2.1 gX3_sign_X3_ends rfl rfl rfl e_X3_ends ⟨Nat.le_of_ble_eq_true rfl, Nat.le_of_ble_eq_true rfl⟩) I hA (q0 := 0) (ci := 3) rfl rfl rfl rfl hl.1 rfl (Nat.le_of_ble_eq_true rfl) dX3_sign_154 ⟨Nat.zero_le _, Nat.zero_le _⟩ (fun H locs I => ?_)
      refine lv_goto (tgt := 174) C.1 C.2.1 dX3_sign_157 (by decide) ?_
      obtain ⟨rfl, rfl, rfl⟩ := q_some3 hf
      exact q_vret C hr hlocks I dX3_sign_174
    have hf := q_if_f hf c70
    refine lv_tableOut (tgt := 160) C.1 C.2.1 dX3_sign_45 (by
      refine q_out (fun k k1 k2 => ?_)
      have k3 : k = 0 ∨ k = 1 ∨ k = 2 := by omega
      rcases k3 with rfl | rfl | rfl
      · exact fun z => c36 (z)
      · exact fun z => c50 (z)
      · exact fun z => c70 (z)
      ) (by decide) ?_
    refine lv_aload_n C.1 C.2.1 dX3_sign_160 rfl (lv_at hl 3 rfl) ?_
    refine lv_iload C.1 C.2.1 dX3_sign_161 (lv_at hl 1 rfl) ?_
    refine lv_if_eq (tgt := 170) C.1 C.2.1 dX3_sign_163 (by decide) (fun c77 => absurd c77 (by decide)) (fun _ => ?_)
    refine lv_iconst (v := (-1)) C.1 C.2.1 dX3_sign_166 (by decide) ?_
    refine lv_goto (tgt := 171) C.1 C.2.1 dX3_sign_167 (by decide) ?_
    obtain ⟨s78, a79, g80, h81, hf⟩ := q_cv_some hf
    refine q_callVv (As := [.int (-1)]) (rest := []) C hml (c_X3_ends h81) (cwV 1 C.2.2.2.1 gX3_sign_X3_ends rfl rfl rfl e_X3_ends ⟨Nat.le_of_ble_eq_true rfl, Nat.le_of_ble_eq_true rfl⟩) I hA (q0 := 0) (ci := 3) rfl rfl rfl rfl hl.1 rfl (Nat.le_of_ble_eq_true rfl) dX3_sign_171 ⟨Nat.zero_le _, Nat.zero_le _⟩ (fun H locs I => ?_)
    obtain ⟨rfl, rfl, rfl⟩ := q_some3 hf
    exact q_vret C hr hlocks I dX3_sign_174
def f_X3_again (s : q_s) (a : q_a) (g : q_g) (p1 : Int32) (p2 : Int32) (p3 : Int32) : Option q_S :=
 if p3 = 0 then
  q_ck p1 150 <|
  if s 29 ≤ a 21 p1.toNatClampNeg then
   q_ck p1 150 <|
   q_bd (q_us s 12 (a 26 p1.toNatClampNeg)) fun s20 =>
   q_ck p1 150 <|
   q_bd (q_us s20 11 (a 27 p1.toNatClampNeg)) fun s23 =>
   q_ck p1 150 <|
   q_bd (q_us s23 13 (a 28 p1.toNatClampNeg)) fun s26 =>
   q_ck p1 150 <|
   q_cv (f_X3_ends s26 a g (a 21 p1.toNatClampNeg)) fun s29 a30 g31 =>
   some (s29, a30, g31)
  else
   q_ck p1 150 <|
   q_bd (q_ua a 21 p1.toNatClampNeg (s 29)) fun a36 =>
   q_cv (f_X3_keep s a36 g p1) fun s37 a38 g39 =>
   q_ck p2 50 <|
   q_ck p1 150 <|
   q_cv (f_X3_asks s37 a38 g39 (a38 4 p2.toNatClampNeg) (a38 21 p1.toNatClampNeg)) fun s44 a45 g46 =>
   some (s44, a45, g46)
 else
  q_ck p1 150 <|
  q_bd (q_us s 12 (a 26 p1.toNatClampNeg)) fun s3 =>
  q_ck p1 150 <|
  q_bd (q_us s3 11 (a 27 p1.toNatClampNeg)) fun s6 =>
  q_ck p1 150 <|
  q_bd (q_us s6 13 (a 28 p1.toNatClampNeg)) fun s9 =>
  q_ck p1 150 <|
  q_cv (f_X3_ends s9 a g (a 21 p1.toNatClampNeg)) fun s12 a13 g14 =>
  some (s12, a13, g14)
theorem e_X3_again : yX3_again.cls = RX3 ∧ yX3_again.cls ≠ "java/lang/invoke/MethodHandle" ∧ yX3_again.cls ≠ "java/lang/invoke/VarHandle" ∧ (parseMethodDescriptor yX3_again.desc).map (fun d => d.parameters.length) = some 3 := by decide +kernel
set_option maxHeartbeats 4000000 in
set_option maxRecDepth 100000 in
theorem c_X3_again {l : Launch} {D : va_G} {h : Nat} {ad : Nat → Nat} {ca : Nat → ClassId} {s s9 : q_s} {a a9 : q_a} {g g9 : q_g} {p1 : Int32} {p2 : Int32} {p3 : Int32} (hf : f_X3_again s a g p1 p2 p3 = some (s9, a9, g9)) : q_Mv l yX3_again wsX3_again ({ frames := 2, cells := 0, slots := 0, locals := 44 }) D (q_tM ca) (q_wM h ad ca) [.ref h, .int p1, .int p2, .int p3] s a g s9 a9 g9 := by
  unfold f_X3_again at hf
  refine q_entV (cc := cX3_again) (maxL := 4) (ret := none) (by decide) rfl (Nat.le_of_ble_eq_true rfl) ?_
  intro p e st m args below meth c A ls C hr hlocks hml hA I hl
  have hl : lv_has ls 4 [(0, .ref h), (1, .int p1), (2, .int p2), (3, .int p3)] := hl
  have hinX3 : ∀ w ∈ wsX30, w ∈ wsX3_again := fun _ h => List.mem_cons_of_mem _ (List.mem_append_right _ h)
  have k72 : Cond.fieldLink RX3 72 "ReaderYardModel" "laterTop" "[I" ∈ wsX3_again := by decide +kernel
  have k108 : Cond.fieldLink RX3 108 "ReaderYardModel" "onTop" "I" ∈ wsX3_again := by decide +kernel
  have k75 : Cond.fieldLink RX3 75 "ReaderYardModel" "laterChain" "[I" ∈ wsX3_again := by decide +kernel
  have k111 : Cond.fieldLink RX3 111 "ReaderYardModel" "chain" "I" ∈ wsX3_again := by decide +kernel
  have k78 : Cond.fieldLink RX3 78 "ReaderYardModel" "laterMarks" "[I" ∈ wsX3_again := by decide +kernel
  have k114 : Cond.fieldLink RX3 114 "ReaderYardModel" "marks" "I" ∈ wsX3_again := by decide +kernel
  have k56 : Cond.fieldLink RX3 56 "ReaderYardModel" "came" "[I" ∈ wsX3_again := by decide +kernel
  have k128 : Cond.fieldLink RX3 128 "ReaderYardModel" "result" "I" ∈ wsX3_again := by decide +kernel
  have k16 : Cond.fieldLink RX3 16 "ReaderYardModel" "as" "[I" ∈ wsX3_again := by decide +kernel
  refine lv_iload_n C.1 C.2.1 dX3_again_0 rfl (lv_at hl 3 rfl) ?_
  refine lv_if_ne (tgt := 49) C.1 C.2.1 dX3_again_1 (by decide) (fun c1 => ?_) (fun c1 => ?_)
  · have hf := q_if_f hf c1
    refine lv_aload_n C.1 C.2.1 dX3_again_49 rfl (lv_at hl 0 rfl) ?_
    refine lv_aload_n C.1 C.2.1 dX3_again_50 rfl (lv_at hl 0 rfl) ?_
    refine q_get_RX3_72 C hinX3 k72 I dX3_again_51 ?_
    refine lv_iload_n C.1 C.2.1 dX3_again_54 rfl (lv_at hl 1 rfl) ?_
    obtain ⟨b2, hf⟩ := q_ck_some hf
    refine q_ld_M_laterTop C b2 I dX3_again_55 ?_
    obtain ⟨s3, e4, hf⟩ := q_bd_some hf
    refine q_put_RX3_108 C hinX3 k108 e4 I dX3_again_56 (fun H locs I => ?_)
    refine lv_aload_n C.1 C.2.1 dX3_again_59 rfl (lv_at hl 0 rfl) ?_
    refine lv_aload_n C.1 C.2.1 dX3_again_60 rfl (lv_at hl 0 rfl) ?_
    refine q_get_RX3_75 C hinX3 k75 I dX3_again_61 ?_
    refine lv_iload_n C.1 C.2.1 dX3_again_64 rfl (lv_at hl 1 rfl) ?_
    obtain ⟨b5, hf⟩ := q_ck_some hf
    refine q_ld_M_laterChain C b5 I dX3_again_65 ?_
    obtain ⟨s6, e7, hf⟩ := q_bd_some hf
    refine q_put_RX3_111 C hinX3 k111 e7 I dX3_again_66 (fun H locs I => ?_)
    refine lv_aload_n C.1 C.2.1 dX3_again_69 rfl (lv_at hl 0 rfl) ?_
    refine lv_aload_n C.1 C.2.1 dX3_again_70 rfl (lv_at hl 0 rfl) ?_
    refine q_get_RX3_78 C hinX3 k78 I dX3_again_71 ?_
    refine lv_iload_n C.1 C.2.1 dX3_again_74 rfl (lv_at hl 1 rfl) ?_
    obtain ⟨b8, hf⟩ := q_ck_some hf
    refine q_ld_M_laterMarks C b8 I dX3_again_75 ?_
    obtain ⟨s9, e10, hf⟩ := q_bd_some hf
    refine q_put_RX3_114 C hinX3 k114 e10 I dX3_again_76 (fun H locs I => ?_)
    refine lv_aload_n C.1 C.2.1 dX3_again_79 rfl (lv_at hl 0 rfl) ?_
    refine lv_aload_n C.1 C.2.1 dX3_again_80 rfl (lv_at hl 0 rfl) ?_
    refine q_get_RX3_56 C hinX3 k56 I dX3_again_81 ?_
    refine lv_iload_n C.1 C.2.1 dX3_again_84 rfl (lv_at hl 1 rfl) ?_
    obtain ⟨b11, hf⟩ := q_ck_some hf
    refine q_ld_M_came C b11 I dX3_again_85 ?_
    obtain ⟨s12, a13, g14, h15, hf⟩ := q_cv_some hf
    refine q_callVv (As := [.int (a 21 p1.toNatClampNeg)]) (rest := []) C hml (c_X3_ends h15) (cwV 1 C.2.2.2.1 gX3_again_X3_ends rfl rfl rfl e_X3_ends ⟨Nat.le_of_ble_eq_true rfl, Nat.le_of_ble_eq_true rfl⟩) I hA (q0 := 0) (ci := 3) rfl rfl rfl rfl hl.1 rfl (Nat.le_of_ble_eq_true rfl) dX3_again_86 ⟨Nat.zero_le _, Nat.zero_le _⟩ (fun H locs I => ?_)
    obtain ⟨rfl, rfl, rfl⟩ := q_some3 hf
    exact q_vret C hr hlocks I dX3_again_89
  · have hf := q_if_t hf c1
    refine lv_aload_n C.1 C.2.1 dX3_again_4 rfl (lv_at hl 0 rfl) ?_
    refine q_get_RX3_128 C hinX3 k128 I dX3_again_5 ?_
    refine lv_aload_n C.1 C.2.1 dX3_again_8 rfl (lv_at hl 0 rfl) ?_
    refine q_get_RX3_56 C hinX3 k56 I dX3_again_9 ?_
    refine lv_iload_n C.1 C.2.1 dX3_again_12 rfl (lv_at hl 1 rfl) ?_
    obtain ⟨b17, hf⟩ := q_ck_some hf
    refine q_ld_M_came C b17 I dX3_again_13 ?_
    refine lv_icmp_le (tgt := 49) C.1 C.2.1 dX3_again_14 (by decide) (fun c18 => ?_) (fun c18 => ?_)
    · have hf := q_if_t hf c18
      refine lv_aload_n C.1 C.2.1 dX3_again_49 rfl (lv_at hl 0 rfl) ?_
      refine lv_aload_n C.1 C.2.1 dX3_again_50 rfl (lv_at hl 0 rfl) ?_
      refine q_get_RX3_72 C hinX3 k72 I dX3_again_51 ?_
      refine lv_iload_n C.1 C.2.1 dX3_again_54 rfl (lv_at hl 1 rfl) ?_
      obtain ⟨b19, hf⟩ := q_ck_some hf
      refine q_ld_M_laterTop C b19 I dX3_again_55 ?_
      obtain ⟨s20, e21, hf⟩ := q_bd_some hf
      refine q_put_RX3_108 C hinX3 k108 e21 I dX3_again_56 (fun H locs I => ?_)
      refine lv_aload_n C.1 C.2.1 dX3_again_59 rfl (lv_at hl 0 rfl) ?_
      refine lv_aload_n C.1 C.2.1 dX3_again_60 rfl (lv_at hl 0 rfl) ?_
      refine q_get_RX3_75 C hinX3 k75 I dX3_again_61 ?_
      refine lv_iload_n C.1 C.2.1 dX3_again_64 rfl (lv_at hl 1 rfl) ?_
      obtain ⟨b22, hf⟩ := q_ck_some hf
      refine q_ld_M_laterChain C b22 I dX3_again_65 ?_
      obtain ⟨s23, e24, hf⟩ := q_bd_some hf
      refine q_put_RX3_111 C hinX3 k111 e24 I dX3_again_66 (fun H locs I => ?_)
      refine lv_aload_n C.1 C.2.1 dX3_again_69 rfl (lv_at hl 0 rfl) ?_
      refine lv_aload_n C.1 C.2.1 dX3_again_70 rfl (lv_at hl 0 rfl) ?_
      refine q_get_RX3_78 C hinX3 k78 I dX3_again_71 ?_
      refine lv_iload_n C.1 C.2.1 dX3_again_74 rfl (lv_at hl 1 rfl) ?_
      obtain ⟨b25, hf⟩ := q_ck_some hf
      refine q_ld_M_laterMarks C b25 I dX3_again_75 ?_
      obtain ⟨s26, e27, hf⟩ := q_bd_some hf
      refine q_put_RX3_114 C hinX3 k114 e27 I dX3_again_76 (fun H locs I => ?_)
      refine lv_aload_n C.1 C.2.1 dX3_again_79 rfl (lv_at hl 0 rfl) ?_
      refine lv_aload_n C.1 C.2.1 dX3_again_80 rfl (lv_at hl 0 rfl) ?_
      refine q_get_RX3_56 C hinX3 k56 I dX3_again_81 ?_
      refine lv_iload_n C.1 C.2.1 dX3_again_84 rfl (lv_at hl 1 rfl) ?_
      obtain ⟨b28, hf⟩ := q_ck_some hf
      refine q_ld_M_came C b28 I dX3_again_85 ?_
      obtain ⟨s29, a30, g31, h32, hf⟩ := q_cv_some hf
      refine q_callVv (As := [.int (a 21 p1.toNatClampNeg)]) (rest := []) C hml (c_X3_ends h32) (cwV 1 C.2.2.2.1 gX3_again_X3_ends rfl rfl rfl e_X3_ends ⟨Nat.le_of_ble_eq_true rfl, Nat.le_of_ble_eq_true rfl⟩) I hA (q0 := 0) (ci := 3) rfl rfl rfl rfl hl.1 rfl (Nat.le_of_ble_eq_true rfl) dX3_again_86 ⟨Nat.zero_le _, Nat.zero_le _⟩ (fun H locs I => ?_)
      obtain ⟨rfl, rfl, rfl⟩ := q_some3 hf
      exact q_vret C hr hlocks I dX3_again_89
    · have hf := q_if_f hf c18
      refine lv_aload_n C.1 C.2.1 dX3_again_17 rfl (lv_at hl 0 rfl) ?_
      refine q_get_RX3_56 C hinX3 k56 I dX3_again_18 ?_
      refine lv_iload_n C.1 C.2.1 dX3_again_21 rfl (lv_at hl 1 rfl) ?_
      refine lv_aload_n C.1 C.2.1 dX3_again_22 rfl (lv_at hl 0 rfl) ?_
      refine q_get_RX3_128 C hinX3 k128 I dX3_again_23 ?_
      obtain ⟨b34, hf⟩ := q_ck_some hf
      obtain ⟨a36, e35, hf⟩ := q_bd_some hf
      refine q_st_M_came C b34 e35 I dX3_again_26 (fun H locs I => ?_)
      refine lv_aload_n C.1 C.2.1 dX3_again_27 rfl (lv_at hl 0 rfl) ?_
      refine lv_iload_n C.1 C.2.1 dX3_again_28 rfl (lv_at hl 1 rfl) ?_
      obtain ⟨s37, a38, g39, h40, hf⟩ := q_cv_some hf
      refine q_callVv (As := [.int p1]) (rest := []) C hml (c_X3_keep h40) (cwV 1 C.2.2.2.1 gX3_again_X3_keep rfl rfl rfl e_X3_keep ⟨Nat.le_of_ble_eq_true rfl, Nat.le_of_ble_eq_true rfl⟩) I hA (q0 := 0) (ci := 3) rfl rfl rfl rfl hl.1 rfl (Nat.le_of_ble_eq_true rfl) dX3_again_29 ⟨Nat.zero_le _, Nat.zero_le _⟩ (fun H locs I => ?_)
      refine lv_aload_n C.1 C.2.1 dX3_again_32 rfl (lv_at hl 0 rfl) ?_
      refine lv_aload_n C.1 C.2.1 dX3_again_33 rfl (lv_at hl 0 rfl) ?_
      refine q_get_RX3_16 C hinX3 k16 I dX3_again_34 ?_
      refine lv_iload_n C.1 C.2.1 dX3_again_37 rfl (lv_at hl 2 rfl) ?_
      obtain ⟨b42, hf⟩ := q_ck_some hf
      refine q_ld_M_as C b42 I dX3_again_38 ?_
      refine lv_aload_n C.1 C.2.1 dX3_again_39 rfl (lv_at hl 0 rfl) ?_
      refine q_get_RX3_56 C hinX3 k56 I dX3_again_40 ?_
      refine lv_iload_n C.1 C.2.1 dX3_again_43 rfl (lv_at hl 1 rfl) ?_
      obtain ⟨b43, hf⟩ := q_ck_some hf
      refine q_ld_M_came C b43 I dX3_again_44 ?_
      obtain ⟨s44, a45, g46, h47, hf⟩ := q_cv_some hf
      refine q_callVv (As := [.int (a38 4 p2.toNatClampNeg), .int (a38 21 p1.toNatClampNeg)]) (rest := []) C hml (c_X3_asks h47) (cwV 2 C.2.2.2.1 gX3_again_X3_asks rfl rfl rfl e_X3_asks ⟨Nat.le_of_ble_eq_true rfl, Nat.le_of_ble_eq_true rfl⟩) I hA (q0 := 0) (ci := 3) rfl rfl rfl rfl hl.1 rfl (Nat.le_of_ble_eq_true rfl) dX3_again_45 ⟨Nat.zero_le _, Nat.zero_le _⟩ (fun H locs I => ?_)
      obtain ⟨rfl, rfl, rfl⟩ := q_some3 hf
      exact q_vret C hr hlocks I dX3_again_48
def f_X3_joins (s : q_s) (a : q_a) (g : q_g) (p1 : Int32) (p2 : Int32) : Option q_S :=
 q_ck p1 150 <|
 q_ck p1 150 <|
 if a 19 p1.toNatClampNeg = 0 then
  q_ck p2 50 <|
  if a 3 p2.toNatClampNeg = 6 then
   q_cv (f_X3_keep s a g p1) fun s141 a142 g143 =>
   q_ck p2 50 <|
   q_cv (f_X3_asks s141 a142 g143 (a142 4 p2.toNatClampNeg) (a 20 p1.toNatClampNeg)) fun s147 a148 g149 =>
   some (s147, a148, g149)
  else
   q_ck p2 50 <|
   q_cv (f_X3_asks s a g (a 4 p2.toNatClampNeg) (a 20 p1.toNatClampNeg)) fun s136 a137 g138 =>
   some (s136, a137, g138)
 else
  if s 29 = (-1) then
   q_ck p2 50 <|
   if a 3 p2.toNatClampNeg = 4 then
    q_ck p1 150 <|
    if a 19 p1.toNatClampNeg = 1 then
     q_cv (f_X3_ends s a g (s 29)) fun s78 a79 g80 =>
     some (s78, a79, g80)
    else
     q_cv (f_X3_ends s a g (s 29)) fun s72 a73 g74 =>
     some (s72, a73, g74)
   else
    if a 3 p2.toNatClampNeg = 5 then
     q_ck p1 150 <|
     if a 19 p1.toNatClampNeg = 1 then
      q_ck p1 150 <|
      if a 22 p1.toNatClampNeg = 0 then
       q_ck p2 50 <|
       q_cv (f_X3_asks s a g (a 5 p2.toNatClampNeg) (a 20 p1.toNatClampNeg)) fun s100 a101 g102 =>
       some (s100, a101, g102)
      else
       q_cv (f_X3_ends s a g (s 29)) fun s94 a95 g96 =>
       some (s94, a95, g96)
     else
      q_cv (f_X3_ends s a g (s 29)) fun s86 a87 g88 =>
      some (s86, a87, g88)
    else
     if a 3 p2.toNatClampNeg = 6 then
      q_cv (f_X3_again s a g p1 p2 1) fun s106 a107 g108 =>
      some (s106, a107, g108)
     else
      if a 3 p2.toNatClampNeg = 7 then
       q_cv (f_X3_ends s a g (a 20 p1.toNatClampNeg)) fun s113 a114 g115 =>
       some (s113, a114, g115)
      else
       if a 3 p2.toNatClampNeg = 8 then
        q_cv (f_X3_ends s a g (a 20 p1.toNatClampNeg)) fun s120 a121 g122 =>
        some (s120, a121, g122)
       else
        q_cv (f_X3_ends s a g (-1)) fun s127 a128 g129 =>
        some (s127, a128, g129)
  else
   q_ck p2 50 <|
   if a 3 p2.toNatClampNeg = 4 then
    q_ck p1 150 <|
    if a 19 p1.toNatClampNeg = 1 then
     q_ck p2 50 <|
     q_cv (f_X3_asks s a g (a 5 p2.toNatClampNeg) (s 29)) fun s16 a17 g18 =>
     some (s16, a17, g18)
    else
     q_cv (f_X3_ends s a g (s 29)) fun s9 a10 g11 =>
     some (s9, a10, g11)
   else
    if a 3 p2.toNatClampNeg = 5 then
     q_ck p1 150 <|
     if a 19 p1.toNatClampNeg = 1 then
      q_cv (f_X3_ends s a g (s 29)) fun s30 a31 g32 =>
      some (s30, a31, g32)
     else
      q_cv (f_X3_ends s a g (s 29)) fun s24 a25 g26 =>
      some (s24, a25, g26)
    else
     if a 3 p2.toNatClampNeg = 6 then
      q_cv (f_X3_again s a g p1 p2 0) fun s36 a37 g38 =>
      some (s36, a37, g38)
     else
      if a 3 p2.toNatClampNeg = 7 then
       q_cv (f_X3_ends s a g (s 29)) fun s43 a44 g45 =>
       some (s43, a44, g45)
      else
       if a 3 p2.toNatClampNeg = 8 then
        q_cv (f_X3_ends s a g (-1)) fun s50 a51 g52 =>
        some (s50, a51, g52)
       else
        q_cv (f_X3_takeBack s a g p1) fun s56 a57 g58 =>
        q_cv (f_X3_ends s56 a57 g58 (a 20 p1.toNatClampNeg)) fun s62 a63 g64 =>
        some (s62, a63, g64)
theorem e_X3_joins : yX3_joins.cls = RX3 ∧ yX3_joins.cls ≠ "java/lang/invoke/MethodHandle" ∧ yX3_joins.cls ≠ "java/lang/invoke/VarHandle" ∧ (parseMethodDescriptor yX3_joins.desc).map (fun d => d.parameters.length) = some 2 := by decide +kernel
set_option maxHeartbeats 4000000 in
set_option maxRecDepth 100000 in
theorem c_X3_joins {l : Launch} {D : va_G} {h : Nat} {ad : Nat → Nat} {ca : Nat → ClassId} {s s9 : q_s} {a a9 : q_a} {g g9 : q_g} {p1 : Int32} {p2 : Int32} (hf : f_X3_joins s a g p1 p2 = some (s9, a9, g9)) : q_Mv l yX3_joins wsX3_joins ({ frames := 3, cells := 0, slots := 0, locals := 67 }) D (q_tM ca) (q_wM h ad ca) [.ref h, .int p1, .int p2] s a g s9 a9 g9 := by
  unfold f_X3_joins at hf
  refine q_entV (cc := cX3_joins) (maxL := 5) (ret := none) (by decide) rfl (Nat.le_of_ble_eq_true rfl) ?_
  intro p e st m args below meth c A ls C hr hlocks hml hA I hl
  have hl : lv_has ls 5 [(0, .ref h), (1, .int p1), (2, .int p2)] := hl
  have hinX3 : ∀ w ∈ wsX30, w ∈ wsX3_joins := fun _ h => List.mem_cons_of_mem _ (List.mem_append_right _ h)
  have k53 : Cond.fieldLink RX3 53 "ReaderYardModel" "start" "[I" ∈ wsX3_joins := by decide +kernel
  have k50 : Cond.fieldLink RX3 50 "ReaderYardModel" "phase" "[I" ∈ wsX3_joins := by decide +kernel
  have k128 : Cond.fieldLink RX3 128 "ReaderYardModel" "result" "I" ∈ wsX3_joins := by decide +kernel
  have k13 : Cond.fieldLink RX3 13 "ReaderYardModel" "sorts" "[I" ∈ wsX3_joins := by decide +kernel
  have k19 : Cond.fieldLink RX3 19 "ReaderYardModel" "bs" "[I" ∈ wsX3_joins := by decide +kernel
  have k59 : Cond.fieldLink RX3 59 "ReaderYardModel" "barred" "[Z" ∈ wsX3_joins := by decide +kernel
  have k16 : Cond.fieldLink RX3 16 "ReaderYardModel" "as" "[I" ∈ wsX3_joins := by decide +kernel
  refine lv_aload_n C.1 C.2.1 dX3_joins_0 rfl (lv_at hl 0 rfl) ?_
  refine q_get_RX3_53 C hinX3 k53 I dX3_joins_1 ?_
  refine lv_iload_n C.1 C.2.1 dX3_joins_4 rfl (lv_at hl 1 rfl) ?_
  obtain ⟨b1, hf⟩ := q_ck_some hf
  refine q_ld_M_start C b1 I dX3_joins_5 ?_
  refine lv_istore_n (lv' := [(3, .int (a 20 p1.toNatClampNeg)), (0, .ref h), (1, .int p1), (2, .int p2)]) C.1 C.2.1 dX3_joins_6 rfl hl (by decide) rfl (fun ls hl => ?_)
  refine lv_aload_n C.1 C.2.1 dX3_joins_7 rfl (lv_at hl 1 rfl) ?_
  refine q_get_RX3_50 C hinX3 k50 I dX3_joins_8 ?_
  refine lv_iload_n C.1 C.2.1 dX3_joins_11 rfl (lv_at hl 2 rfl) ?_
  obtain ⟨b2, hf⟩ := q_ck_some hf
  refine q_ld_M_phase C b2 I dX3_joins_12 ?_
  refine lv_if_ne (tgt := 44) C.1 C.2.1 dX3_joins_13 (by decide) (fun c3 => ?_) (fun c3 => ?_)
  · have hf := q_if_f hf c3
    refine lv_aload_n C.1 C.2.1 dX3_joins_44 rfl (lv_at hl 1 rfl) ?_
    refine q_get_RX3_128 C hinX3 k128 I dX3_joins_45 ?_
    refine lv_iconst (v := (-1)) C.1 C.2.1 dX3_joins_48 (by decide) ?_
    refine lv_icmp_ne (tgt := 56) C.1 C.2.1 dX3_joins_49 (by decide) (fun c4 => ?_) (fun c4 => ?_)
    · have hf := q_if_f hf c4
      refine lv_iconst (v := 0) C.1 C.2.1 dX3_joins_56 (by decide) ?_
      refine lv_istore (lv' := [(4, .int 0), (3, .int (a 20 p1.toNatClampNeg)), (0, .ref h), (1, .int p1), (2, .int p2)]) C.1 C.2.1 dX3_joins_57 hl (by decide) rfl (fun ls hl => ?_)
      refine lv_aload_n C.1 C.2.1 dX3_joins_59 rfl (lv_at hl 2 rfl) ?_
      refine q_get_RX3_13 C hinX3 k13 I dX3_joins_60 ?_
      refine lv_iload_n C.1 C.2.1 dX3_joins_63 rfl (lv_at hl 4 rfl) ?_
      obtain ⟨b5, hf⟩ := q_ck_some hf
      refine q_ld_M_sorts C b5 I dX3_joins_64 ?_
      by_cases c6 : a 3 p2.toNatClampNeg = 4
      · have hf := q_if_t hf c6
        refine lv_tableIn (off := 35) (tgt := 100) C.1 C.2.1 dX3_joins_65 (by skip <;> rw [c6] <;> decide) (by skip <;> rw [c6] <;> decide) (by skip <;> rw [c6] <;> rfl) (by decide) ?_
        refine lv_aload_n C.1 C.2.1 dX3_joins_100 rfl (lv_at hl 2 rfl) ?_
        refine q_get_RX3_50 C hinX3 k50 I dX3_joins_101 ?_
        refine lv_iload_n C.1 C.2.1 dX3_joins_104 rfl (lv_at hl 3 rfl) ?_
        obtain ⟨b7, hf⟩ := q_ck_some hf
        refine q_ld_M_phase C b7 I dX3_joins_105 ?_
        refine lv_iconst (v := 1) C.1 C.2.1 dX3_joins_106 (by decide) ?_
        refine lv_icmp_ne (tgt := 132) C.1 C.2.1 dX3_joins_107 (by decide) (fun c8 => ?_) (fun c8 => ?_)
        · have hf := q_if_f hf c8
          refine lv_aload_n C.1 C.2.1 dX3_joins_132 rfl (lv_at hl 2 rfl) ?_
          refine lv_aload_n C.1 C.2.1 dX3_joins_133 rfl (lv_at hl 2 rfl) ?_
          refine q_get_RX3_128 C hinX3 k128 I dX3_joins_134 ?_
          obtain ⟨s9, a10, g11, h12, hf⟩ := q_cv_some hf
          refine q_callVv (As := [.int (s 29)]) (rest := []) C hml (c_X3_ends h12) (cwV 1 C.2.2.2.1 gX3_joins_X3_ends rfl rfl rfl e_X3_ends ⟨Nat.le_of_ble_eq_true rfl, Nat.le_of_ble_eq_true rfl⟩) I hA (q0 := 0) (ci := 3) rfl rfl rfl rfl hl.1 rfl (Nat.le_of_ble_eq_true rfl) dX3_joins_137 ⟨Nat.zero_le _, Nat.zero_le _⟩ (fun H locs I => ?_)
          refine lv_goto (tgt := 264) C.1 C.2.1 dX3_joins_140 (by decide) ?_
          obtain ⟨rfl, rfl, rfl⟩ := q_some3 hf
          exact q_vret C hr hlocks I dX3_joins_264
        · have hf := q_if_t hf c8
          refine lv_iload C.1 C.2.1 dX3_joins_110 (lv_at hl 0 rfl) ?_
          refine lv_if_ne (tgt := 132) C.1 C.2.1 dX3_joins_112 (by decide) (fun c14 => absurd c14 (by decide)) (fun _ => ?_)
          refine lv_aload_n C.1 C.2.1 dX3_joins_115 rfl (lv_at hl 2 rfl) ?_
          refine lv_aload_n C.1 C.2.1 dX3_joins_116 rfl (lv_at hl 2 rfl) ?_
          refine q_get_RX3_19 C hinX3 k19 I dX3_joins_117 ?_
          refine lv_iload_n C.1 C.2.1 dX3_joins_120 rfl (lv_at hl 4 rfl) ?_
          obtain ⟨b15, hf⟩ := q_ck_some hf
          refine q_ld_M_bs C b15 I dX3_joins_121 ?_
          refine lv_aload_n C.1 C.2.1 dX3_joins_122 rfl (lv_at hl 2 rfl) ?_
          refine q_get_RX3_128 C hinX3 k128 I dX3_joins_123 ?_
          obtain ⟨s16, a17, g18, h19, hf⟩ := q_cv_some hf
          refine q_callVv (As := [.int (a 5 p2.toNatClampNeg), .int (s 29)]) (rest := []) C hml (c_X3_asks h19) (cwV 2 C.2.2.2.1 gX3_joins_X3_asks rfl rfl rfl e_X3_asks ⟨Nat.le_of_ble_eq_true rfl, Nat.le_of_ble_eq_true rfl⟩) I hA (q0 := 0) (ci := 3) rfl rfl rfl rfl hl.1 rfl (Nat.le_of_ble_eq_true rfl) dX3_joins_126 ⟨Nat.zero_le _, Nat.zero_le _⟩ (fun H locs I => ?_)
          refine lv_goto (tgt := 264) C.1 C.2.1 dX3_joins_129 (by decide) ?_
          obtain ⟨rfl, rfl, rfl⟩ := q_some3 hf
          exact q_vret C hr hlocks I dX3_joins_264
      have hf := q_if_f hf c6
      by_cases c21 : a 3 p2.toNatClampNeg = 5
      · have hf := q_if_t hf c21
        refine lv_tableIn (off := 78) (tgt := 143) C.1 C.2.1 dX3_joins_65 (by skip <;> rw [c21] <;> decide) (by skip <;> rw [c21] <;> decide) (by skip <;> rw [c21] <;> rfl) (by decide) ?_
        refine lv_aload_n C.1 C.2.1 dX3_joins_143 rfl (lv_at hl 2 rfl) ?_
        refine q_get_RX3_50 C hinX3 k50 I dX3_joins_144 ?_
        refine lv_iload_n C.1 C.2.1 dX3_joins_147 rfl (lv_at hl 3 rfl) ?_
        obtain ⟨b22, hf⟩ := q_ck_some hf
        refine q_ld_M_phase C b22 I dX3_joins_148 ?_
        refine lv_iconst (v := 1) C.1 C.2.1 dX3_joins_149 (by decide) ?_
        refine lv_icmp_ne (tgt := 181) C.1 C.2.1 dX3_joins_150 (by decide) (fun c23 => ?_) (fun c23 => ?_)
        · have hf := q_if_f hf c23
          refine lv_aload_n C.1 C.2.1 dX3_joins_181 rfl (lv_at hl 2 rfl) ?_
          refine lv_aload_n C.1 C.2.1 dX3_joins_182 rfl (lv_at hl 2 rfl) ?_
          refine q_get_RX3_128 C hinX3 k128 I dX3_joins_183 ?_
          obtain ⟨s24, a25, g26, h27, hf⟩ := q_cv_some hf
          refine q_callVv (As := [.int (s 29)]) (rest := []) C hml (c_X3_ends h27) (cwV 1 C.2.2.2.1 gX3_joins_X3_ends rfl rfl rfl e_X3_ends ⟨Nat.le_of_ble_eq_true rfl, Nat.le_of_ble_eq_true rfl⟩) I hA (q0 := 0) (ci := 3) rfl rfl rfl rfl hl.1 rfl (Nat.le_of_ble_eq_true rfl) dX3_joins_186 ⟨Nat.zero_le _, Nat.zero_le _⟩ (fun H locs I => ?_)
          refine lv_goto (tgt := 264) C.1 C.2.1 dX3_joins_189 (by decide) ?_
          obtain ⟨rfl, rfl, rfl⟩ := q_some3 hf
          exact q_vret C hr hlocks I dX3_joins_264
        · have hf := q_if_t hf c23
          refine lv_iload C.1 C.2.1 dX3_joins_153 (lv_at hl 0 rfl) ?_
          refine lv_if_eq (tgt := 181) C.1 C.2.1 dX3_joins_155 (by decide) (fun _ => ?_) (fun c29 => absurd c29 (by decide))
          refine lv_aload_n C.1 C.2.1 dX3_joins_181 rfl (lv_at hl 2 rfl) ?_
          refine lv_aload_n C.1 C.2.1 dX3_joins_182 rfl (lv_at hl 2 rfl) ?_
          refine q_get_RX3_128 C hinX3 k128 I dX3_joins_183 ?_
          obtain ⟨s30, a31, g32, h33, hf⟩ := q_cv_some hf
          refine q_callVv (As := [.int (s 29)]) (rest := []) C hml (c_X3_ends h33) (cwV 1 C.2.2.2.1 gX3_joins_X3_ends rfl rfl rfl e_X3_ends ⟨Nat.le_of_ble_eq_true rfl, Nat.le_of_ble_eq_true rfl⟩) I hA (q0 := 0) (ci := 3) rfl rfl rfl rfl hl.1 rfl (Nat.le_of_ble_eq_true rfl) dX3_joins_186 ⟨Nat.zero_le _, Nat.zero_le _⟩ (fun H locs I => ?_)
          refine lv_goto (tgt := 264) C.1 C.2.1 dX3_joins_189 (by decide) ?_
          obtain ⟨rfl, rfl, rfl⟩ := q_some3 hf
          exact q_vret C hr hlocks I dX3_joins_264
      have hf := q_if_f hf c21
      by_cases c35 : a 3 p2.toNatClampNeg = 6
      · have hf := q_if_t hf c35
        refine lv_tableIn (off := 127) (tgt := 192) C.1 C.2.1 dX3_joins_65 (by skip <;> rw [c35] <;> decide) (by skip <;> rw [c35] <;> decide) (by skip <;> rw [c35] <;> rfl) (by decide) ?_
        refine lv_aload_n C.1 C.2.1 dX3_joins_192 rfl (lv_at hl 2 rfl) ?_
        refine lv_iload_n C.1 C.2.1 dX3_joins_193 rfl (lv_at hl 3 rfl) ?_
        refine lv_iload_n C.1 C.2.1 dX3_joins_194 rfl (lv_at hl 4 rfl) ?_
        refine lv_iload C.1 C.2.1 dX3_joins_195 (lv_at hl 0 rfl) ?_
        obtain ⟨s36, a37, g38, h39, hf⟩ := q_cv_some hf
        refine q_callVv (As := [.int p1, .int p2, .int 0]) (rest := []) C hml (c_X3_again h39) (cwV 3 C.2.2.2.1 gX3_joins_X3_again rfl rfl rfl e_X3_again ⟨Nat.le_of_ble_eq_true rfl, Nat.le_of_ble_eq_true rfl⟩) I hA (q0 := 0) (ci := 3) rfl rfl rfl rfl hl.1 rfl (Nat.le_of_ble_eq_true rfl) dX3_joins_197 ⟨Nat.zero_le _, Nat.zero_le _⟩ (fun H locs I => ?_)
        refine lv_goto (tgt := 264) C.1 C.2.1 dX3_joins_200 (by decide) ?_
        obtain ⟨rfl, rfl, rfl⟩ := q_some3 hf
        exact q_vret C hr hlocks I dX3_joins_264
      have hf := q_if_f hf c35
      by_cases c41 : a 3 p2.toNatClampNeg = 7
      · have hf := q_if_t hf c41
        refine lv_tableIn (off := 138) (tgt := 203) C.1 C.2.1 dX3_joins_65 (by skip <;> rw [c41] <;> decide) (by skip <;> rw [c41] <;> decide) (by skip <;> rw [c41] <;> rfl) (by decide) ?_
        refine lv_aload_n C.1 C.2.1 dX3_joins_203 rfl (lv_at hl 2 rfl) ?_
        refine lv_iload C.1 C.2.1 dX3_joins_204 (lv_at hl 0 rfl) ?_
        refine lv_if_eq (tgt := 213) C.1 C.2.1 dX3_joins_206 (by decide) (fun _ => ?_) (fun c42 => absurd c42 (by decide))
        refine lv_aload_n C.1 C.2.1 dX3_joins_213 rfl (lv_at hl 2 rfl) ?_
        refine q_get_RX3_128 C hinX3 k128 I dX3_joins_214 ?_
        obtain ⟨s43, a44, g45, h46, hf⟩ := q_cv_some hf
        refine q_callVv (As := [.int (s 29)]) (rest := []) C hml (c_X3_ends h46) (cwV 1 C.2.2.2.1 gX3_joins_X3_ends rfl rfl rfl e_X3_ends ⟨Nat.le_of_ble_eq_true rfl, Nat.le_of_ble_eq_true rfl⟩) I hA (q0 := 0) (ci := 3) rfl rfl rfl rfl hl.1 rfl (Nat.le_of_ble_eq_true rfl) dX3_joins_217 ⟨Nat.zero_le _, Nat.zero_le _⟩ (fun H locs I => ?_)
        refine lv_goto (tgt := 264) C.1 C.2.1 dX3_joins_220 (by decide) ?_
        obtain ⟨rfl, rfl, rfl⟩ := q_some3 hf
        exact q_vret C hr hlocks I dX3_joins_264
      have hf := q_if_f hf c41
      by_cases c48 : a 3 p2.toNatClampNeg = 8
      · have hf := q_if_t hf c48
        refine lv_tableIn (off := 158) (tgt := 223) C.1 C.2.1 dX3_joins_65 (by skip <;> rw [c48] <;> decide) (by skip <;> rw [c48] <;> decide) (by skip <;> rw [c48] <;> rfl) (by decide) ?_
        refine lv_aload_n C.1 C.2.1 dX3_joins_223 rfl (lv_at hl 2 rfl) ?_
        refine lv_iload C.1 C.2.1 dX3_joins_224 (lv_at hl 0 rfl) ?_
        refine lv_if_eq (tgt := 233) C.1 C.2.1 dX3_joins_226 (by decide) (fun _ => ?_) (fun c49 => absurd c49 (by decide))
        refine lv_iconst (v := (-1)) C.1 C.2.1 dX3_joins_233 (by decide) ?_
        obtain ⟨s50, a51, g52, h53, hf⟩ := q_cv_some hf
        refine q_callVv (As := [.int (-1)]) (rest := []) C hml (c_X3_ends h53) (cwV 1 C.2.2.2.1 gX3_joins_X3_ends rfl rfl rfl e_X3_ends ⟨Nat.le_of_ble_eq_true rfl, Nat.le_of_ble_eq_true rfl⟩) I hA (q0 := 0) (ci := 3) rfl rfl rfl rfl hl.1 rfl (Nat.le_of_ble_eq_true rfl) dX3_joins_234 ⟨Nat.zero_le _, Nat.zero_le _⟩ (fun H locs I => ?_)
        refine lv_goto (tgt := 264) C.1 C.2.1 dX3_joins_237 (by decide) ?_
        obtain ⟨rfl, rfl, rfl⟩ := q_some3 hf
        exact q_vret C hr hlocks I dX3_joins_264
      have hf := q_if_f hf c48
      refine lv_tableOut (tgt := 240) C.1 C.2.1 dX3_joins_65 (by
        refine q_out (fun k k1 k2 => ?_)
        have k3 : k = 4 ∨ k = 5 ∨ k = 6 ∨ k = 7 ∨ k = 8 := by omega
        rcases k3 with rfl | rfl | rfl | rfl | rfl
        · exact fun z => c6 (z)
        · exact fun z => c21 (z)
        · exact fun z => c35 (z)
        · exact fun z => c41 (z)
        · exact fun z => c48 (z)
        ) (by decide) ?_
      refine lv_iload C.1 C.2.1 dX3_joins_240 (lv_at hl 0 rfl) ?_
      refine lv_if_ne (tgt := 250) C.1 C.2.1 dX3_joins_242 (by decide) (fun c55 => absurd c55 (by decide)) (fun _ => ?_)
      refine lv_aload_n C.1 C.2.1 dX3_joins_245 rfl (lv_at hl 2 rfl) ?_
      refine lv_iload_n C.1 C.2.1 dX3_joins_246 rfl (lv_at hl 3 rfl) ?_
      obtain ⟨s56, a57, g58, h59, hf⟩ := q_cv_some hf
      refine q_callVv (As := [.int p1]) (rest := []) C hml (c_X3_takeBack h59) (cwV 1 C.2.2.2.1 gX3_joins_X3_takeBack rfl rfl rfl e_X3_takeBack ⟨Nat.le_of_ble_eq_true rfl, Nat.le_of_ble_eq_true rfl⟩) I hA (q0 := 0) (ci := 3) rfl rfl rfl rfl hl.1 rfl (Nat.le_of_ble_eq_true rfl) dX3_joins_247 ⟨Nat.zero_le _, Nat.zero_le _⟩ (fun H locs I => ?_)
      refine lv_aload_n C.1 C.2.1 dX3_joins_250 rfl (lv_at hl 2 rfl) ?_
      refine lv_iload C.1 C.2.1 dX3_joins_251 (lv_at hl 0 rfl) ?_
      refine lv_if_eq (tgt := 260) C.1 C.2.1 dX3_joins_253 (by decide) (fun _ => ?_) (fun c61 => absurd c61 (by decide))
      refine lv_iload_n C.1 C.2.1 dX3_joins_260 rfl (lv_at hl 1 rfl) ?_
      obtain ⟨s62, a63, g64, h65, hf⟩ := q_cv_some hf
      refine q_callVv (As := [.int (a 20 p1.toNatClampNeg)]) (rest := []) C hml (c_X3_ends h65) (cwV 1 C.2.2.2.1 gX3_joins_X3_ends rfl rfl rfl e_X3_ends ⟨Nat.le_of_ble_eq_true rfl, Nat.le_of_ble_eq_true rfl⟩) I hA (q0 := 0) (ci := 3) rfl rfl rfl rfl hl.1 rfl (Nat.le_of_ble_eq_true rfl) dX3_joins_261 ⟨Nat.zero_le _, Nat.zero_le _⟩ (fun H locs I => ?_)
      obtain ⟨rfl, rfl, rfl⟩ := q_some3 hf
      exact q_vret C hr hlocks I dX3_joins_264
    · have hf := q_if_t hf c4
      refine lv_iconst (v := 1) C.1 C.2.1 dX3_joins_52 (by decide) ?_
      refine lv_goto (tgt := 57) C.1 C.2.1 dX3_joins_53 (by decide) ?_
      refine lv_istore (lv' := [(4, .int 1), (3, .int (a 20 p1.toNatClampNeg)), (0, .ref h), (1, .int p1), (2, .int p2)]) C.1 C.2.1 dX3_joins_57 hl (by decide) rfl (fun ls hl => ?_)
      refine lv_aload_n C.1 C.2.1 dX3_joins_59 rfl (lv_at hl 2 rfl) ?_
      refine q_get_RX3_13 C hinX3 k13 I dX3_joins_60 ?_
      refine lv_iload_n C.1 C.2.1 dX3_joins_63 rfl (lv_at hl 4 rfl) ?_
      obtain ⟨b68, hf⟩ := q_ck_some hf
      refine q_ld_M_sorts C b68 I dX3_joins_64 ?_
      by_cases c69 : a 3 p2.toNatClampNeg = 4
      · have hf := q_if_t hf c69
        refine lv_tableIn (off := 35) (tgt := 100) C.1 C.2.1 dX3_joins_65 (by skip <;> rw [c69] <;> decide) (by skip <;> rw [c69] <;> decide) (by skip <;> rw [c69] <;> rfl) (by decide) ?_
        refine lv_aload_n C.1 C.2.1 dX3_joins_100 rfl (lv_at hl 2 rfl) ?_
        refine q_get_RX3_50 C hinX3 k50 I dX3_joins_101 ?_
        refine lv_iload_n C.1 C.2.1 dX3_joins_104 rfl (lv_at hl 3 rfl) ?_
        obtain ⟨b70, hf⟩ := q_ck_some hf
        refine q_ld_M_phase C b70 I dX3_joins_105 ?_
        refine lv_iconst (v := 1) C.1 C.2.1 dX3_joins_106 (by decide) ?_
        refine lv_icmp_ne (tgt := 132) C.1 C.2.1 dX3_joins_107 (by decide) (fun c71 => ?_) (fun c71 => ?_)
        · have hf := q_if_f hf c71
          refine lv_aload_n C.1 C.2.1 dX3_joins_132 rfl (lv_at hl 2 rfl) ?_
          refine lv_aload_n C.1 C.2.1 dX3_joins_133 rfl (lv_at hl 2 rfl) ?_
          refine q_get_RX3_128 C hinX3 k128 I dX3_joins_134 ?_
          obtain ⟨s72, a73, g74, h75, hf⟩ := q_cv_some hf
          refine q_callVv (As := [.int (s 29)]) (rest := []) C hml (c_X3_ends h75) (cwV 1 C.2.2.2.1 gX3_joins_X3_ends rfl rfl rfl e_X3_ends ⟨Nat.le_of_ble_eq_true rfl, Nat.le_of_ble_eq_true rfl⟩) I hA (q0 := 0) (ci := 3) rfl rfl rfl rfl hl.1 rfl (Nat.le_of_ble_eq_true rfl) dX3_joins_137 ⟨Nat.zero_le _, Nat.zero_le _⟩ (fun H locs I => ?_)
          refine lv_goto (tgt := 264) C.1 C.2.1 dX3_joins_140 (by decide) ?_
          obtain ⟨rfl, rfl, rfl⟩ := q_some3 hf
          exact q_vret C hr hlocks I dX3_joins_264
        · have hf := q_if_t hf c71
          refine lv_iload C.1 C.2.1 dX3_joins_110 (lv_at hl 0 rfl) ?_
          refine lv_if_ne (tgt := 132) C.1 C.2.1 dX3_joins_112 (by decide) (fun _ => ?_) (fun c77 => absurd c77 (by decide))
          refine lv_aload_n C.1 C.2.1 dX3_joins_132 rfl (lv_at hl 2 rfl) ?_
          refine lv_aload_n C.1 C.2.1 dX3_joins_133 rfl (lv_at hl 2 rfl) ?_
          refine q_get_RX3_128 C hinX3 k128 I dX3_joins_134 ?_
          obtain ⟨s78, a79, g80, h81, hf⟩ := q_cv_some hf
          refine q_callVv (As := [.int (s 29)]) (rest := []) C hml (c_X3_ends h81) (cwV 1 C.2.2.2.1 gX3_joins_X3_ends rfl rfl rfl e_X3_ends ⟨Nat.le_of_ble_eq_true rfl, Nat.le_of_ble_eq_true rfl⟩) I hA (q0 := 0) (ci := 3) rfl rfl rfl rfl hl.1 rfl (Nat.le_of_ble_eq_true rfl) dX3_joins_137 ⟨Nat.zero_le _, Nat.zero_le _⟩ (fun H locs I => ?_)
          refine lv_goto (tgt := 264) C.1 C.2.1 dX3_joins_140 (by decide) ?_
          obtain ⟨rfl, rfl, rfl⟩ := q_some3 hf
          exact q_vret C hr hlocks I dX3_joins_264
      have hf := q_if_f hf c69
      by_cases c83 : a 3 p2.toNatClampNeg = 5
      · have hf := q_if_t hf c83
        refine lv_tableIn (off := 78) (tgt := 143) C.1 C.2.1 dX3_joins_65 (by skip <;> rw [c83] <;> decide) (by skip <;> rw [c83] <;> decide) (by skip <;> rw [c83] <;> rfl) (by decide) ?_
        refine lv_aload_n C.1 C.2.1 dX3_joins_143 rfl (lv_at hl 2 rfl) ?_
        refine q_get_RX3_50 C hinX3 k50 I dX3_joins_144 ?_
        refine lv_iload_n C.1 C.2.1 dX3_joins_147 rfl (lv_at hl 3 rfl) ?_
        obtain ⟨b84, hf⟩ := q_ck_some hf
        refine q_ld_M_phase C b84 I dX3_joins_148 ?_
        refine lv_iconst (v := 1) C.1 C.2.1 dX3_joins_149 (by decide) ?_
        refine lv_icmp_ne (tgt := 181) C.1 C.2.1 dX3_joins_150 (by decide) (fun c85 => ?_) (fun c85 => ?_)
        · have hf := q_if_f hf c85
          refine lv_aload_n C.1 C.2.1 dX3_joins_181 rfl (lv_at hl 2 rfl) ?_
          refine lv_aload_n C.1 C.2.1 dX3_joins_182 rfl (lv_at hl 2 rfl) ?_
          refine q_get_RX3_128 C hinX3 k128 I dX3_joins_183 ?_
          obtain ⟨s86, a87, g88, h89, hf⟩ := q_cv_some hf
          refine q_callVv (As := [.int (s 29)]) (rest := []) C hml (c_X3_ends h89) (cwV 1 C.2.2.2.1 gX3_joins_X3_ends rfl rfl rfl e_X3_ends ⟨Nat.le_of_ble_eq_true rfl, Nat.le_of_ble_eq_true rfl⟩) I hA (q0 := 0) (ci := 3) rfl rfl rfl rfl hl.1 rfl (Nat.le_of_ble_eq_true rfl) dX3_joins_186 ⟨Nat.zero_le _, Nat.zero_le _⟩ (fun H locs I => ?_)
          refine lv_goto (tgt := 264) C.1 C.2.1 dX3_joins_189 (by decide) ?_
          obtain ⟨rfl, rfl, rfl⟩ := q_some3 hf
          exact q_vret C hr hlocks I dX3_joins_264
        · have hf := q_if_t hf c85
          refine lv_iload C.1 C.2.1 dX3_joins_153 (lv_at hl 0 rfl) ?_
          refine lv_if_eq (tgt := 181) C.1 C.2.1 dX3_joins_155 (by decide) (fun c91 => absurd c91 (by decide)) (fun _ => ?_)
          refine lv_aload_n C.1 C.2.1 dX3_joins_158 rfl (lv_at hl 2 rfl) ?_
          refine q_get_RX3_59 C hinX3 k59 I dX3_joins_159 ?_
          refine lv_iload_n C.1 C.2.1 dX3_joins_162 rfl (lv_at hl 3 rfl) ?_
          obtain ⟨b92, hf⟩ := q_ck_some hf
          refine q_ld_M_barred C b92 I dX3_joins_163 ?_
          refine lv_if_ne (tgt := 181) C.1 C.2.1 dX3_joins_164 (by decide) (fun c93 => ?_) (fun c93 => ?_)
          · have hf := q_if_f hf c93
            refine lv_aload_n C.1 C.2.1 dX3_joins_181 rfl (lv_at hl 2 rfl) ?_
            refine lv_aload_n C.1 C.2.1 dX3_joins_182 rfl (lv_at hl 2 rfl) ?_
            refine q_get_RX3_128 C hinX3 k128 I dX3_joins_183 ?_
            obtain ⟨s94, a95, g96, h97, hf⟩ := q_cv_some hf
            refine q_callVv (As := [.int (s 29)]) (rest := []) C hml (c_X3_ends h97) (cwV 1 C.2.2.2.1 gX3_joins_X3_ends rfl rfl rfl e_X3_ends ⟨Nat.le_of_ble_eq_true rfl, Nat.le_of_ble_eq_true rfl⟩) I hA (q0 := 0) (ci := 3) rfl rfl rfl rfl hl.1 rfl (Nat.le_of_ble_eq_true rfl) dX3_joins_186 ⟨Nat.zero_le _, Nat.zero_le _⟩ (fun H locs I => ?_)
            refine lv_goto (tgt := 264) C.1 C.2.1 dX3_joins_189 (by decide) ?_
            obtain ⟨rfl, rfl, rfl⟩ := q_some3 hf
            exact q_vret C hr hlocks I dX3_joins_264
          · have hf := q_if_t hf c93
            refine lv_aload_n C.1 C.2.1 dX3_joins_167 rfl (lv_at hl 2 rfl) ?_
            refine lv_aload_n C.1 C.2.1 dX3_joins_168 rfl (lv_at hl 2 rfl) ?_
            refine q_get_RX3_19 C hinX3 k19 I dX3_joins_169 ?_
            refine lv_iload_n C.1 C.2.1 dX3_joins_172 rfl (lv_at hl 4 rfl) ?_
            obtain ⟨b99, hf⟩ := q_ck_some hf
            refine q_ld_M_bs C b99 I dX3_joins_173 ?_
            refine lv_iload_n C.1 C.2.1 dX3_joins_174 rfl (lv_at hl 1 rfl) ?_
            obtain ⟨s100, a101, g102, h103, hf⟩ := q_cv_some hf
            refine q_callVv (As := [.int (a 5 p2.toNatClampNeg), .int (a 20 p1.toNatClampNeg)]) (rest := []) C hml (c_X3_asks h103) (cwV 2 C.2.2.2.1 gX3_joins_X3_asks rfl rfl rfl e_X3_asks ⟨Nat.le_of_ble_eq_true rfl, Nat.le_of_ble_eq_true rfl⟩) I hA (q0 := 0) (ci := 3) rfl rfl rfl rfl hl.1 rfl (Nat.le_of_ble_eq_true rfl) dX3_joins_175 ⟨Nat.zero_le _, Nat.zero_le _⟩ (fun H locs I => ?_)
            refine lv_goto (tgt := 264) C.1 C.2.1 dX3_joins_178 (by decide) ?_
            obtain ⟨rfl, rfl, rfl⟩ := q_some3 hf
            exact q_vret C hr hlocks I dX3_joins_264
      have hf := q_if_f hf c83
      by_cases c105 : a 3 p2.toNatClampNeg = 6
      · have hf := q_if_t hf c105
        refine lv_tableIn (off := 127) (tgt := 192) C.1 C.2.1 dX3_joins_65 (by skip <;> rw [c105] <;> decide) (by skip <;> rw [c105] <;> decide) (by skip <;> rw [c105] <;> rfl) (by decide) ?_
        refine lv_aload_n C.1 C.2.1 dX3_joins_192 rfl (lv_at hl 2 rfl) ?_
        refine lv_iload_n C.1 C.2.1 dX3_joins_193 rfl (lv_at hl 3 rfl) ?_
        refine lv_iload_n C.1 C.2.1 dX3_joins_194 rfl (lv_at hl 4 rfl) ?_
        refine lv_iload C.1 C.2.1 dX3_joins_195 (lv_at hl 0 rfl) ?_
        obtain ⟨s106, a107, g108, h109, hf⟩ := q_cv_some hf
        refine q_callVv (As := [.int p1, .int p2, .int 1]) (rest := []) C hml (c_X3_again h109) (cwV 3 C.2.2.2.1 gX3_joins_X3_again rfl rfl rfl e_X3_again ⟨Nat.le_of_ble_eq_true rfl, Nat.le_of_ble_eq_true rfl⟩) I hA (q0 := 0) (ci := 3) rfl rfl rfl rfl hl.1 rfl (Nat.le_of_ble_eq_true rfl) dX3_joins_197 ⟨Nat.zero_le _, Nat.zero_le _⟩ (fun H locs I => ?_)
        refine lv_goto (tgt := 264) C.1 C.2.1 dX3_joins_200 (by decide) ?_
        obtain ⟨rfl, rfl, rfl⟩ := q_some3 hf
        exact q_vret C hr hlocks I dX3_joins_264
      have hf := q_if_f hf c105
      by_cases c111 : a 3 p2.toNatClampNeg = 7
      · have hf := q_if_t hf c111
        refine lv_tableIn (off := 138) (tgt := 203) C.1 C.2.1 dX3_joins_65 (by skip <;> rw [c111] <;> decide) (by skip <;> rw [c111] <;> decide) (by skip <;> rw [c111] <;> rfl) (by decide) ?_
        refine lv_aload_n C.1 C.2.1 dX3_joins_203 rfl (lv_at hl 2 rfl) ?_
        refine lv_iload C.1 C.2.1 dX3_joins_204 (lv_at hl 0 rfl) ?_
        refine lv_if_eq (tgt := 213) C.1 C.2.1 dX3_joins_206 (by decide) (fun c112 => absurd c112 (by decide)) (fun _ => ?_)
        refine lv_iload_n C.1 C.2.1 dX3_joins_209 rfl (lv_at hl 1 rfl) ?_
        refine lv_goto (tgt := 217) C.1 C.2.1 dX3_joins_210 (by decide) ?_
        obtain ⟨s113, a114, g115, h116, hf⟩ := q_cv_some hf
        refine q_callVv (As := [.int (a 20 p1.toNatClampNeg)]) (rest := []) C hml (c_X3_ends h116) (cwV 1 C.2.2.2.1 gX3_joins_X3_ends rfl rfl rfl e_X3_ends ⟨Nat.le_of_ble_eq_true rfl, Nat.le_of_ble_eq_true rfl⟩) I hA (q0 := 0) (ci := 3) rfl rfl rfl rfl hl.1 rfl (Nat.le_of_ble_eq_true rfl) dX3_joins_217 ⟨Nat.zero_le _, Nat.zero_le _⟩ (fun H locs I => ?_)
        refine lv_goto (tgt := 264) C.1 C.2.1 dX3_joins_220 (by decide) ?_
        obtain ⟨rfl, rfl, rfl⟩ := q_some3 hf
        exact q_vret C hr hlocks I dX3_joins_264
      have hf := q_if_f hf c111
      by_cases c118 : a 3 p2.toNatClampNeg = 8
      · have hf := q_if_t hf c118
        refine lv_tableIn (off := 158) (tgt := 223) C.1 C.2.1 dX3_joins_65 (by skip <;> rw [c118] <;> decide) (by skip <;> rw [c118] <;> decide) (by skip <;> rw [c118] <;> rfl) (by decide) ?_
        refine lv_aload_n C.1 C.2.1 dX3_joins_223 rfl (lv_at hl 2 rfl) ?_
        refine lv_iload C.1 C.2.1 dX3_joins_224 (lv_at hl 0 rfl) ?_
        refine lv_if_eq (tgt := 233) C.1 C.2.1 dX3_joins_226 (by decide) (fun c119 => absurd c119 (by decide)) (fun _ => ?_)
        refine lv_iload_n C.1 C.2.1 dX3_joins_229 rfl (lv_at hl 1 rfl) ?_
        refine lv_goto (tgt := 234) C.1 C.2.1 dX3_joins_230 (by decide) ?_
        obtain ⟨s120, a121, g122, h123, hf⟩ := q_cv_some hf
        refine q_callVv (As := [.int (a 20 p1.toNatClampNeg)]) (rest := []) C hml (c_X3_ends h123) (cwV 1 C.2.2.2.1 gX3_joins_X3_ends rfl rfl rfl e_X3_ends ⟨Nat.le_of_ble_eq_true rfl, Nat.le_of_ble_eq_true rfl⟩) I hA (q0 := 0) (ci := 3) rfl rfl rfl rfl hl.1 rfl (Nat.le_of_ble_eq_true rfl) dX3_joins_234 ⟨Nat.zero_le _, Nat.zero_le _⟩ (fun H locs I => ?_)
        refine lv_goto (tgt := 264) C.1 C.2.1 dX3_joins_237 (by decide) ?_
        obtain ⟨rfl, rfl, rfl⟩ := q_some3 hf
        exact q_vret C hr hlocks I dX3_joins_264
      have hf := q_if_f hf c118
      refine lv_tableOut (tgt := 240) C.1 C.2.1 dX3_joins_65 (by
        refine q_out (fun k k1 k2 => ?_)
        have k3 : k = 4 ∨ k = 5 ∨ k = 6 ∨ k = 7 ∨ k = 8 := by omega
        rcases k3 with rfl | rfl | rfl | rfl | rfl
        · exact fun z => c69 (z)
        · exact fun z => c83 (z)
        · exact fun z => c105 (z)
        · exact fun z => c111 (z)
        · exact fun z => c118 (z)
        ) (by decide) ?_
      refine lv_iload C.1 C.2.1 dX3_joins_240 (lv_at hl 0 rfl) ?_
      refine lv_if_ne (tgt := 250) C.1 C.2.1 dX3_joins_242 (by decide) (fun _ => ?_) (fun c125 => absurd c125 (by decide))
      refine lv_aload_n C.1 C.2.1 dX3_joins_250 rfl (lv_at hl 2 rfl) ?_
      refine lv_iload C.1 C.2.1 dX3_joins_251 (lv_at hl 0 rfl) ?_
      refine lv_if_eq (tgt := 260) C.1 C.2.1 dX3_joins_253 (by decide) (fun c126 => absurd c126 (by decide)) (fun _ => ?_)
      refine lv_iconst (v := (-1)) C.1 C.2.1 dX3_joins_256 (by decide) ?_
      refine lv_goto (tgt := 261) C.1 C.2.1 dX3_joins_257 (by decide) ?_
      obtain ⟨s127, a128, g129, h130, hf⟩ := q_cv_some hf
      refine q_callVv (As := [.int (-1)]) (rest := []) C hml (c_X3_ends h130) (cwV 1 C.2.2.2.1 gX3_joins_X3_ends rfl rfl rfl e_X3_ends ⟨Nat.le_of_ble_eq_true rfl, Nat.le_of_ble_eq_true rfl⟩) I hA (q0 := 0) (ci := 3) rfl rfl rfl rfl hl.1 rfl (Nat.le_of_ble_eq_true rfl) dX3_joins_261 ⟨Nat.zero_le _, Nat.zero_le _⟩ (fun H locs I => ?_)
      obtain ⟨rfl, rfl, rfl⟩ := q_some3 hf
      exact q_vret C hr hlocks I dX3_joins_264
  · have hf := q_if_t hf c3
    refine lv_aload_n C.1 C.2.1 dX3_joins_16 rfl (lv_at hl 1 rfl) ?_
    refine q_get_RX3_13 C hinX3 k13 I dX3_joins_17 ?_
    refine lv_iload_n C.1 C.2.1 dX3_joins_20 rfl (lv_at hl 3 rfl) ?_
    obtain ⟨b133, hf⟩ := q_ck_some hf
    refine q_ld_M_sorts C b133 I dX3_joins_21 ?_
    refine lv_bipush (v := 6) C.1 C.2.1 dX3_joins_22 (by decide) ?_
    refine lv_icmp_ne (tgt := 32) C.1 C.2.1 dX3_joins_24 (by decide) (fun c134 => ?_) (fun c134 => ?_)
    · have hf := q_if_f hf c134
      refine lv_aload_n C.1 C.2.1 dX3_joins_32 rfl (lv_at hl 1 rfl) ?_
      refine lv_aload_n C.1 C.2.1 dX3_joins_33 rfl (lv_at hl 1 rfl) ?_
      refine q_get_RX3_16 C hinX3 k16 I dX3_joins_34 ?_
      refine lv_iload_n C.1 C.2.1 dX3_joins_37 rfl (lv_at hl 3 rfl) ?_
      obtain ⟨b135, hf⟩ := q_ck_some hf
      refine q_ld_M_as C b135 I dX3_joins_38 ?_
      refine lv_iload_n C.1 C.2.1 dX3_joins_39 rfl (lv_at hl 0 rfl) ?_
      obtain ⟨s136, a137, g138, h139, hf⟩ := q_cv_some hf
      refine q_callVv (As := [.int (a 4 p2.toNatClampNeg), .int (a 20 p1.toNatClampNeg)]) (rest := []) C hml (c_X3_asks h139) (cwV 2 C.2.2.2.1 gX3_joins_X3_asks rfl rfl rfl e_X3_asks ⟨Nat.le_of_ble_eq_true rfl, Nat.le_of_ble_eq_true rfl⟩) I hA (q0 := 0) (ci := 3) rfl rfl rfl rfl hl.1 rfl (Nat.le_of_ble_eq_true rfl) dX3_joins_40 ⟨Nat.zero_le _, Nat.zero_le _⟩ (fun H locs I => ?_)
      obtain ⟨rfl, rfl, rfl⟩ := q_some3 hf
      exact q_vret C hr hlocks I dX3_joins_43
    · have hf := q_if_t hf c134
      refine lv_aload_n C.1 C.2.1 dX3_joins_27 rfl (lv_at hl 1 rfl) ?_
      refine lv_iload_n C.1 C.2.1 dX3_joins_28 rfl (lv_at hl 2 rfl) ?_
      obtain ⟨s141, a142, g143, h144, hf⟩ := q_cv_some hf
      refine q_callVv (As := [.int p1]) (rest := []) C hml (c_X3_keep h144) (cwV 1 C.2.2.2.1 gX3_joins_X3_keep rfl rfl rfl e_X3_keep ⟨Nat.le_of_ble_eq_true rfl, Nat.le_of_ble_eq_true rfl⟩) I hA (q0 := 0) (ci := 3) rfl rfl rfl rfl hl.1 rfl (Nat.le_of_ble_eq_true rfl) dX3_joins_29 ⟨Nat.zero_le _, Nat.zero_le _⟩ (fun H locs I => ?_)
      refine lv_aload_n C.1 C.2.1 dX3_joins_32 rfl (lv_at hl 1 rfl) ?_
      refine lv_aload_n C.1 C.2.1 dX3_joins_33 rfl (lv_at hl 1 rfl) ?_
      refine q_get_RX3_16 C hinX3 k16 I dX3_joins_34 ?_
      refine lv_iload_n C.1 C.2.1 dX3_joins_37 rfl (lv_at hl 3 rfl) ?_
      obtain ⟨b146, hf⟩ := q_ck_some hf
      refine q_ld_M_as C b146 I dX3_joins_38 ?_
      refine lv_iload_n C.1 C.2.1 dX3_joins_39 rfl (lv_at hl 0 rfl) ?_
      obtain ⟨s147, a148, g149, h150, hf⟩ := q_cv_some hf
      refine q_callVv (As := [.int (a142 4 p2.toNatClampNeg), .int (a 20 p1.toNatClampNeg)]) (rest := []) C hml (c_X3_asks h150) (cwV 2 C.2.2.2.1 gX3_joins_X3_asks rfl rfl rfl e_X3_asks ⟨Nat.le_of_ble_eq_true rfl, Nat.le_of_ble_eq_true rfl⟩) I hA (q0 := 0) (ci := 3) rfl rfl rfl rfl hl.1 rfl (Nat.le_of_ble_eq_true rfl) dX3_joins_40 ⟨Nat.zero_le _, Nat.zero_le _⟩ (fun H locs I => ?_)
      obtain ⟨rfl, rfl, rfl⟩ := q_some3 hf
      exact q_vret C hr hlocks I dX3_joins_43
def f_X3_bars_lb (F : q_s → q_a → q_g → Int32 → Int32 → Option q_S) (s : q_s) (a : q_a) (g : q_g) (x1 : Int32) (x2 : Int32) : Option q_S :=
 if x2 < 0 then
  if x2 < 0 then
   some (s, a, g)
  else
   q_ck x2 150 <|
   q_bd (q_ua a 22 x2.toNatClampNeg (vp_nar .boolean 1)) fun a5 =>
   some (s, a5, g)
 else
  q_ck x2 150 <|
  q_ck (a 18 x2.toNatClampNeg) 50 <|
  if a 3 ((a 18 x2.toNatClampNeg).toNatClampNeg) = 5 then
   q_ck x2 150 <|
   if a 19 x2.toNatClampNeg = 1 then
    if x2 < 0 then
     some (s, a, g)
    else
     q_ck x2 150 <|
     q_bd (q_ua a 22 x2.toNatClampNeg (vp_nar .boolean 1)) fun a14 =>
     some (s, a14, g)
   else
     F s a g x1 (x2 + (-1))
  else
    F s a g x1 (x2 + (-1))
def f_X3_bars_lp (k : Nat) : q_s → q_a → q_g → Int32 → Int32 → Option q_S := match k with
  | 0 => fun _ _ _ _ _ => none
  | k + 1 => fun s a g x1 x2 => f_X3_bars_lb (f_X3_bars_lp k) s a g x1 x2
def f_X3_bars (n : Nat) (s : q_s) (a : q_a) (g : q_g) (p1 : Int32) : Option q_S :=
 f_X3_bars_lp n s a g p1 (p1 - 1)
theorem e_X3_bars : yX3_bars.cls = RX3 ∧ yX3_bars.cls ≠ "java/lang/invoke/MethodHandle" ∧ yX3_bars.cls ≠ "java/lang/invoke/VarHandle" ∧ (parseMethodDescriptor yX3_bars.desc).map (fun d => d.parameters.length) = some 1 := by decide +kernel
set_option maxHeartbeats 4000000 in
set_option maxRecDepth 100000 in
theorem c_X3_bars {l : Launch} {D : va_G} {h : Nat} {ad : Nat → Nat} {ca : Nat → ClassId} {n : Nat} {s s9 : q_s} {a a9 : q_a} {g g9 : q_g} {p1 : Int32} (hf : f_X3_bars n s a g p1 = some (s9, a9, g9)) : q_Mv l yX3_bars wsX3_bars ({ frames := 0, cells := 0, slots := 0, locals := 0 }) D (q_tM ca) (q_wM h ad ca) [.ref h, .int p1] s a g s9 a9 g9 := by
  unfold f_X3_bars at hf
  refine q_entV (cc := cX3_bars) (maxL := 3) (ret := none) (by decide) rfl (Nat.le_of_ble_eq_true rfl) ?_
  intro p e st m args below meth c A ls C hr hlocks hml hA I hl
  have hl : lv_has ls 3 [(0, .ref h), (1, .int p1)] := hl
  have hinX3 : ∀ w ∈ wsX30, w ∈ wsX3_bars := fun _ h => List.mem_cons_of_mem _ (List.mem_append_right _ h)
  have k59 : Cond.fieldLink RX3 59 "ReaderYardModel" "barred" "[Z" ∈ wsX3_bars := by decide +kernel
  have k13 : Cond.fieldLink RX3 13 "ReaderYardModel" "sorts" "[I" ∈ wsX3_bars := by decide +kernel
  have k47 : Cond.fieldLink RX3 47 "ReaderYardModel" "reader" "[I" ∈ wsX3_bars := by decide +kernel
  have k50 : Cond.fieldLink RX3 50 "ReaderYardModel" "phase" "[I" ∈ wsX3_bars := by decide +kernel
  have lp : ∀ (k : Nat) (s : q_s) (a : q_a) (g : q_g) (x1 : Int32) (x2 : Int32) (H : Heap) (locs : List Loc) (ls : Array Slot), f_X3_bars_lp k s a g x1 x2 = some (s9, a9, g9) → q_I D A st.heap H locs (q_wM h ad ca s a g) → lv_has ls 3 [(0, .ref h), (1, .int x1), (2, .int x2)] → W p l e ({ frames := 0, cells := 0, slots := 0, locals := 0 }) st m args below meth c H locs 0 0 (MQ below (va_Qv (fun u : q_S => u = (s9, a9, g9)) (q_B D (q_tM ca) (q_wM h ad ca) A) A) args st 0 0 A) (F0 m 4 ls []) := by
    intro k
    induction k with
    | zero => intro s a g x1 x2 H locs ls hf; exact absurd hf (by simp [f_X3_bars_lp])
    | succ k ih =>
      intro s a g x1 x2 H locs ls hf I hl
      have hf : f_X3_bars_lb (f_X3_bars_lp k) s a g x1 x2 = some (s9, a9, g9) := hf
      unfold f_X3_bars_lb at hf
      refine lv_iload_n C.1 C.2.1 dX3_bars_4 rfl (lv_at hl 2 rfl) ?_
      refine lv_if_lt (tgt := 39) C.1 C.2.1 dX3_bars_5 (by decide) (fun c1 => ?_) (fun c1 => ?_)
      · have hf := q_if_t hf c1
        refine lv_iload_n C.1 C.2.1 dX3_bars_39 rfl (lv_at hl 2 rfl) ?_
        refine lv_if_lt (tgt := 50) C.1 C.2.1 dX3_bars_40 (by decide) (fun c2 => ?_) (fun c2 => ?_)
        · have hf := q_if_t hf c2
          obtain ⟨rfl, rfl, rfl⟩ := q_some3 hf
          exact q_vret C hr hlocks I dX3_bars_50
        · have hf := q_if_f hf c2
          refine lv_aload_n C.1 C.2.1 dX3_bars_43 rfl (lv_at hl 0 rfl) ?_
          refine q_get_RX3_59 C hinX3 k59 I dX3_bars_44 ?_
          refine lv_iload_n C.1 C.2.1 dX3_bars_47 rfl (lv_at hl 2 rfl) ?_
          refine lv_iconst (v := 1) C.1 C.2.1 dX3_bars_48 (by decide) ?_
          obtain ⟨b3, hf⟩ := q_ck_some hf
          obtain ⟨a5, e4, hf⟩ := q_bd_some hf
          refine q_st_M_barred C b3 e4 I dX3_bars_49 (fun H locs I => ?_)
          obtain ⟨rfl, rfl, rfl⟩ := q_some3 hf
          exact q_vret C hr hlocks I dX3_bars_50
      · have hf := q_if_f hf c1
        refine lv_aload_n C.1 C.2.1 dX3_bars_8 rfl (lv_at hl 0 rfl) ?_
        refine q_get_RX3_13 C hinX3 k13 I dX3_bars_9 ?_
        refine lv_aload_n C.1 C.2.1 dX3_bars_12 rfl (lv_at hl 0 rfl) ?_
        refine q_get_RX3_47 C hinX3 k47 I dX3_bars_13 ?_
        refine lv_iload_n C.1 C.2.1 dX3_bars_16 rfl (lv_at hl 2 rfl) ?_
        obtain ⟨b6, hf⟩ := q_ck_some hf
        refine q_ld_M_reader C b6 I dX3_bars_17 ?_
        obtain ⟨b7, hf⟩ := q_ck_some hf
        refine q_ld_M_sorts C b7 I dX3_bars_18 ?_
        refine lv_iconst (v := 5) C.1 C.2.1 dX3_bars_19 (by decide) ?_
        refine lv_icmp_ne (tgt := 33) C.1 C.2.1 dX3_bars_20 (by decide) (fun c8 => ?_) (fun c8 => ?_)
        · have hf := q_if_f hf c8
          refine lv_iinc (v := x2 + (-1)) (lv' := [(2, .int (x2 + (-1))), (0, .ref h), (1, .int x1)]) C.1 C.2.1 dX3_bars_33 hl (k := 2) rfl rfl (by decide) rfl (fun ls hl => ?_)
          refine lv_goto (tgt := 4) C.1 C.2.1 dX3_bars_36 (by decide) ?_
          exact ih _ _ _ _ _ _ _ _ hf I (lv_sub hl [1, 2, 0] rfl)
        · have hf := q_if_t hf c8
          refine lv_aload_n C.1 C.2.1 dX3_bars_23 rfl (lv_at hl 0 rfl) ?_
          refine q_get_RX3_50 C hinX3 k50 I dX3_bars_24 ?_
          refine lv_iload_n C.1 C.2.1 dX3_bars_27 rfl (lv_at hl 2 rfl) ?_
          obtain ⟨b9, hf⟩ := q_ck_some hf
          refine q_ld_M_phase C b9 I dX3_bars_28 ?_
          refine lv_iconst (v := 1) C.1 C.2.1 dX3_bars_29 (by decide) ?_
          refine lv_icmp_eq (tgt := 39) C.1 C.2.1 dX3_bars_30 (by decide) (fun c10 => ?_) (fun c10 => ?_)
          · have hf := q_if_t hf c10
            refine lv_iload_n C.1 C.2.1 dX3_bars_39 rfl (lv_at hl 2 rfl) ?_
            refine lv_if_lt (tgt := 50) C.1 C.2.1 dX3_bars_40 (by decide) (fun c11 => ?_) (fun c11 => ?_)
            · have hf := q_if_t hf c11
              obtain ⟨rfl, rfl, rfl⟩ := q_some3 hf
              exact q_vret C hr hlocks I dX3_bars_50
            · have hf := q_if_f hf c11
              refine lv_aload_n C.1 C.2.1 dX3_bars_43 rfl (lv_at hl 0 rfl) ?_
              refine q_get_RX3_59 C hinX3 k59 I dX3_bars_44 ?_
              refine lv_iload_n C.1 C.2.1 dX3_bars_47 rfl (lv_at hl 2 rfl) ?_
              refine lv_iconst (v := 1) C.1 C.2.1 dX3_bars_48 (by decide) ?_
              obtain ⟨b12, hf⟩ := q_ck_some hf
              obtain ⟨a14, e13, hf⟩ := q_bd_some hf
              refine q_st_M_barred C b12 e13 I dX3_bars_49 (fun H locs I => ?_)
              obtain ⟨rfl, rfl, rfl⟩ := q_some3 hf
              exact q_vret C hr hlocks I dX3_bars_50
          · have hf := q_if_f hf c10
            refine lv_iinc (v := x2 + (-1)) (lv' := [(2, .int (x2 + (-1))), (0, .ref h), (1, .int x1)]) C.1 C.2.1 dX3_bars_33 hl (k := 2) rfl rfl (by decide) rfl (fun ls hl => ?_)
            refine lv_goto (tgt := 4) C.1 C.2.1 dX3_bars_36 (by decide) ?_
            exact ih _ _ _ _ _ _ _ _ hf I (lv_sub hl [1, 2, 0] rfl)
  refine lv_iload_n C.1 C.2.1 dX3_bars_0 rfl (lv_at hl 1 rfl) ?_
  refine lv_iconst (v := 1) C.1 C.2.1 dX3_bars_1 (by decide) ?_
  refine lv_isub C.1 C.2.1 dX3_bars_2 ?_
  refine lv_istore_n (lv' := [(2, .int (p1 - 1)), (0, .ref h), (1, .int p1)]) C.1 C.2.1 dX3_bars_3 rfl hl (by decide) rfl (fun ls hl => ?_)
  exact lp n _ _ _ _ _ _ _ _ hf I (lv_sub hl [1, 2, 0] rfl)
def f_X3_figure (s : q_s) (a : q_a) (g : q_g) (p1 : Int32) : Option q_S :=
 if s 1 ≤ p1 then
  q_cv (f_X3_ends s a g (-1)) fun s2 a3 g4 =>
  some (s2, a3, g4)
 else
  q_ck p1 200 <|
  q_ci (f_X3_in s a g (a 0 p1.toNatClampNeg) 48 57) fun r12 s8 a9 g10 =>
  if r12 = 0 then
   q_cv (f_X3_ends s8 a9 g10 (-1)) fun s30 a31 g32 =>
   some (s30, a31, g32)
  else
   if s8 12 = 0 then
    q_bd (q_us s8 30 3) fun s28 =>
    some (s28, a9, g10)
   else
    q_ck (s8 12) 3001 <|
    q_ck p1 200 <|
    q_ck (s8 12) 3001 <|
    q_cv (f_X3_lay s8 a9 g10 (((10 * (g10 ((s8 12).toNatClampNeg))) + ((a9 0 p1.toNatClampNeg).toInt64)) - 48) (a9 9 ((s8 12).toNatClampNeg))) fun s18 a19 g20 =>
    q_cv (f_X3_ends s18 a19 g20 (p1 + 1)) fun s23 a24 g25 =>
    some (s23, a24, g25)
theorem e_X3_figure : yX3_figure.cls = RX3 ∧ yX3_figure.cls ≠ "java/lang/invoke/MethodHandle" ∧ yX3_figure.cls ≠ "java/lang/invoke/VarHandle" ∧ (parseMethodDescriptor yX3_figure.desc).map (fun d => d.parameters.length) = some 1 := by decide +kernel
set_option maxHeartbeats 4000000 in
set_option maxRecDepth 100000 in
theorem c_X3_figure {l : Launch} {D : va_G} {h : Nat} {ad : Nat → Nat} {ca : Nat → ClassId} {s s9 : q_s} {a a9 : q_a} {g g9 : q_g} {p1 : Int32} (hf : f_X3_figure s a g p1 = some (s9, a9, g9)) : q_Mv l yX3_figure wsX3_figure ({ frames := 2, cells := 0, slots := 0, locals := 42 }) D (q_tM ca) (q_wM h ad ca) [.ref h, .int p1] s a g s9 a9 g9 := by
  unfold f_X3_figure at hf
  refine q_entV (cc := cX3_figure) (maxL := 2) (ret := none) (by decide) rfl (Nat.le_of_ble_eq_true rfl) ?_
  intro p e st m args below meth c A ls C hr hlocks hml hA I hl
  have hl : lv_has ls 2 [(0, .ref h), (1, .int p1)] := hl
  have hinX3 : ∀ w ∈ wsX30, w ∈ wsX3_figure := fun _ h => List.mem_cons_of_mem _ (List.mem_append_right _ h)
  have k89 : Cond.fieldLink RX3 89 "ReaderYardModel" "length" "I" ∈ wsX3_figure := by decide +kernel
  have k7 : Cond.fieldLink RX3 7 "ReaderYardModel" "signs" "[I" ∈ wsX3_figure := by decide +kernel
  have k108 : Cond.fieldLink RX3 108 "ReaderYardModel" "onTop" "I" ∈ wsX3_figure := by decide +kernel
  have k166 : Cond.constantLong RX3 166 (10) ∈ wsX3_figure := by decide +kernel
  have k28 : Cond.fieldLink RX3 28 "ReaderYardModel" "laid" "[J" ∈ wsX3_figure := by decide +kernel
  have k168 : Cond.constantLong RX3 168 (48) ∈ wsX3_figure := by decide +kernel
  have k32 : Cond.fieldLink RX3 32 "ReaderYardModel" "below" "[I" ∈ wsX3_figure := by decide +kernel
  have k99 : Cond.fieldLink RX3 99 "ReaderYardModel" "fault" "I" ∈ wsX3_figure := by decide +kernel
  refine lv_iload_n C.1 C.2.1 dX3_figure_0 rfl (lv_at hl 1 rfl) ?_
  refine lv_aload_n C.1 C.2.1 dX3_figure_1 rfl (lv_at hl 0 rfl) ?_
  refine q_get_RX3_89 C hinX3 k89 I dX3_figure_2 ?_
  refine lv_icmp_ge (tgt := 24) C.1 C.2.1 dX3_figure_5 (by decide) (fun c1 => ?_) (fun c1 => ?_)
  · have hf := q_if_t hf c1
    refine lv_aload_n C.1 C.2.1 dX3_figure_24 rfl (lv_at hl 0 rfl) ?_
    refine lv_iconst (v := (-1)) C.1 C.2.1 dX3_figure_25 (by decide) ?_
    obtain ⟨s2, a3, g4, h5, hf⟩ := q_cv_some hf
    refine q_callVv (As := [.int (-1)]) (rest := []) C hml (c_X3_ends h5) (cwV 1 C.2.2.2.1 gX3_figure_X3_ends rfl rfl rfl e_X3_ends ⟨Nat.le_of_ble_eq_true rfl, Nat.le_of_ble_eq_true rfl⟩) I hA (q0 := 0) (ci := 3) rfl rfl rfl rfl hl.1 rfl (Nat.le_of_ble_eq_true rfl) dX3_figure_26 ⟨Nat.zero_le _, Nat.zero_le _⟩ (fun H locs I => ?_)
    refine lv_goto (tgt := 92) C.1 C.2.1 dX3_figure_29 (by decide) ?_
    obtain ⟨rfl, rfl, rfl⟩ := q_some3 hf
    exact q_vret C hr hlocks I dX3_figure_92
  · have hf := q_if_f hf c1
    refine lv_aload_n C.1 C.2.1 dX3_figure_8 rfl (lv_at hl 0 rfl) ?_
    refine q_get_RX3_7 C hinX3 k7 I dX3_figure_9 ?_
    refine lv_iload_n C.1 C.2.1 dX3_figure_12 rfl (lv_at hl 1 rfl) ?_
    obtain ⟨b7, hf⟩ := q_ck_some hf
    refine q_ld_M_signs C b7 I dX3_figure_13 ?_
    refine lv_bipush (v := 48) C.1 C.2.1 dX3_figure_14 (by decide) ?_
    refine lv_bipush (v := 57) C.1 C.2.1 dX3_figure_16 (by decide) ?_
    obtain ⟨r12, s8, a9, g10, h11, hf⟩ := q_ci_some hf
    refine q_callSi (As := [.int (a 0 p1.toNatClampNeg), .int 48, .int 57]) (rest := []) C hml (c_X3_in h11) (va_cwS 3 C.2.2.2.1 gX3_figure_X3_in rfl rfl rfl e_X3_in ⟨Nat.le_of_ble_eq_true rfl, Nat.le_of_ble_eq_true rfl⟩) I hA rfl hl.1 rfl (Nat.le_of_ble_eq_true rfl) dX3_figure_18 ⟨Nat.zero_le _, Nat.zero_le _⟩ (fun H locs I => ?_)
    refine lv_if_ne (tgt := 32) C.1 C.2.1 dX3_figure_21 (by decide) (fun c13 => ?_) (fun c13 => ?_)
    · have hf := q_if_f hf c13
      refine lv_aload_n C.1 C.2.1 dX3_figure_32 rfl (lv_at hl 0 rfl) ?_
      refine q_get_RX3_108 C hinX3 k108 I dX3_figure_33 ?_
      refine lv_if_ne (tgt := 47) C.1 C.2.1 dX3_figure_36 (by decide) (fun c14 => ?_) (fun c14 => ?_)
      · have hf := q_if_f hf c14
        refine lv_aload_n C.1 C.2.1 dX3_figure_47 rfl (lv_at hl 0 rfl) ?_
        refine lv_ldc2 (v := 10) C.1 C.2.1 C.2.2.1 (C.2.2.2.1 _ k166) dX3_figure_48 ?_
        refine lv_aload_n C.1 C.2.1 dX3_figure_51 rfl (lv_at hl 0 rfl) ?_
        refine q_get_RX3_28 C hinX3 k28 I dX3_figure_52 ?_
        refine lv_aload_n C.1 C.2.1 dX3_figure_55 rfl (lv_at hl 0 rfl) ?_
        refine q_get_RX3_108 C hinX3 k108 I dX3_figure_56 ?_
        obtain ⟨b15, hf⟩ := q_ck_some hf
        refine q_ld_M_laid C b15 I dX3_figure_59 ?_
        refine lv_lmul C.1 C.2.1 dX3_figure_60 ?_
        refine lv_aload_n C.1 C.2.1 dX3_figure_61 rfl (lv_at hl 0 rfl) ?_
        refine q_get_RX3_7 C hinX3 k7 I dX3_figure_62 ?_
        refine lv_iload_n C.1 C.2.1 dX3_figure_65 rfl (lv_at hl 1 rfl) ?_
        obtain ⟨b16, hf⟩ := q_ck_some hf
        refine q_ld_M_signs C b16 I dX3_figure_66 ?_
        refine lv_i2l (v := (a9 0 p1.toNatClampNeg).toInt64) C.1 C.2.1 dX3_figure_67 rfl ?_
        refine lv_ladd C.1 C.2.1 dX3_figure_68 ?_
        refine lv_ldc2 (v := 48) C.1 C.2.1 C.2.2.1 (C.2.2.2.1 _ k168) dX3_figure_69 ?_
        refine lv_lsub C.1 C.2.1 dX3_figure_72 ?_
        refine lv_aload_n C.1 C.2.1 dX3_figure_73 rfl (lv_at hl 0 rfl) ?_
        refine q_get_RX3_32 C hinX3 k32 I dX3_figure_74 ?_
        refine lv_aload_n C.1 C.2.1 dX3_figure_77 rfl (lv_at hl 0 rfl) ?_
        refine q_get_RX3_108 C hinX3 k108 I dX3_figure_78 ?_
        obtain ⟨b17, hf⟩ := q_ck_some hf
        refine q_ld_M_below C b17 I dX3_figure_81 ?_
        obtain ⟨s18, a19, g20, h21, hf⟩ := q_cv_some hf
        refine q_callVv (As := [.long (((10 * (g10 ((s8 12).toNatClampNeg))) + ((a9 0 p1.toNatClampNeg).toInt64)) - 48), .int (a9 9 ((s8 12).toNatClampNeg))]) (rest := []) C hml (c_X3_lay h21) (cwV 2 C.2.2.2.1 gX3_figure_X3_lay rfl rfl rfl e_X3_lay ⟨Nat.le_of_ble_eq_true rfl, Nat.le_of_ble_eq_true rfl⟩) I hA (q0 := 0) (ci := 3) rfl rfl rfl rfl hl.1 rfl (Nat.le_of_ble_eq_true rfl) dX3_figure_82 ⟨Nat.zero_le _, Nat.zero_le _⟩ (fun H locs I => ?_)
        refine lv_aload_n C.1 C.2.1 dX3_figure_85 rfl (lv_at hl 0 rfl) ?_
        refine lv_iload_n C.1 C.2.1 dX3_figure_86 rfl (lv_at hl 1 rfl) ?_
        refine lv_iconst (v := 1) C.1 C.2.1 dX3_figure_87 (by decide) ?_
        refine lv_iadd C.1 C.2.1 dX3_figure_88 ?_
        obtain ⟨s23, a24, g25, h26, hf⟩ := q_cv_some hf
        refine q_callVv (As := [.int (p1 + 1)]) (rest := []) C hml (c_X3_ends h26) (cwV 1 C.2.2.2.1 gX3_figure_X3_ends rfl rfl rfl e_X3_ends ⟨Nat.le_of_ble_eq_true rfl, Nat.le_of_ble_eq_true rfl⟩) I hA (q0 := 0) (ci := 3) rfl rfl rfl rfl hl.1 rfl (Nat.le_of_ble_eq_true rfl) dX3_figure_89 ⟨Nat.zero_le _, Nat.zero_le _⟩ (fun H locs I => ?_)
        obtain ⟨rfl, rfl, rfl⟩ := q_some3 hf
        exact q_vret C hr hlocks I dX3_figure_92
      · have hf := q_if_t hf c14
        refine lv_aload_n C.1 C.2.1 dX3_figure_39 rfl (lv_at hl 0 rfl) ?_
        refine lv_iconst (v := 3) C.1 C.2.1 dX3_figure_40 (by decide) ?_
        obtain ⟨s28, e29, hf⟩ := q_bd_some hf
        refine q_put_RX3_99 C hinX3 k99 e29 I dX3_figure_41 (fun H locs I => ?_)
        refine lv_goto (tgt := 92) C.1 C.2.1 dX3_figure_44 (by decide) ?_
        obtain ⟨rfl, rfl, rfl⟩ := q_some3 hf
        exact q_vret C hr hlocks I dX3_figure_92
    · have hf := q_if_t hf c13
      refine lv_aload_n C.1 C.2.1 dX3_figure_24 rfl (lv_at hl 0 rfl) ?_
      refine lv_iconst (v := (-1)) C.1 C.2.1 dX3_figure_25 (by decide) ?_
      obtain ⟨s30, a31, g32, h33, hf⟩ := q_cv_some hf
      refine q_callVv (As := [.int (-1)]) (rest := []) C hml (c_X3_ends h33) (cwV 1 C.2.2.2.1 gX3_figure_X3_ends rfl rfl rfl e_X3_ends ⟨Nat.le_of_ble_eq_true rfl, Nat.le_of_ble_eq_true rfl⟩) I hA (q0 := 0) (ci := 3) rfl rfl rfl rfl hl.1 rfl (Nat.le_of_ble_eq_true rfl) dX3_figure_26 ⟨Nat.zero_le _, Nat.zero_le _⟩ (fun H locs I => ?_)
      refine lv_goto (tgt := 92) C.1 C.2.1 dX3_figure_29 (by decide) ?_
      obtain ⟨rfl, rfl, rfl⟩ := q_some3 hf
      exact q_vret C hr hlocks I dX3_figure_92
def f_X3_acts (s : q_s) (a : q_a) (g : q_g) (p1 : Int32) (p2 : Int32) : Option q_S :=
 q_ci (f_X3_height s a g) fun r5 s1 a2 g3 =>
 if 2 ≤ r5 then
  q_ck (s1 12) 3001 <|
  q_ck (s1 12) 3001 <|
  q_ck (a2 9 ((s1 12).toNatClampNeg)) 3001 <|
  if p2 = 3 then
   if lg_cmp (g3 ((s1 12).toNatClampNeg)) 0 = 0 then
    q_bd (q_us s1 30 2) fun s116 =>
    some (s116, a2, g3)
   else
    if p2 = 0 then
     q_ck (s1 12) 3001 <|
     q_ck (a2 9 ((s1 12).toNatClampNeg)) 3001 <|
     q_cv (f_X3_lay s1 a2 g3 ((g3 ((a2 9 ((s1 12).toNatClampNeg)).toNatClampNeg)) + (g3 ((s1 12).toNatClampNeg))) (a2 9 ((a2 9 ((s1 12).toNatClampNeg)).toNatClampNeg))) fun s106 a107 g108 =>
     q_cv (f_X3_ends s106 a107 g108 p1) fun s111 a112 g113 =>
     some (s111, a112, g113)
    else
     if p2 = 1 then
      q_ck (s1 12) 3001 <|
      q_ck (a2 9 ((s1 12).toNatClampNeg)) 3001 <|
      q_cv (f_X3_lay s1 a2 g3 ((g3 ((a2 9 ((s1 12).toNatClampNeg)).toNatClampNeg)) - (g3 ((s1 12).toNatClampNeg))) (a2 9 ((a2 9 ((s1 12).toNatClampNeg)).toNatClampNeg))) fun s94 a95 g96 =>
      q_cv (f_X3_ends s94 a95 g96 p1) fun s99 a100 g101 =>
      some (s99, a100, g101)
     else
      if p2 = 2 then
       q_ck (s1 12) 3001 <|
       q_ck (a2 9 ((s1 12).toNatClampNeg)) 3001 <|
       q_cv (f_X3_lay s1 a2 g3 ((g3 ((a2 9 ((s1 12).toNatClampNeg)).toNatClampNeg)) * (g3 ((s1 12).toNatClampNeg))) (a2 9 ((a2 9 ((s1 12).toNatClampNeg)).toNatClampNeg))) fun s82 a83 g84 =>
       q_cv (f_X3_ends s82 a83 g84 p1) fun s87 a88 g89 =>
       some (s87, a88, g89)
      else
       q_nz (g3 ((s1 12).toNatClampNeg)) <|
       q_ck (s1 12) 3001 <|
       q_ck (a2 9 ((s1 12).toNatClampNeg)) 3001 <|
       q_cv (f_X3_lay s1 a2 g3 ((g3 ((a2 9 ((s1 12).toNatClampNeg)).toNatClampNeg)) / (g3 ((s1 12).toNatClampNeg))) (a2 9 ((a2 9 ((s1 12).toNatClampNeg)).toNatClampNeg))) fun s70 a71 g72 =>
       q_cv (f_X3_ends s70 a71 g72 p1) fun s75 a76 g77 =>
       some (s75, a76, g77)
  else
   if p2 = 0 then
    q_ck (s1 12) 3001 <|
    q_ck (a2 9 ((s1 12).toNatClampNeg)) 3001 <|
    q_cv (f_X3_lay s1 a2 g3 ((g3 ((a2 9 ((s1 12).toNatClampNeg)).toNatClampNeg)) + (g3 ((s1 12).toNatClampNeg))) (a2 9 ((a2 9 ((s1 12).toNatClampNeg)).toNatClampNeg))) fun s53 a54 g55 =>
    q_cv (f_X3_ends s53 a54 g55 p1) fun s58 a59 g60 =>
    some (s58, a59, g60)
   else
    if p2 = 1 then
     q_ck (s1 12) 3001 <|
     q_ck (a2 9 ((s1 12).toNatClampNeg)) 3001 <|
     q_cv (f_X3_lay s1 a2 g3 ((g3 ((a2 9 ((s1 12).toNatClampNeg)).toNatClampNeg)) - (g3 ((s1 12).toNatClampNeg))) (a2 9 ((a2 9 ((s1 12).toNatClampNeg)).toNatClampNeg))) fun s41 a42 g43 =>
     q_cv (f_X3_ends s41 a42 g43 p1) fun s46 a47 g48 =>
     some (s46, a47, g48)
    else
     if p2 = 2 then
      q_ck (s1 12) 3001 <|
      q_ck (a2 9 ((s1 12).toNatClampNeg)) 3001 <|
      q_cv (f_X3_lay s1 a2 g3 ((g3 ((a2 9 ((s1 12).toNatClampNeg)).toNatClampNeg)) * (g3 ((s1 12).toNatClampNeg))) (a2 9 ((a2 9 ((s1 12).toNatClampNeg)).toNatClampNeg))) fun s29 a30 g31 =>
      q_cv (f_X3_ends s29 a30 g31 p1) fun s34 a35 g36 =>
      some (s34, a35, g36)
     else
      q_nz (g3 ((s1 12).toNatClampNeg)) <|
      q_ck (s1 12) 3001 <|
      q_ck (a2 9 ((s1 12).toNatClampNeg)) 3001 <|
      q_cv (f_X3_lay s1 a2 g3 ((g3 ((a2 9 ((s1 12).toNatClampNeg)).toNatClampNeg)) / (g3 ((s1 12).toNatClampNeg))) (a2 9 ((a2 9 ((s1 12).toNatClampNeg)).toNatClampNeg))) fun s17 a18 g19 =>
      q_cv (f_X3_ends s17 a18 g19 p1) fun s22 a23 g24 =>
      some (s22, a23, g24)
 else
  q_bd (q_us s1 30 3) fun s118 =>
  some (s118, a2, g3)
theorem e_X3_acts : yX3_acts.cls = RX3 ∧ yX3_acts.cls ≠ "java/lang/invoke/MethodHandle" ∧ yX3_acts.cls ≠ "java/lang/invoke/VarHandle" ∧ (parseMethodDescriptor yX3_acts.desc).map (fun d => d.parameters.length) = some 2 := by decide +kernel
set_option maxHeartbeats 4000000 in
set_option maxRecDepth 100000 in
theorem c_X3_acts {l : Launch} {D : va_G} {h : Nat} {ad : Nat → Nat} {ca : Nat → ClassId} {s s9 : q_s} {a a9 : q_a} {g g9 : q_g} {p1 : Int32} {p2 : Int32} (hf : f_X3_acts s a g p1 p2 = some (s9, a9, g9)) : q_Mv l yX3_acts wsX3_acts ({ frames := 2, cells := 0, slots := 0, locals := 42 }) D (q_tM ca) (q_wM h ad ca) [.ref h, .int p1, .int p2] s a g s9 a9 g9 := by
  unfold f_X3_acts at hf
  refine q_entV (cc := cX3_acts) (maxL := 7) (ret := none) (by decide) rfl (Nat.le_of_ble_eq_true rfl) ?_
  intro p e st m args below meth c A ls C hr hlocks hml hA I hl
  have hl : lv_has ls 7 [(0, .ref h), (1, .int p1), (2, .int p2)] := hl
  have hinX3 : ∀ w ∈ wsX30, w ∈ wsX3_acts := fun _ h => List.mem_cons_of_mem _ (List.mem_append_right _ h)
  have k28 : Cond.fieldLink RX3 28 "ReaderYardModel" "laid" "[J" ∈ wsX3_acts := by decide +kernel
  have k108 : Cond.fieldLink RX3 108 "ReaderYardModel" "onTop" "I" ∈ wsX3_acts := by decide +kernel
  have k32 : Cond.fieldLink RX3 32 "ReaderYardModel" "below" "[I" ∈ wsX3_acts := by decide +kernel
  have k99 : Cond.fieldLink RX3 99 "ReaderYardModel" "fault" "I" ∈ wsX3_acts := by decide +kernel
  refine lv_aload_n C.1 C.2.1 dX3_acts_0 rfl (lv_at hl 0 rfl) ?_
  obtain ⟨r5, s1, a2, g3, h4, hf⟩ := q_ci_some hf
  refine q_callVi (As := []) (rest := []) C hml (c_X3_height h4) (cwV 0 C.2.2.2.1 gX3_acts_X3_height rfl rfl rfl e_X3_height ⟨Nat.le_of_ble_eq_true rfl, Nat.le_of_ble_eq_true rfl⟩) I hA (q0 := 0) (ci := 3) rfl rfl rfl rfl hl.1 rfl (Nat.le_of_ble_eq_true rfl) dX3_acts_1 ⟨Nat.zero_le _, Nat.zero_le _⟩ (fun H locs I => ?_)
  refine lv_iconst (v := 2) C.1 C.2.1 dX3_acts_4 (by decide) ?_
  refine lv_icmp_ge (tgt := 14) C.1 C.2.1 dX3_acts_5 (by decide) (fun c6 => ?_) (fun c6 => ?_)
  · have hf := q_if_t hf c6
    refine lv_aload_n C.1 C.2.1 dX3_acts_14 rfl (lv_at hl 0 rfl) ?_
    refine q_get_RX3_28 C hinX3 k28 I dX3_acts_15 ?_
    refine lv_aload_n C.1 C.2.1 dX3_acts_18 rfl (lv_at hl 0 rfl) ?_
    refine q_get_RX3_108 C hinX3 k108 I dX3_acts_19 ?_
    obtain ⟨b7, hf⟩ := q_ck_some hf
    refine q_ld_M_laid C b7 I dX3_acts_22 ?_
    refine lv_lstore_n (lv' := [(3, .long (g3 ((s1 12).toNatClampNeg))), (0, .ref h), (1, .int p1), (2, .int p2)]) C.1 C.2.1 dX3_acts_23 rfl hl (by decide) rfl (fun ls hl => ?_)
    refine lv_aload_n C.1 C.2.1 dX3_acts_24 rfl (lv_at hl 1 rfl) ?_
    refine q_get_RX3_28 C hinX3 k28 I dX3_acts_25 ?_
    refine lv_aload_n C.1 C.2.1 dX3_acts_28 rfl (lv_at hl 1 rfl) ?_
    refine q_get_RX3_32 C hinX3 k32 I dX3_acts_29 ?_
    refine lv_aload_n C.1 C.2.1 dX3_acts_32 rfl (lv_at hl 1 rfl) ?_
    refine q_get_RX3_108 C hinX3 k108 I dX3_acts_33 ?_
    obtain ⟨b8, hf⟩ := q_ck_some hf
    refine q_ld_M_below C b8 I dX3_acts_36 ?_
    obtain ⟨b9, hf⟩ := q_ck_some hf
    refine q_ld_M_laid C b9 I dX3_acts_37 ?_
    refine lv_lstore (lv' := [(5, .long (g3 ((a2 9 ((s1 12).toNatClampNeg)).toNatClampNeg))), (3, .long (g3 ((s1 12).toNatClampNeg))), (0, .ref h), (1, .int p1), (2, .int p2)]) C.1 C.2.1 dX3_acts_38 hl (by decide) rfl (fun ls hl => ?_)
    refine lv_iload_n C.1 C.2.1 dX3_acts_40 rfl (lv_at hl 4 rfl) ?_
    refine lv_iconst (v := 3) C.1 C.2.1 dX3_acts_41 (by decide) ?_
    refine lv_icmp_ne (tgt := 57) C.1 C.2.1 dX3_acts_42 (by decide) (fun c10 => ?_) (fun c10 => ?_)
    · have hf := q_if_f hf c10
      refine lv_aload_n C.1 C.2.1 dX3_acts_57 rfl (lv_at hl 2 rfl) ?_
      refine lv_iload_n C.1 C.2.1 dX3_acts_58 rfl (lv_at hl 4 rfl) ?_
      refine lv_if_ne (tgt := 69) C.1 C.2.1 dX3_acts_59 (by decide) (fun c11 => ?_) (fun c11 => ?_)
      · have hf := q_if_f hf c11
        refine lv_iload_n C.1 C.2.1 dX3_acts_69 rfl (lv_at hl 4 rfl) ?_
        refine lv_iconst (v := 1) C.1 C.2.1 dX3_acts_70 (by decide) ?_
        refine lv_icmp_ne (tgt := 81) C.1 C.2.1 dX3_acts_71 (by decide) (fun c12 => ?_) (fun c12 => ?_)
        · have hf := q_if_f hf c12
          refine lv_iload_n C.1 C.2.1 dX3_acts_81 rfl (lv_at hl 4 rfl) ?_
          refine lv_iconst (v := 2) C.1 C.2.1 dX3_acts_82 (by decide) ?_
          refine lv_icmp_ne (tgt := 93) C.1 C.2.1 dX3_acts_83 (by decide) (fun c13 => ?_) (fun c13 => ?_)
          · have hf := q_if_f hf c13
            refine lv_lload C.1 C.2.1 dX3_acts_93 (lv_at hl 0 rfl) ?_
            refine lv_lload_n C.1 C.2.1 dX3_acts_95 rfl (lv_at hl 1 rfl) ?_
            obtain ⟨z14, hf⟩ := q_nz_some hf
            refine lv_ldiv C.1 C.2.1 dX3_acts_96 z14 ?_
            refine lv_aload_n C.1 C.2.1 dX3_acts_97 rfl (lv_at hl 2 rfl) ?_
            refine q_get_RX3_32 C hinX3 k32 I dX3_acts_98 ?_
            refine lv_aload_n C.1 C.2.1 dX3_acts_101 rfl (lv_at hl 2 rfl) ?_
            refine q_get_RX3_32 C hinX3 k32 I dX3_acts_102 ?_
            refine lv_aload_n C.1 C.2.1 dX3_acts_105 rfl (lv_at hl 2 rfl) ?_
            refine q_get_RX3_108 C hinX3 k108 I dX3_acts_106 ?_
            obtain ⟨b15, hf⟩ := q_ck_some hf
            refine q_ld_M_below C b15 I dX3_acts_109 ?_
            obtain ⟨b16, hf⟩ := q_ck_some hf
            refine q_ld_M_below C b16 I dX3_acts_110 ?_
            obtain ⟨s17, a18, g19, h20, hf⟩ := q_cv_some hf
            refine q_callVv (As := [.long ((g3 ((a2 9 ((s1 12).toNatClampNeg)).toNatClampNeg)) / (g3 ((s1 12).toNatClampNeg))), .int (a2 9 ((a2 9 ((s1 12).toNatClampNeg)).toNatClampNeg))]) (rest := []) C hml (c_X3_lay h20) (cwV 2 C.2.2.2.1 gX3_acts_X3_lay rfl rfl rfl e_X3_lay ⟨Nat.le_of_ble_eq_true rfl, Nat.le_of_ble_eq_true rfl⟩) I hA (q0 := 0) (ci := 3) rfl rfl rfl rfl hl.1 rfl (Nat.le_of_ble_eq_true rfl) dX3_acts_111 ⟨Nat.zero_le _, Nat.zero_le _⟩ (fun H locs I => ?_)
            refine lv_aload_n C.1 C.2.1 dX3_acts_114 rfl (lv_at hl 2 rfl) ?_
            refine lv_iload_n C.1 C.2.1 dX3_acts_115 rfl (lv_at hl 3 rfl) ?_
            obtain ⟨s22, a23, g24, h25, hf⟩ := q_cv_some hf
            refine q_callVv (As := [.int p1]) (rest := []) C hml (c_X3_ends h25) (cwV 1 C.2.2.2.1 gX3_acts_X3_ends rfl rfl rfl e_X3_ends ⟨Nat.le_of_ble_eq_true rfl, Nat.le_of_ble_eq_true rfl⟩) I hA (q0 := 0) (ci := 3) rfl rfl rfl rfl hl.1 rfl (Nat.le_of_ble_eq_true rfl) dX3_acts_116 ⟨Nat.zero_le _, Nat.zero_le _⟩ (fun H locs I => ?_)
            obtain ⟨rfl, rfl, rfl⟩ := q_some3 hf
            exact q_vret C hr hlocks I dX3_acts_119
          · have hf := q_if_t hf c13
            refine lv_lload C.1 C.2.1 dX3_acts_86 (lv_at hl 0 rfl) ?_
            refine lv_lload_n C.1 C.2.1 dX3_acts_88 rfl (lv_at hl 1 rfl) ?_
            refine lv_lmul C.1 C.2.1 dX3_acts_89 ?_
            refine lv_goto (tgt := 97) C.1 C.2.1 dX3_acts_90 (by decide) ?_
            refine lv_aload_n C.1 C.2.1 dX3_acts_97 rfl (lv_at hl 2 rfl) ?_
            refine q_get_RX3_32 C hinX3 k32 I dX3_acts_98 ?_
            refine lv_aload_n C.1 C.2.1 dX3_acts_101 rfl (lv_at hl 2 rfl) ?_
            refine q_get_RX3_32 C hinX3 k32 I dX3_acts_102 ?_
            refine lv_aload_n C.1 C.2.1 dX3_acts_105 rfl (lv_at hl 2 rfl) ?_
            refine q_get_RX3_108 C hinX3 k108 I dX3_acts_106 ?_
            obtain ⟨b27, hf⟩ := q_ck_some hf
            refine q_ld_M_below C b27 I dX3_acts_109 ?_
            obtain ⟨b28, hf⟩ := q_ck_some hf
            refine q_ld_M_below C b28 I dX3_acts_110 ?_
            obtain ⟨s29, a30, g31, h32, hf⟩ := q_cv_some hf
            refine q_callVv (As := [.long ((g3 ((a2 9 ((s1 12).toNatClampNeg)).toNatClampNeg)) * (g3 ((s1 12).toNatClampNeg))), .int (a2 9 ((a2 9 ((s1 12).toNatClampNeg)).toNatClampNeg))]) (rest := []) C hml (c_X3_lay h32) (cwV 2 C.2.2.2.1 gX3_acts_X3_lay rfl rfl rfl e_X3_lay ⟨Nat.le_of_ble_eq_true rfl, Nat.le_of_ble_eq_true rfl⟩) I hA (q0 := 0) (ci := 3) rfl rfl rfl rfl hl.1 rfl (Nat.le_of_ble_eq_true rfl) dX3_acts_111 ⟨Nat.zero_le _, Nat.zero_le _⟩ (fun H locs I => ?_)
            refine lv_aload_n C.1 C.2.1 dX3_acts_114 rfl (lv_at hl 2 rfl) ?_
            refine lv_iload_n C.1 C.2.1 dX3_acts_115 rfl (lv_at hl 3 rfl) ?_
            obtain ⟨s34, a35, g36, h37, hf⟩ := q_cv_some hf
            refine q_callVv (As := [.int p1]) (rest := []) C hml (c_X3_ends h37) (cwV 1 C.2.2.2.1 gX3_acts_X3_ends rfl rfl rfl e_X3_ends ⟨Nat.le_of_ble_eq_true rfl, Nat.le_of_ble_eq_true rfl⟩) I hA (q0 := 0) (ci := 3) rfl rfl rfl rfl hl.1 rfl (Nat.le_of_ble_eq_true rfl) dX3_acts_116 ⟨Nat.zero_le _, Nat.zero_le _⟩ (fun H locs I => ?_)
            obtain ⟨rfl, rfl, rfl⟩ := q_some3 hf
            exact q_vret C hr hlocks I dX3_acts_119
        · have hf := q_if_t hf c12
          refine lv_lload C.1 C.2.1 dX3_acts_74 (lv_at hl 0 rfl) ?_
          refine lv_lload_n C.1 C.2.1 dX3_acts_76 rfl (lv_at hl 1 rfl) ?_
          refine lv_lsub C.1 C.2.1 dX3_acts_77 ?_
          refine lv_goto (tgt := 97) C.1 C.2.1 dX3_acts_78 (by decide) ?_
          refine lv_aload_n C.1 C.2.1 dX3_acts_97 rfl (lv_at hl 2 rfl) ?_
          refine q_get_RX3_32 C hinX3 k32 I dX3_acts_98 ?_
          refine lv_aload_n C.1 C.2.1 dX3_acts_101 rfl (lv_at hl 2 rfl) ?_
          refine q_get_RX3_32 C hinX3 k32 I dX3_acts_102 ?_
          refine lv_aload_n C.1 C.2.1 dX3_acts_105 rfl (lv_at hl 2 rfl) ?_
          refine q_get_RX3_108 C hinX3 k108 I dX3_acts_106 ?_
          obtain ⟨b39, hf⟩ := q_ck_some hf
          refine q_ld_M_below C b39 I dX3_acts_109 ?_
          obtain ⟨b40, hf⟩ := q_ck_some hf
          refine q_ld_M_below C b40 I dX3_acts_110 ?_
          obtain ⟨s41, a42, g43, h44, hf⟩ := q_cv_some hf
          refine q_callVv (As := [.long ((g3 ((a2 9 ((s1 12).toNatClampNeg)).toNatClampNeg)) - (g3 ((s1 12).toNatClampNeg))), .int (a2 9 ((a2 9 ((s1 12).toNatClampNeg)).toNatClampNeg))]) (rest := []) C hml (c_X3_lay h44) (cwV 2 C.2.2.2.1 gX3_acts_X3_lay rfl rfl rfl e_X3_lay ⟨Nat.le_of_ble_eq_true rfl, Nat.le_of_ble_eq_true rfl⟩) I hA (q0 := 0) (ci := 3) rfl rfl rfl rfl hl.1 rfl (Nat.le_of_ble_eq_true rfl) dX3_acts_111 ⟨Nat.zero_le _, Nat.zero_le _⟩ (fun H locs I => ?_)
          refine lv_aload_n C.1 C.2.1 dX3_acts_114 rfl (lv_at hl 2 rfl) ?_
          refine lv_iload_n C.1 C.2.1 dX3_acts_115 rfl (lv_at hl 3 rfl) ?_
          obtain ⟨s46, a47, g48, h49, hf⟩ := q_cv_some hf
          refine q_callVv (As := [.int p1]) (rest := []) C hml (c_X3_ends h49) (cwV 1 C.2.2.2.1 gX3_acts_X3_ends rfl rfl rfl e_X3_ends ⟨Nat.le_of_ble_eq_true rfl, Nat.le_of_ble_eq_true rfl⟩) I hA (q0 := 0) (ci := 3) rfl rfl rfl rfl hl.1 rfl (Nat.le_of_ble_eq_true rfl) dX3_acts_116 ⟨Nat.zero_le _, Nat.zero_le _⟩ (fun H locs I => ?_)
          obtain ⟨rfl, rfl, rfl⟩ := q_some3 hf
          exact q_vret C hr hlocks I dX3_acts_119
      · have hf := q_if_t hf c11
        refine lv_lload C.1 C.2.1 dX3_acts_62 (lv_at hl 0 rfl) ?_
        refine lv_lload_n C.1 C.2.1 dX3_acts_64 rfl (lv_at hl 1 rfl) ?_
        refine lv_ladd C.1 C.2.1 dX3_acts_65 ?_
        refine lv_goto (tgt := 97) C.1 C.2.1 dX3_acts_66 (by decide) ?_
        refine lv_aload_n C.1 C.2.1 dX3_acts_97 rfl (lv_at hl 2 rfl) ?_
        refine q_get_RX3_32 C hinX3 k32 I dX3_acts_98 ?_
        refine lv_aload_n C.1 C.2.1 dX3_acts_101 rfl (lv_at hl 2 rfl) ?_
        refine q_get_RX3_32 C hinX3 k32 I dX3_acts_102 ?_
        refine lv_aload_n C.1 C.2.1 dX3_acts_105 rfl (lv_at hl 2 rfl) ?_
        refine q_get_RX3_108 C hinX3 k108 I dX3_acts_106 ?_
        obtain ⟨b51, hf⟩ := q_ck_some hf
        refine q_ld_M_below C b51 I dX3_acts_109 ?_
        obtain ⟨b52, hf⟩ := q_ck_some hf
        refine q_ld_M_below C b52 I dX3_acts_110 ?_
        obtain ⟨s53, a54, g55, h56, hf⟩ := q_cv_some hf
        refine q_callVv (As := [.long ((g3 ((a2 9 ((s1 12).toNatClampNeg)).toNatClampNeg)) + (g3 ((s1 12).toNatClampNeg))), .int (a2 9 ((a2 9 ((s1 12).toNatClampNeg)).toNatClampNeg))]) (rest := []) C hml (c_X3_lay h56) (cwV 2 C.2.2.2.1 gX3_acts_X3_lay rfl rfl rfl e_X3_lay ⟨Nat.le_of_ble_eq_true rfl, Nat.le_of_ble_eq_true rfl⟩) I hA (q0 := 0) (ci := 3) rfl rfl rfl rfl hl.1 rfl (Nat.le_of_ble_eq_true rfl) dX3_acts_111 ⟨Nat.zero_le _, Nat.zero_le _⟩ (fun H locs I => ?_)
        refine lv_aload_n C.1 C.2.1 dX3_acts_114 rfl (lv_at hl 2 rfl) ?_
        refine lv_iload_n C.1 C.2.1 dX3_acts_115 rfl (lv_at hl 3 rfl) ?_
        obtain ⟨s58, a59, g60, h61, hf⟩ := q_cv_some hf
        refine q_callVv (As := [.int p1]) (rest := []) C hml (c_X3_ends h61) (cwV 1 C.2.2.2.1 gX3_acts_X3_ends rfl rfl rfl e_X3_ends ⟨Nat.le_of_ble_eq_true rfl, Nat.le_of_ble_eq_true rfl⟩) I hA (q0 := 0) (ci := 3) rfl rfl rfl rfl hl.1 rfl (Nat.le_of_ble_eq_true rfl) dX3_acts_116 ⟨Nat.zero_le _, Nat.zero_le _⟩ (fun H locs I => ?_)
        obtain ⟨rfl, rfl, rfl⟩ := q_some3 hf
        exact q_vret C hr hlocks I dX3_acts_119
    · have hf := q_if_t hf c10
      refine lv_lload_n C.1 C.2.1 dX3_acts_45 rfl (lv_at hl 1 rfl) ?_
      refine lv_lconst (v := 0) C.1 C.2.1 dX3_acts_46 (by decide) ?_
      refine W.lcmp C.1 C.2.1 dX3_acts_47 ?_
      refine lv_if_ne (tgt := 57) C.1 C.2.1 dX3_acts_48 (by decide) (fun c63 => ?_) (fun c63 => ?_)
      · have hf := q_if_f hf c63
        refine lv_aload_n C.1 C.2.1 dX3_acts_57 rfl (lv_at hl 2 rfl) ?_
        refine lv_iload_n C.1 C.2.1 dX3_acts_58 rfl (lv_at hl 4 rfl) ?_
        refine lv_if_ne (tgt := 69) C.1 C.2.1 dX3_acts_59 (by decide) (fun c64 => ?_) (fun c64 => ?_)
        · have hf := q_if_f hf c64
          refine lv_iload_n C.1 C.2.1 dX3_acts_69 rfl (lv_at hl 4 rfl) ?_
          refine lv_iconst (v := 1) C.1 C.2.1 dX3_acts_70 (by decide) ?_
          refine lv_icmp_ne (tgt := 81) C.1 C.2.1 dX3_acts_71 (by decide) (fun c65 => ?_) (fun c65 => ?_)
          · have hf := q_if_f hf c65
            refine lv_iload_n C.1 C.2.1 dX3_acts_81 rfl (lv_at hl 4 rfl) ?_
            refine lv_iconst (v := 2) C.1 C.2.1 dX3_acts_82 (by decide) ?_
            refine lv_icmp_ne (tgt := 93) C.1 C.2.1 dX3_acts_83 (by decide) (fun c66 => ?_) (fun c66 => ?_)
            · have hf := q_if_f hf c66
              refine lv_lload C.1 C.2.1 dX3_acts_93 (lv_at hl 0 rfl) ?_
              refine lv_lload_n C.1 C.2.1 dX3_acts_95 rfl (lv_at hl 1 rfl) ?_
              obtain ⟨z67, hf⟩ := q_nz_some hf
              refine lv_ldiv C.1 C.2.1 dX3_acts_96 z67 ?_
              refine lv_aload_n C.1 C.2.1 dX3_acts_97 rfl (lv_at hl 2 rfl) ?_
              refine q_get_RX3_32 C hinX3 k32 I dX3_acts_98 ?_
              refine lv_aload_n C.1 C.2.1 dX3_acts_101 rfl (lv_at hl 2 rfl) ?_
              refine q_get_RX3_32 C hinX3 k32 I dX3_acts_102 ?_
              refine lv_aload_n C.1 C.2.1 dX3_acts_105 rfl (lv_at hl 2 rfl) ?_
              refine q_get_RX3_108 C hinX3 k108 I dX3_acts_106 ?_
              obtain ⟨b68, hf⟩ := q_ck_some hf
              refine q_ld_M_below C b68 I dX3_acts_109 ?_
              obtain ⟨b69, hf⟩ := q_ck_some hf
              refine q_ld_M_below C b69 I dX3_acts_110 ?_
              obtain ⟨s70, a71, g72, h73, hf⟩ := q_cv_some hf
              refine q_callVv (As := [.long ((g3 ((a2 9 ((s1 12).toNatClampNeg)).toNatClampNeg)) / (g3 ((s1 12).toNatClampNeg))), .int (a2 9 ((a2 9 ((s1 12).toNatClampNeg)).toNatClampNeg))]) (rest := []) C hml (c_X3_lay h73) (cwV 2 C.2.2.2.1 gX3_acts_X3_lay rfl rfl rfl e_X3_lay ⟨Nat.le_of_ble_eq_true rfl, Nat.le_of_ble_eq_true rfl⟩) I hA (q0 := 0) (ci := 3) rfl rfl rfl rfl hl.1 rfl (Nat.le_of_ble_eq_true rfl) dX3_acts_111 ⟨Nat.zero_le _, Nat.zero_le _⟩ (fun H locs I => ?_)
              refine lv_aload_n C.1 C.2.1 dX3_acts_114 rfl (lv_at hl 2 rfl) ?_
              refine lv_iload_n C.1 C.2.1 dX3_acts_115 rfl (lv_at hl 3 rfl) ?_
              obtain ⟨s75, a76, g77, h78, hf⟩ := q_cv_some hf
              refine q_callVv (As := [.int p1]) (rest := []) C hml (c_X3_ends h78) (cwV 1 C.2.2.2.1 gX3_acts_X3_ends rfl rfl rfl e_X3_ends ⟨Nat.le_of_ble_eq_true rfl, Nat.le_of_ble_eq_true rfl⟩) I hA (q0 := 0) (ci := 3) rfl rfl rfl rfl hl.1 rfl (Nat.le_of_ble_eq_true rfl) dX3_acts_116 ⟨Nat.zero_le _, Nat.zero_le _⟩ (fun H locs I => ?_)
              obtain ⟨rfl, rfl, rfl⟩ := q_some3 hf
              exact q_vret C hr hlocks I dX3_acts_119
            · have hf := q_if_t hf c66
              refine lv_lload C.1 C.2.1 dX3_acts_86 (lv_at hl 0 rfl) ?_
              refine lv_lload_n C.1 C.2.1 dX3_acts_88 rfl (lv_at hl 1 rfl) ?_
              refine lv_lmul C.1 C.2.1 dX3_acts_89 ?_
              refine lv_goto (tgt := 97) C.1 C.2.1 dX3_acts_90 (by decide) ?_
              refine lv_aload_n C.1 C.2.1 dX3_acts_97 rfl (lv_at hl 2 rfl) ?_
              refine q_get_RX3_32 C hinX3 k32 I dX3_acts_98 ?_
              refine lv_aload_n C.1 C.2.1 dX3_acts_101 rfl (lv_at hl 2 rfl) ?_
              refine q_get_RX3_32 C hinX3 k32 I dX3_acts_102 ?_
              refine lv_aload_n C.1 C.2.1 dX3_acts_105 rfl (lv_at hl 2 rfl) ?_
              refine q_get_RX3_108 C hinX3 k108 I dX3_acts_106 ?_
              obtain ⟨b80, hf⟩ := q_ck_some hf
              refine q_ld_M_below C b80 I dX3_acts_109 ?_
              obtain ⟨b81, hf⟩ := q_ck_some hf
              refine q_ld_M_below C b81 I dX3_acts_110 ?_
              obtain ⟨s82, a83, g84, h85, hf⟩ := q_cv_some hf
              refine q_callVv (As := [.long ((g3 ((a2 9 ((s1 12).toNatClampNeg)).toNatClampNeg)) * (g3 ((s1 12).toNatClampNeg))), .int (a2 9 ((a2 9 ((s1 12).toNatClampNeg)).toNatClampNeg))]) (rest := []) C hml (c_X3_lay h85) (cwV 2 C.2.2.2.1 gX3_acts_X3_lay rfl rfl rfl e_X3_lay ⟨Nat.le_of_ble_eq_true rfl, Nat.le_of_ble_eq_true rfl⟩) I hA (q0 := 0) (ci := 3) rfl rfl rfl rfl hl.1 rfl (Nat.le_of_ble_eq_true rfl) dX3_acts_111 ⟨Nat.zero_le _, Nat.zero_le _⟩ (fun H locs I => ?_)
              refine lv_aload_n C.1 C.2.1 dX3_acts_114 rfl (lv_at hl 2 rfl) ?_
              refine lv_iload_n C.1 C.2.1 dX3_acts_115 rfl (lv_at hl 3 rfl) ?_
              obtain ⟨s87, a88, g89, h90, hf⟩ := q_cv_some hf
              refine q_callVv (As := [.int p1]) (rest := []) C hml (c_X3_ends h90) (cwV 1 C.2.2.2.1 gX3_acts_X3_ends rfl rfl rfl e_X3_ends ⟨Nat.le_of_ble_eq_true rfl, Nat.le_of_ble_eq_true rfl⟩) I hA (q0 := 0) (ci := 3) rfl rfl rfl rfl hl.1 rfl (Nat.le_of_ble_eq_true rfl) dX3_acts_116 ⟨Nat.zero_le _, Nat.zero_le _⟩ (fun H locs I => ?_)
              obtain ⟨rfl, rfl, rfl⟩ := q_some3 hf
              exact q_vret C hr hlocks I dX3_acts_119
          · have hf := q_if_t hf c65
            refine lv_lload C.1 C.2.1 dX3_acts_74 (lv_at hl 0 rfl) ?_
            refine lv_lload_n C.1 C.2.1 dX3_acts_76 rfl (lv_at hl 1 rfl) ?_
            refine lv_lsub C.1 C.2.1 dX3_acts_77 ?_
            refine lv_goto (tgt := 97) C.1 C.2.1 dX3_acts_78 (by decide) ?_
            refine lv_aload_n C.1 C.2.1 dX3_acts_97 rfl (lv_at hl 2 rfl) ?_
            refine q_get_RX3_32 C hinX3 k32 I dX3_acts_98 ?_
            refine lv_aload_n C.1 C.2.1 dX3_acts_101 rfl (lv_at hl 2 rfl) ?_
            refine q_get_RX3_32 C hinX3 k32 I dX3_acts_102 ?_
            refine lv_aload_n C.1 C.2.1 dX3_acts_105 rfl (lv_at hl 2 rfl) ?_
            refine q_get_RX3_108 C hinX3 k108 I dX3_acts_106 ?_
            obtain ⟨b92, hf⟩ := q_ck_some hf
            refine q_ld_M_below C b92 I dX3_acts_109 ?_
            obtain ⟨b93, hf⟩ := q_ck_some hf
            refine q_ld_M_below C b93 I dX3_acts_110 ?_
            obtain ⟨s94, a95, g96, h97, hf⟩ := q_cv_some hf
            refine q_callVv (As := [.long ((g3 ((a2 9 ((s1 12).toNatClampNeg)).toNatClampNeg)) - (g3 ((s1 12).toNatClampNeg))), .int (a2 9 ((a2 9 ((s1 12).toNatClampNeg)).toNatClampNeg))]) (rest := []) C hml (c_X3_lay h97) (cwV 2 C.2.2.2.1 gX3_acts_X3_lay rfl rfl rfl e_X3_lay ⟨Nat.le_of_ble_eq_true rfl, Nat.le_of_ble_eq_true rfl⟩) I hA (q0 := 0) (ci := 3) rfl rfl rfl rfl hl.1 rfl (Nat.le_of_ble_eq_true rfl) dX3_acts_111 ⟨Nat.zero_le _, Nat.zero_le _⟩ (fun H locs I => ?_)
            refine lv_aload_n C.1 C.2.1 dX3_acts_114 rfl (lv_at hl 2 rfl) ?_
            refine lv_iload_n C.1 C.2.1 dX3_acts_115 rfl (lv_at hl 3 rfl) ?_
            obtain ⟨s99, a100, g101, h102, hf⟩ := q_cv_some hf
            refine q_callVv (As := [.int p1]) (rest := []) C hml (c_X3_ends h102) (cwV 1 C.2.2.2.1 gX3_acts_X3_ends rfl rfl rfl e_X3_ends ⟨Nat.le_of_ble_eq_true rfl, Nat.le_of_ble_eq_true rfl⟩) I hA (q0 := 0) (ci := 3) rfl rfl rfl rfl hl.1 rfl (Nat.le_of_ble_eq_true rfl) dX3_acts_116 ⟨Nat.zero_le _, Nat.zero_le _⟩ (fun H locs I => ?_)
            obtain ⟨rfl, rfl, rfl⟩ := q_some3 hf
            exact q_vret C hr hlocks I dX3_acts_119
        · have hf := q_if_t hf c64
          refine lv_lload C.1 C.2.1 dX3_acts_62 (lv_at hl 0 rfl) ?_
          refine lv_lload_n C.1 C.2.1 dX3_acts_64 rfl (lv_at hl 1 rfl) ?_
          refine lv_ladd C.1 C.2.1 dX3_acts_65 ?_
          refine lv_goto (tgt := 97) C.1 C.2.1 dX3_acts_66 (by decide) ?_
          refine lv_aload_n C.1 C.2.1 dX3_acts_97 rfl (lv_at hl 2 rfl) ?_
          refine q_get_RX3_32 C hinX3 k32 I dX3_acts_98 ?_
          refine lv_aload_n C.1 C.2.1 dX3_acts_101 rfl (lv_at hl 2 rfl) ?_
          refine q_get_RX3_32 C hinX3 k32 I dX3_acts_102 ?_
          refine lv_aload_n C.1 C.2.1 dX3_acts_105 rfl (lv_at hl 2 rfl) ?_
          refine q_get_RX3_108 C hinX3 k108 I dX3_acts_106 ?_
          obtain ⟨b104, hf⟩ := q_ck_some hf
          refine q_ld_M_below C b104 I dX3_acts_109 ?_
          obtain ⟨b105, hf⟩ := q_ck_some hf
          refine q_ld_M_below C b105 I dX3_acts_110 ?_
          obtain ⟨s106, a107, g108, h109, hf⟩ := q_cv_some hf
          refine q_callVv (As := [.long ((g3 ((a2 9 ((s1 12).toNatClampNeg)).toNatClampNeg)) + (g3 ((s1 12).toNatClampNeg))), .int (a2 9 ((a2 9 ((s1 12).toNatClampNeg)).toNatClampNeg))]) (rest := []) C hml (c_X3_lay h109) (cwV 2 C.2.2.2.1 gX3_acts_X3_lay rfl rfl rfl e_X3_lay ⟨Nat.le_of_ble_eq_true rfl, Nat.le_of_ble_eq_true rfl⟩) I hA (q0 := 0) (ci := 3) rfl rfl rfl rfl hl.1 rfl (Nat.le_of_ble_eq_true rfl) dX3_acts_111 ⟨Nat.zero_le _, Nat.zero_le _⟩ (fun H locs I => ?_)
          refine lv_aload_n C.1 C.2.1 dX3_acts_114 rfl (lv_at hl 2 rfl) ?_
          refine lv_iload_n C.1 C.2.1 dX3_acts_115 rfl (lv_at hl 3 rfl) ?_
          obtain ⟨s111, a112, g113, h114, hf⟩ := q_cv_some hf
          refine q_callVv (As := [.int p1]) (rest := []) C hml (c_X3_ends h114) (cwV 1 C.2.2.2.1 gX3_acts_X3_ends rfl rfl rfl e_X3_ends ⟨Nat.le_of_ble_eq_true rfl, Nat.le_of_ble_eq_true rfl⟩) I hA (q0 := 0) (ci := 3) rfl rfl rfl rfl hl.1 rfl (Nat.le_of_ble_eq_true rfl) dX3_acts_116 ⟨Nat.zero_le _, Nat.zero_le _⟩ (fun H locs I => ?_)
          obtain ⟨rfl, rfl, rfl⟩ := q_some3 hf
          exact q_vret C hr hlocks I dX3_acts_119
      · have hf := q_if_t hf c63
        refine lv_aload_n C.1 C.2.1 dX3_acts_51 rfl (lv_at hl 2 rfl) ?_
        refine lv_iconst (v := 2) C.1 C.2.1 dX3_acts_52 (by decide) ?_
        obtain ⟨s116, e117, hf⟩ := q_bd_some hf
        refine q_put_RX3_99 C hinX3 k99 e117 I dX3_acts_53 (fun H locs I => ?_)
        obtain ⟨rfl, rfl, rfl⟩ := q_some3 hf
        exact q_vret C hr hlocks I dX3_acts_56
  · have hf := q_if_f hf c6
    refine lv_aload_n C.1 C.2.1 dX3_acts_8 rfl (lv_at hl 0 rfl) ?_
    refine lv_iconst (v := 3) C.1 C.2.1 dX3_acts_9 (by decide) ?_
    obtain ⟨s118, e119, hf⟩ := q_bd_some hf
    refine q_put_RX3_99 C hinX3 k99 e119 I dX3_acts_10 (fun H locs I => ?_)
    obtain ⟨rfl, rfl, rfl⟩ := q_some3 hf
    exact q_vret C hr hlocks I dX3_acts_13

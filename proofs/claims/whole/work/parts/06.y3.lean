def f_X2_text_lb (F : q_s → q_a → q_g → Int32 → Int64 → Int32 → Option (Int32 × q_S)) (s : q_s) (a : q_a) (g : q_g) (x1 : Int32) (x2 : Int64) (x4 : Int32) : Option (Int32 × q_S) :=
 if x1 ≤ x4 then
  q_bd (q_us s 1 ((s 1) + x1)) fun s2 =>
  some (s2 1, s2, a, g)
 else
  q_ck ((s 1) + x4) 200 <|
  q_bd (q_ua a 0 (((s 1) + x4).toNatClampNeg) (vp_nar .byte (((((x2.toUInt64 >>> ((8 * x4).toInt64.toUInt64 &&& Int64.toUInt64 63)).toInt64) &&& 127).toInt32).toInt8.toInt32))) fun a6 =>
   F s a6 g x1 x2 (x4 + 1)
def f_X2_text_lp (k : Nat) : q_s → q_a → q_g → Int32 → Int64 → Int32 → Option (Int32 × q_S) := match k with
  | 0 => fun _ _ _ _ _ _ => none
  | k + 1 => fun s a g x1 x2 x4 => f_X2_text_lb (f_X2_text_lp k) s a g x1 x2 x4
def f_X2_text (n : Nat) (s : q_s) (a : q_a) (g : q_g) (p1 : Int32) (p2 : Int64) : Option (Int32 × q_S) :=
 if p1 < 1 then
  some ((-2), s, a, g)
 else
  if p1 ≤ 8 then
   if (s 1) + p1 ≤ 200 then
    f_X2_text_lp n s a g p1 p2 0
   else
    some ((-3), s, a, g)
  else
   some ((-2), s, a, g)
theorem e_X2_text : yX2_text.cls = RX2 ∧ yX2_text.cls ≠ "java/lang/invoke/MethodHandle" ∧ yX2_text.cls ≠ "java/lang/invoke/VarHandle" ∧ (parseMethodDescriptor yX2_text.desc).map (fun d => d.parameters.length) = some 2 := by decide +kernel
set_option maxHeartbeats 4000000 in
set_option maxRecDepth 100000 in
theorem c_X2_text {l : Launch} {D : va_G} {h : Nat} {ad : Nat → Nat} {ca : Nat → ClassId} {n : Nat} {s s9 : q_s} {a a9 : q_a} {g g9 : q_g} {p1 : Int32} {p2 : Int64} {r9 : Int32} (hf : f_X2_text n s a g p1 p2 = some (r9, s9, a9, g9)) : q_Mi l yX2_text wsX2_text ({ frames := 0, cells := 0, slots := 0, locals := 0 }) D (q_tY ca) (q_wY h ad ca) [.ref h, .int p1, .long p2] s a g r9 s9 a9 g9 := by
  unfold f_X2_text at hf
  refine q_entI (cc := cX2_text) (maxL := 5) (ret := (some .int)) (by decide) rfl (Nat.le_of_ble_eq_true rfl) ?_
  intro p e st m args below meth c A ls C hr hlocks hml hA I hl
  have hl : lv_has ls 5 [(0, .ref h), (1, .int p1), (2, .long p2)] := hl
  have hinX2 : ∀ w ∈ wsX20, w ∈ wsX2_text := fun _ h => List.mem_cons_of_mem _ (List.mem_append_right _ h)
  have k57 : Cond.fieldLink RX2 57 "ReaderYard" "signCount" "I" ∈ wsX2_text := by decide +kernel
  have k9 : Cond.fieldLink RX2 9 "ReaderYard" "signs" "[B" ∈ wsX2_text := by decide +kernel
  have k61 : Cond.constantLong RX2 61 (127) ∈ wsX2_text := by decide +kernel
  have lp : ∀ (k : Nat) (s : q_s) (a : q_a) (g : q_g) (x1 : Int32) (x2 : Int64) (x4 : Int32) (H : Heap) (locs : List Loc) (ls : Array Slot), f_X2_text_lp k s a g x1 x2 x4 = some (r9, s9, a9, g9) → q_I D A st.heap H locs (q_wY h ad ca s a g) → lv_has ls 5 [(0, .ref h), (1, .int x1), (2, .long x2), (4, .int x4)] → W p l e ({ frames := 0, cells := 0, slots := 0, locals := 0 }) st m args below meth c H locs 0 0 (MQ below (va_Qi (fun (r2 : Int32) (u : q_S) => r2 = r9 ∧ u = (s9, a9, g9)) (q_B D (q_tY ca) (q_wY h ad ca) A) A) args st 0 0 A) (F0 m 32 ls []) := by
    intro k
    induction k with
    | zero => intro s a g x1 x2 x4 H locs ls hf; exact absurd hf (by simp [f_X2_text_lp])
    | succ k ih =>
      intro s a g x1 x2 x4 H locs ls hf I hl
      have hf : f_X2_text_lb (f_X2_text_lp k) s a g x1 x2 x4 = some (r9, s9, a9, g9) := hf
      unfold f_X2_text_lb at hf
      refine lv_iload C.1 C.2.1 dX2_text_32 (lv_at hl 3 rfl) ?_
      refine lv_iload_n C.1 C.2.1 dX2_text_34 rfl (lv_at hl 1 rfl) ?_
      refine lv_icmp_ge (tgt := 69) C.1 C.2.1 dX2_text_35 (by decide) (fun c1 => ?_) (fun c1 => ?_)
      · have hf := q_if_t hf c1
        refine lv_aload_n C.1 C.2.1 dX2_text_69 rfl (lv_at hl 0 rfl) ?_
        refine lv_dup C.1 C.2.1 dX2_text_70 rfl ?_
        refine q_get_RX2_57 C hinX2 k57 I dX2_text_71 ?_
        refine lv_iload_n C.1 C.2.1 dX2_text_74 rfl (lv_at hl 1 rfl) ?_
        refine lv_iadd C.1 C.2.1 dX2_text_75 ?_
        obtain ⟨s2, e3, hf⟩ := q_bd_some hf
        refine q_put_RX2_57 C hinX2 k57 e3 I dX2_text_76 (fun H locs I => ?_)
        refine lv_aload_n C.1 C.2.1 dX2_text_79 rfl (lv_at hl 0 rfl) ?_
        refine q_get_RX2_57 C hinX2 k57 I dX2_text_80 ?_
        obtain ⟨rfl, rfl, rfl, rfl⟩ := q_some4 hf
        exact q_iret C hr hlocks I dX2_text_83
      · have hf := q_if_f hf c1
        refine lv_aload_n C.1 C.2.1 dX2_text_38 rfl (lv_at hl 0 rfl) ?_
        refine q_get_RX2_9 C hinX2 k9 I dX2_text_39 ?_
        refine lv_aload_n C.1 C.2.1 dX2_text_42 rfl (lv_at hl 0 rfl) ?_
        refine q_get_RX2_57 C hinX2 k57 I dX2_text_43 ?_
        refine lv_iload C.1 C.2.1 dX2_text_46 (lv_at hl 3 rfl) ?_
        refine lv_iadd C.1 C.2.1 dX2_text_48 ?_
        refine lv_lload_n C.1 C.2.1 dX2_text_49 rfl (lv_at hl 2 rfl) ?_
        refine lv_bipush (v := 8) C.1 C.2.1 dX2_text_50 (by decide) ?_
        refine lv_iload C.1 C.2.1 dX2_text_52 (lv_at hl 3 rfl) ?_
        refine lv_imul C.1 C.2.1 dX2_text_54 ?_
        refine lv_lushr (v := (x2.toUInt64 >>> ((8 * x4).toInt64.toUInt64 &&& Int64.toUInt64 63)).toInt64) C.1 C.2.1 dX2_text_55 rfl ?_
        refine lv_ldc2 (v := 127) C.1 C.2.1 C.2.2.1 (C.2.2.2.1 _ k61) dX2_text_56 ?_
        refine lv_land C.1 C.2.1 dX2_text_59 ?_
        refine lv_l2i (v := (((x2.toUInt64 >>> ((8 * x4).toInt64.toUInt64 &&& Int64.toUInt64 63)).toInt64) &&& 127).toInt32) C.1 C.2.1 dX2_text_60 rfl ?_
        refine lv_i2b (v := ((((x2.toUInt64 >>> ((8 * x4).toInt64.toUInt64 &&& Int64.toUInt64 63)).toInt64) &&& 127).toInt32).toInt8.toInt32) C.1 C.2.1 dX2_text_61 rfl ?_
        obtain ⟨b4, hf⟩ := q_ck_some hf
        obtain ⟨a6, e5, hf⟩ := q_bd_some hf
        refine q_st_Y_signs C b4 e5 I dX2_text_62 (fun H locs I => ?_)
        refine lv_iinc (v := x4 + 1) (lv' := [(4, .int (x4 + 1)), (0, .ref h), (1, .int x1), (2, .long x2)]) C.1 C.2.1 dX2_text_63 hl (k := 3) rfl rfl (by decide) rfl (fun ls hl => ?_)
        refine lv_goto (tgt := 32) C.1 C.2.1 dX2_text_66 (by decide) ?_
        exact ih _ _ _ _ _ _ _ _ _ hf I (lv_sub hl [1, 2, 3, 0] rfl)
  refine lv_iload_n C.1 C.2.1 dX2_text_0 rfl (lv_at hl 1 rfl) ?_
  refine lv_iconst (v := 1) C.1 C.2.1 dX2_text_1 (by decide) ?_
  refine lv_icmp_lt (tgt := 11) C.1 C.2.1 dX2_text_2 (by decide) (fun c7 => ?_) (fun c7 => ?_)
  · have hf := q_if_t hf c7
    refine lv_bipush (v := (-2)) C.1 C.2.1 dX2_text_11 (by decide) ?_
    obtain ⟨rfl, rfl, rfl, rfl⟩ := q_some4 hf
    exact q_iret C hr hlocks I dX2_text_13
  · have hf := q_if_f hf c7
    refine lv_iload_n C.1 C.2.1 dX2_text_5 rfl (lv_at hl 1 rfl) ?_
    refine lv_bipush (v := 8) C.1 C.2.1 dX2_text_6 (by decide) ?_
    refine lv_icmp_le (tgt := 14) C.1 C.2.1 dX2_text_8 (by decide) (fun c8 => ?_) (fun c8 => ?_)
    · have hf := q_if_t hf c8
      refine lv_aload_n C.1 C.2.1 dX2_text_14 rfl (lv_at hl 0 rfl) ?_
      refine q_get_RX2_57 C hinX2 k57 I dX2_text_15 ?_
      refine lv_iload_n C.1 C.2.1 dX2_text_18 rfl (lv_at hl 1 rfl) ?_
      refine lv_iadd C.1 C.2.1 dX2_text_19 ?_
      refine lv_sipush (v := 200) C.1 C.2.1 dX2_text_20 (by decide) ?_
      refine lv_icmp_le (tgt := 29) C.1 C.2.1 dX2_text_23 (by decide) (fun c9 => ?_) (fun c9 => ?_)
      · have hf := q_if_t hf c9
        refine lv_iconst (v := 0) C.1 C.2.1 dX2_text_29 (by decide) ?_
        refine lv_istore (lv' := [(4, .int 0), (0, .ref h), (1, .int p1), (2, .long p2)]) C.1 C.2.1 dX2_text_30 hl (by decide) rfl (fun ls hl => ?_)
        exact lp n _ _ _ _ _ _ _ _ _ hf I (lv_sub hl [1, 2, 3, 0] rfl)
      · have hf := q_if_f hf c9
        refine lv_bipush (v := (-3)) C.1 C.2.1 dX2_text_26 (by decide) ?_
        obtain ⟨rfl, rfl, rfl, rfl⟩ := q_some4 hf
        exact q_iret C hr hlocks I dX2_text_28
    · have hf := q_if_f hf c8
      refine lv_bipush (v := (-2)) C.1 C.2.1 dX2_text_11 (by decide) ?_
      obtain ⟨rfl, rfl, rfl, rfl⟩ := q_some4 hf
      exact q_iret C hr hlocks I dX2_text_13
def f_X2_clear (s : q_s) (a : q_a) (g : q_g) : Option (Int32 × q_S) :=
 q_bd (q_us s 1 0) fun s1 =>
 some (s 1, s1, a, g)
theorem e_X2_clear : yX2_clear.cls = RX2 ∧ yX2_clear.cls ≠ "java/lang/invoke/MethodHandle" ∧ yX2_clear.cls ≠ "java/lang/invoke/VarHandle" ∧ (parseMethodDescriptor yX2_clear.desc).map (fun d => d.parameters.length) = some 0 := by decide +kernel
set_option maxHeartbeats 4000000 in
set_option maxRecDepth 100000 in
theorem c_X2_clear {l : Launch} {D : va_G} {h : Nat} {ad : Nat → Nat} {ca : Nat → ClassId} {s s9 : q_s} {a a9 : q_a} {g g9 : q_g} {r9 : Int32} (hf : f_X2_clear s a g = some (r9, s9, a9, g9)) : q_Mi l yX2_clear wsX2_clear ({ frames := 0, cells := 0, slots := 0, locals := 0 }) D (q_tY ca) (q_wY h ad ca) [.ref h] s a g r9 s9 a9 g9 := by
  unfold f_X2_clear at hf
  refine q_entI (cc := cX2_clear) (maxL := 2) (ret := (some .int)) (by decide) rfl (Nat.le_of_ble_eq_true rfl) ?_
  intro p e st m args below meth c A ls C hr hlocks hml hA I hl
  have hl : lv_has ls 2 [(0, .ref h)] := hl
  have hinX2 : ∀ w ∈ wsX20, w ∈ wsX2_clear := fun _ h => List.mem_cons_of_mem _ (List.mem_append_right _ h)
  have k57 : Cond.fieldLink RX2 57 "ReaderYard" "signCount" "I" ∈ wsX2_clear := by decide +kernel
  refine lv_aload_n C.1 C.2.1 dX2_clear_0 rfl (lv_at hl 0 rfl) ?_
  refine q_get_RX2_57 C hinX2 k57 I dX2_clear_1 ?_
  refine lv_istore_n (lv' := [(1, .int (s 1)), (0, .ref h)]) C.1 C.2.1 dX2_clear_4 rfl hl (by decide) rfl (fun ls hl => ?_)
  refine lv_aload_n C.1 C.2.1 dX2_clear_5 rfl (lv_at hl 1 rfl) ?_
  refine lv_iconst (v := 0) C.1 C.2.1 dX2_clear_6 (by decide) ?_
  obtain ⟨s1, e2, hf⟩ := q_bd_some hf
  refine q_put_RX2_57 C hinX2 k57 e2 I dX2_clear_7 (fun H locs I => ?_)
  refine lv_iload_n C.1 C.2.1 dX2_clear_10 rfl (lv_at hl 0 rfl) ?_
  obtain ⟨rfl, rfl, rfl, rfl⟩ := q_some4 hf
  exact q_iret C hr hlocks I dX2_clear_11
def f_X2_reader (s : q_s) (a : q_a) (g : q_g) (p1 : Int32) (p2 : Int32) (p3 : Int32) : Option (Int32 × q_S) :=
 if p1 < 0 then
  some ((-2), s, a, g)
 else
  if 15 < p1 then
   some ((-2), s, a, g)
  else
   q_ci (f_X2_fitsFirst s a g p1 p2) fun r7 s3 a4 g5 =>
   if r7 = 0 then
    some ((-2), s3, a4, g5)
   else
    q_ci (f_X2_fitsSecond s3 a4 g5 p1 p3) fun r13 s9 a10 g11 =>
    if r13 = 0 then
     some ((-2), s9, a10, g11)
    else
     if s9 6 < 50 then
      q_ci (f_X2_addReader s9 a10 g11 p1 p2 p3) fun r20 s16 a17 g18 =>
      some (r20, s16, a17, g18)
     else
      some ((-3), s9, a10, g11)
theorem e_X2_reader : yX2_reader.cls = RX2 ∧ yX2_reader.cls ≠ "java/lang/invoke/MethodHandle" ∧ yX2_reader.cls ≠ "java/lang/invoke/VarHandle" ∧ (parseMethodDescriptor yX2_reader.desc).map (fun d => d.parameters.length) = some 3 := by decide +kernel
set_option maxHeartbeats 4000000 in
set_option maxRecDepth 100000 in
theorem c_X2_reader {l : Launch} {D : va_G} {h : Nat} {ad : Nat → Nat} {ca : Nat → ClassId} {s s9 : q_s} {a a9 : q_a} {g g9 : q_g} {p1 : Int32} {p2 : Int32} {p3 : Int32} {r9 : Int32} (hf : f_X2_reader s a g p1 p2 p3 = some (r9, s9, a9, g9)) : q_Mi l yX2_reader wsX2_reader ({ frames := 2, cells := 0, slots := 0, locals := 43 }) D (q_tY ca) (q_wY h ad ca) [.ref h, .int p1, .int p2, .int p3] s a g r9 s9 a9 g9 := by
  unfold f_X2_reader at hf
  refine q_entI (cc := cX2_reader) (maxL := 4) (ret := (some .int)) (by decide) rfl (Nat.le_of_ble_eq_true rfl) ?_
  intro p e st m args below meth c A ls C hr hlocks hml hA I hl
  have hl : lv_has ls 4 [(0, .ref h), (1, .int p1), (2, .int p2), (3, .int p3)] := hl
  have hinX2 : ∀ w ∈ wsX20, w ∈ wsX2_reader := fun _ h => List.mem_cons_of_mem _ (List.mem_append_right _ h)
  have k70 : Cond.fieldLink RX2 70 "ReaderYard" "readerCount" "I" ∈ wsX2_reader := by decide +kernel
  refine lv_iload_n C.1 C.2.1 dX2_reader_0 rfl (lv_at hl 1 rfl) ?_
  refine lv_if_lt (tgt := 28) C.1 C.2.1 dX2_reader_1 (by decide) (fun c1 => ?_) (fun c1 => ?_)
  · have hf := q_if_t hf c1
    refine lv_bipush (v := (-2)) C.1 C.2.1 dX2_reader_28 (by decide) ?_
    obtain ⟨rfl, rfl, rfl, rfl⟩ := q_some4 hf
    exact q_iret C hr hlocks I dX2_reader_30
  · have hf := q_if_f hf c1
    refine lv_iload_n C.1 C.2.1 dX2_reader_4 rfl (lv_at hl 1 rfl) ?_
    refine lv_bipush (v := 15) C.1 C.2.1 dX2_reader_5 (by decide) ?_
    refine lv_icmp_gt (tgt := 28) C.1 C.2.1 dX2_reader_7 (by decide) (fun c2 => ?_) (fun c2 => ?_)
    · have hf := q_if_t hf c2
      refine lv_bipush (v := (-2)) C.1 C.2.1 dX2_reader_28 (by decide) ?_
      obtain ⟨rfl, rfl, rfl, rfl⟩ := q_some4 hf
      exact q_iret C hr hlocks I dX2_reader_30
    · have hf := q_if_f hf c2
      refine lv_aload_n C.1 C.2.1 dX2_reader_10 rfl (lv_at hl 0 rfl) ?_
      refine lv_iload_n C.1 C.2.1 dX2_reader_11 rfl (lv_at hl 1 rfl) ?_
      refine lv_iload_n C.1 C.2.1 dX2_reader_12 rfl (lv_at hl 2 rfl) ?_
      obtain ⟨r7, s3, a4, g5, h6, hf⟩ := q_ci_some hf
      refine q_callVi (As := [.int p1, .int p2]) (rest := []) C hml (c_X2_fitsFirst h6) (cwV 2 C.2.2.2.1 gX2_reader_X2_fitsFirst rfl rfl rfl e_X2_fitsFirst ⟨Nat.le_of_ble_eq_true rfl, Nat.le_of_ble_eq_true rfl⟩) I hA (q0 := 0) (ci := 2) rfl rfl rfl rfl hl.1 rfl (Nat.le_of_ble_eq_true rfl) dX2_reader_13 ⟨Nat.zero_le _, Nat.zero_le _⟩ (fun H locs I => ?_)
      refine lv_if_eq (tgt := 28) C.1 C.2.1 dX2_reader_16 (by decide) (fun c8 => ?_) (fun c8 => ?_)
      · have hf := q_if_t hf c8
        refine lv_bipush (v := (-2)) C.1 C.2.1 dX2_reader_28 (by decide) ?_
        obtain ⟨rfl, rfl, rfl, rfl⟩ := q_some4 hf
        exact q_iret C hr hlocks I dX2_reader_30
      · have hf := q_if_f hf c8
        refine lv_aload_n C.1 C.2.1 dX2_reader_19 rfl (lv_at hl 0 rfl) ?_
        refine lv_iload_n C.1 C.2.1 dX2_reader_20 rfl (lv_at hl 1 rfl) ?_
        refine lv_iload_n C.1 C.2.1 dX2_reader_21 rfl (lv_at hl 3 rfl) ?_
        obtain ⟨r13, s9, a10, g11, h12, hf⟩ := q_ci_some hf
        refine q_callVi (As := [.int p1, .int p3]) (rest := []) C hml (c_X2_fitsSecond h12) (cwV 2 C.2.2.2.1 gX2_reader_X2_fitsSecond rfl rfl rfl e_X2_fitsSecond ⟨Nat.le_of_ble_eq_true rfl, Nat.le_of_ble_eq_true rfl⟩) I hA (q0 := 0) (ci := 2) rfl rfl rfl rfl hl.1 rfl (Nat.le_of_ble_eq_true rfl) dX2_reader_22 ⟨Nat.zero_le _, Nat.zero_le _⟩ (fun H locs I => ?_)
        refine lv_if_ne (tgt := 31) C.1 C.2.1 dX2_reader_25 (by decide) (fun c14 => ?_) (fun c14 => ?_)
        · have hf := q_if_f hf c14
          refine lv_aload_n C.1 C.2.1 dX2_reader_31 rfl (lv_at hl 0 rfl) ?_
          refine q_get_RX2_70 C hinX2 k70 I dX2_reader_32 ?_
          refine lv_bipush (v := 50) C.1 C.2.1 dX2_reader_35 (by decide) ?_
          refine lv_icmp_lt (tgt := 43) C.1 C.2.1 dX2_reader_37 (by decide) (fun c15 => ?_) (fun c15 => ?_)
          · have hf := q_if_t hf c15
            refine lv_aload_n C.1 C.2.1 dX2_reader_43 rfl (lv_at hl 0 rfl) ?_
            refine lv_iload_n C.1 C.2.1 dX2_reader_44 rfl (lv_at hl 1 rfl) ?_
            refine lv_iload_n C.1 C.2.1 dX2_reader_45 rfl (lv_at hl 2 rfl) ?_
            refine lv_iload_n C.1 C.2.1 dX2_reader_46 rfl (lv_at hl 3 rfl) ?_
            obtain ⟨r20, s16, a17, g18, h19, hf⟩ := q_ci_some hf
            refine q_callVi (As := [.int p1, .int p2, .int p3]) (rest := []) C hml (c_X2_addReader h19) (cwV 3 C.2.2.2.1 gX2_reader_X2_addReader rfl rfl rfl e_X2_addReader ⟨Nat.le_of_ble_eq_true rfl, Nat.le_of_ble_eq_true rfl⟩) I hA (q0 := 0) (ci := 2) rfl rfl rfl rfl hl.1 rfl (Nat.le_of_ble_eq_true rfl) dX2_reader_47 ⟨Nat.zero_le _, Nat.zero_le _⟩ (fun H locs I => ?_)
            obtain ⟨rfl, rfl, rfl, rfl⟩ := q_some4 hf
            exact q_iret C hr hlocks I dX2_reader_50
          · have hf := q_if_f hf c15
            refine lv_bipush (v := (-3)) C.1 C.2.1 dX2_reader_40 (by decide) ?_
            obtain ⟨rfl, rfl, rfl, rfl⟩ := q_some4 hf
            exact q_iret C hr hlocks I dX2_reader_42
        · have hf := q_if_t hf c14
          refine lv_bipush (v := (-2)) C.1 C.2.1 dX2_reader_28 (by decide) ?_
          obtain ⟨rfl, rfl, rfl, rfl⟩ := q_some4 hf
          exact q_iret C hr hlocks I dX2_reader_30
def f_X2_name (s : q_s) (a : q_a) (g : q_g) (p1 : Int32) (p2 : Int32) : Option (Int32 × q_S) :=
 q_ci (f_X2_isName s a g p1) fun r5 s1 a2 g3 =>
 if r5 = 0 then
  some ((-2), s1, a2, g3)
 else
  if p2 = (-1) then
   q_ck p1 10 <|
   q_ck p1 10 <|
   q_bd (q_ua a2 7 p1.toNatClampNeg p2) fun a11 =>
   if a2 7 p1.toNatClampNeg = (-1) then
    some (0, s1, a11, g3)
   else
    some (1, s1, a11, g3)
  else
   q_ci (f_X2_isReader s1 a2 g3 p2) fun r17 s13 a14 g15 =>
   if r17 = 0 then
    some ((-2), s13, a14, g15)
   else
    q_ck p1 10 <|
    q_ck p1 10 <|
    q_bd (q_ua a14 7 p1.toNatClampNeg p2) fun a22 =>
    if a14 7 p1.toNatClampNeg = (-1) then
     some (0, s13, a22, g15)
    else
     some (1, s13, a22, g15)
theorem e_X2_name : yX2_name.cls = RX2 ∧ yX2_name.cls ≠ "java/lang/invoke/MethodHandle" ∧ yX2_name.cls ≠ "java/lang/invoke/VarHandle" ∧ (parseMethodDescriptor yX2_name.desc).map (fun d => d.parameters.length) = some 2 := by decide +kernel
set_option maxHeartbeats 4000000 in
set_option maxRecDepth 100000 in
theorem c_X2_name {l : Launch} {D : va_G} {h : Nat} {ad : Nat → Nat} {ca : Nat → ClassId} {s s9 : q_s} {a a9 : q_a} {g g9 : q_g} {p1 : Int32} {p2 : Int32} {r9 : Int32} (hf : f_X2_name s a g p1 p2 = some (r9, s9, a9, g9)) : q_Mi l yX2_name wsX2_name ({ frames := 1, cells := 0, slots := 0, locals := 21 }) D (q_tY ca) (q_wY h ad ca) [.ref h, .int p1, .int p2] s a g r9 s9 a9 g9 := by
  unfold f_X2_name at hf
  refine q_entI (cc := cX2_name) (maxL := 4) (ret := (some .int)) (by decide) rfl (Nat.le_of_ble_eq_true rfl) ?_
  intro p e st m args below meth c A ls C hr hlocks hml hA I hl
  have hl : lv_has ls 4 [(0, .ref h), (1, .int p1), (2, .int p2)] := hl
  have hinX2 : ∀ w ∈ wsX20, w ∈ wsX2_name := fun _ h => List.mem_cons_of_mem _ (List.mem_append_right _ h)
  have k26 : Cond.fieldLink RX2 26 "ReaderYard" "names" "[I" ∈ wsX2_name := by decide +kernel
  refine lv_iload_n C.1 C.2.1 dX2_name_0 rfl (lv_at hl 1 rfl) ?_
  obtain ⟨r5, s1, a2, g3, h4, hf⟩ := q_ci_some hf
  refine q_callSi (As := [.int p1]) (rest := []) C hml (c_X2_isName h4) (va_cwS 1 C.2.2.2.1 gX2_name_X2_isName rfl rfl rfl e_X2_isName ⟨Nat.le_of_ble_eq_true rfl, Nat.le_of_ble_eq_true rfl⟩) I hA rfl hl.1 rfl (Nat.le_of_ble_eq_true rfl) dX2_name_1 ⟨Nat.zero_le _, Nat.zero_le _⟩ (fun H locs I => ?_)
  refine lv_if_eq (tgt := 20) C.1 C.2.1 dX2_name_4 (by decide) (fun c6 => ?_) (fun c6 => ?_)
  · have hf := q_if_t hf c6
    refine lv_bipush (v := (-2)) C.1 C.2.1 dX2_name_20 (by decide) ?_
    obtain ⟨rfl, rfl, rfl, rfl⟩ := q_some4 hf
    exact q_iret C hr hlocks I dX2_name_22
  · have hf := q_if_f hf c6
    refine lv_iload_n C.1 C.2.1 dX2_name_7 rfl (lv_at hl 2 rfl) ?_
    refine lv_iconst (v := (-1)) C.1 C.2.1 dX2_name_8 (by decide) ?_
    refine lv_icmp_eq (tgt := 23) C.1 C.2.1 dX2_name_9 (by decide) (fun c7 => ?_) (fun c7 => ?_)
    · have hf := q_if_t hf c7
      refine lv_aload_n C.1 C.2.1 dX2_name_23 rfl (lv_at hl 0 rfl) ?_
      refine q_get_RX2_26 C hinX2 k26 I dX2_name_24 ?_
      refine lv_iload_n C.1 C.2.1 dX2_name_27 rfl (lv_at hl 1 rfl) ?_
      obtain ⟨b8, hf⟩ := q_ck_some hf
      refine q_ld_Y_names C b8 I dX2_name_28 ?_
      refine lv_istore_n (lv' := [(3, .int (a2 7 p1.toNatClampNeg)), (0, .ref h), (1, .int p1), (2, .int p2)]) C.1 C.2.1 dX2_name_29 rfl hl (by decide) rfl (fun ls hl => ?_)
      refine lv_aload_n C.1 C.2.1 dX2_name_30 rfl (lv_at hl 1 rfl) ?_
      refine q_get_RX2_26 C hinX2 k26 I dX2_name_31 ?_
      refine lv_iload_n C.1 C.2.1 dX2_name_34 rfl (lv_at hl 2 rfl) ?_
      refine lv_iload_n C.1 C.2.1 dX2_name_35 rfl (lv_at hl 3 rfl) ?_
      obtain ⟨b9, hf⟩ := q_ck_some hf
      obtain ⟨a11, e10, hf⟩ := q_bd_some hf
      refine q_st_Y_names C b9 e10 I dX2_name_36 (fun H locs I => ?_)
      refine lv_iload_n C.1 C.2.1 dX2_name_37 rfl (lv_at hl 0 rfl) ?_
      refine lv_iconst (v := (-1)) C.1 C.2.1 dX2_name_38 (by decide) ?_
      refine lv_icmp_ne (tgt := 46) C.1 C.2.1 dX2_name_39 (by decide) (fun c12 => ?_) (fun c12 => ?_)
      · have hf := q_if_f hf c12
        refine lv_iconst (v := 1) C.1 C.2.1 dX2_name_46 (by decide) ?_
        obtain ⟨rfl, rfl, rfl, rfl⟩ := q_some4 hf
        exact q_iret C hr hlocks I dX2_name_47
      · have hf := q_if_t hf c12
        refine lv_iconst (v := 0) C.1 C.2.1 dX2_name_42 (by decide) ?_
        refine lv_goto (tgt := 47) C.1 C.2.1 dX2_name_43 (by decide) ?_
        obtain ⟨rfl, rfl, rfl, rfl⟩ := q_some4 hf
        exact q_iret C hr hlocks I dX2_name_47
    · have hf := q_if_f hf c7
      refine lv_aload_n C.1 C.2.1 dX2_name_12 rfl (lv_at hl 0 rfl) ?_
      refine lv_iload_n C.1 C.2.1 dX2_name_13 rfl (lv_at hl 2 rfl) ?_
      obtain ⟨r17, s13, a14, g15, h16, hf⟩ := q_ci_some hf
      refine q_callVi (As := [.int p2]) (rest := []) C hml (c_X2_isReader h16) (cwV 1 C.2.2.2.1 gX2_name_X2_isReader rfl rfl rfl e_X2_isReader ⟨Nat.le_of_ble_eq_true rfl, Nat.le_of_ble_eq_true rfl⟩) I hA (q0 := 0) (ci := 2) rfl rfl rfl rfl hl.1 rfl (Nat.le_of_ble_eq_true rfl) dX2_name_14 ⟨Nat.zero_le _, Nat.zero_le _⟩ (fun H locs I => ?_)
      refine lv_if_ne (tgt := 23) C.1 C.2.1 dX2_name_17 (by decide) (fun c18 => ?_) (fun c18 => ?_)
      · have hf := q_if_f hf c18
        refine lv_aload_n C.1 C.2.1 dX2_name_23 rfl (lv_at hl 0 rfl) ?_
        refine q_get_RX2_26 C hinX2 k26 I dX2_name_24 ?_
        refine lv_iload_n C.1 C.2.1 dX2_name_27 rfl (lv_at hl 1 rfl) ?_
        obtain ⟨b19, hf⟩ := q_ck_some hf
        refine q_ld_Y_names C b19 I dX2_name_28 ?_
        refine lv_istore_n (lv' := [(3, .int (a14 7 p1.toNatClampNeg)), (0, .ref h), (1, .int p1), (2, .int p2)]) C.1 C.2.1 dX2_name_29 rfl hl (by decide) rfl (fun ls hl => ?_)
        refine lv_aload_n C.1 C.2.1 dX2_name_30 rfl (lv_at hl 1 rfl) ?_
        refine q_get_RX2_26 C hinX2 k26 I dX2_name_31 ?_
        refine lv_iload_n C.1 C.2.1 dX2_name_34 rfl (lv_at hl 2 rfl) ?_
        refine lv_iload_n C.1 C.2.1 dX2_name_35 rfl (lv_at hl 3 rfl) ?_
        obtain ⟨b20, hf⟩ := q_ck_some hf
        obtain ⟨a22, e21, hf⟩ := q_bd_some hf
        refine q_st_Y_names C b20 e21 I dX2_name_36 (fun H locs I => ?_)
        refine lv_iload_n C.1 C.2.1 dX2_name_37 rfl (lv_at hl 0 rfl) ?_
        refine lv_iconst (v := (-1)) C.1 C.2.1 dX2_name_38 (by decide) ?_
        refine lv_icmp_ne (tgt := 46) C.1 C.2.1 dX2_name_39 (by decide) (fun c23 => ?_) (fun c23 => ?_)
        · have hf := q_if_f hf c23
          refine lv_iconst (v := 1) C.1 C.2.1 dX2_name_46 (by decide) ?_
          obtain ⟨rfl, rfl, rfl, rfl⟩ := q_some4 hf
          exact q_iret C hr hlocks I dX2_name_47
        · have hf := q_if_t hf c23
          refine lv_iconst (v := 0) C.1 C.2.1 dX2_name_42 (by decide) ?_
          refine lv_goto (tgt := 47) C.1 C.2.1 dX2_name_43 (by decide) ?_
          obtain ⟨rfl, rfl, rfl, rfl⟩ := q_some4 hf
          exact q_iret C hr hlocks I dX2_name_47
      · have hf := q_if_t hf c18
        refine lv_bipush (v := (-2)) C.1 C.2.1 dX2_name_20 (by decide) ?_
        obtain ⟨rfl, rfl, rfl, rfl⟩ := q_some4 hf
        exact q_iret C hr hlocks I dX2_name_22
def f_X2_read (n : Nat) (s : q_s) (a : q_a) (g : q_g) (p1 : Int32) (p2 : Int32) : Option (Int32 × q_S) :=
 q_ci (f_X2_isReader s a g p1) fun r5 s1 a2 g3 =>
 if r5 = 0 then
  some ((-2), s1, a2, g3)
 else
  if p2 < 0 then
   some ((-2), s1, a2, g3)
  else
   if p2 ≤ s1 1 then
    q_cv (f_X2_startCall s1 a2 g3) fun s9 a10 g11 =>
    q_ci (f_X2_follow n 151 s9 a10 g11 p1 p2 1 0) fun r18 s14 a15 g16 =>
    q_ci (f_X2_isFault s14 a15 g16 r18) fun r23 s19 a20 g21 =>
    if r23 = 0 then
     some (r18, s19, a20, g21)
    else
     q_cv (f_X2_noteFault s19 a20 g21 r18) fun s25 a26 g27 =>
     some (r18, s25, a26, g27)
   else
    some ((-2), s1, a2, g3)
theorem e_X2_read : yX2_read.cls = RX2 ∧ yX2_read.cls ≠ "java/lang/invoke/MethodHandle" ∧ yX2_read.cls ≠ "java/lang/invoke/VarHandle" ∧ (parseMethodDescriptor yX2_read.desc).map (fun d => d.parameters.length) = some 2 := by decide +kernel
set_option maxHeartbeats 4000000 in
set_option maxRecDepth 100000 in
theorem c_X2_read {l : Launch} {D : va_G} {h : Nat} {ad : Nat → Nat} {ca : Nat → ClassId} {n : Nat} {s s9 : q_s} {a a9 : q_a} {g g9 : q_g} {p1 : Int32} {p2 : Int32} {r9 : Int32} (hf : f_X2_read n s a g p1 p2 = some (r9, s9, a9, g9)) : q_Mi l yX2_read wsX2_read ({ frames := 156, cells := 0, slots := 0, locals := 4809 }) D (q_tY ca) (q_wY h ad ca) [.ref h, .int p1, .int p2] s a g r9 s9 a9 g9 := by
  unfold f_X2_read at hf
  refine q_entI (cc := cX2_read) (maxL := 4) (ret := (some .int)) (by decide) rfl (Nat.le_of_ble_eq_true rfl) ?_
  intro p e st m args below meth c A ls C hr hlocks hml hA I hl
  have hl : lv_has ls 4 [(0, .ref h), (1, .int p1), (2, .int p2)] := hl
  have hinX2 : ∀ w ∈ wsX20, w ∈ wsX2_read := fun _ h => List.mem_cons_of_mem _ (List.mem_append_left _ (List.mem_append_left _ (List.mem_append_right _ h)))
  have k57 : Cond.fieldLink RX2 57 "ReaderYard" "signCount" "I" ∈ wsX2_read := by decide +kernel
  refine lv_aload_n C.1 C.2.1 dX2_read_0 rfl (lv_at hl 0 rfl) ?_
  refine lv_iload_n C.1 C.2.1 dX2_read_1 rfl (lv_at hl 1 rfl) ?_
  obtain ⟨r5, s1, a2, g3, h4, hf⟩ := q_ci_some hf
  refine q_callVi (As := [.int p1]) (rest := []) C hml (c_X2_isReader h4) (cwV 1 C.2.2.2.1 gX2_read_X2_isReader rfl rfl rfl e_X2_isReader ⟨Nat.le_of_ble_eq_true rfl, Nat.le_of_ble_eq_true rfl⟩) I hA (q0 := 0) (ci := 2) rfl rfl rfl rfl hl.1 rfl (Nat.le_of_ble_eq_true rfl) dX2_read_2 ⟨Nat.zero_le _, Nat.zero_le _⟩ (fun H locs I => ?_)
  refine lv_if_eq (tgt := 20) C.1 C.2.1 dX2_read_5 (by decide) (fun c6 => ?_) (fun c6 => ?_)
  · have hf := q_if_t hf c6
    refine lv_bipush (v := (-2)) C.1 C.2.1 dX2_read_20 (by decide) ?_
    obtain ⟨rfl, rfl, rfl, rfl⟩ := q_some4 hf
    exact q_iret C hr hlocks I dX2_read_22
  · have hf := q_if_f hf c6
    refine lv_iload_n C.1 C.2.1 dX2_read_8 rfl (lv_at hl 2 rfl) ?_
    refine lv_if_lt (tgt := 20) C.1 C.2.1 dX2_read_9 (by decide) (fun c7 => ?_) (fun c7 => ?_)
    · have hf := q_if_t hf c7
      refine lv_bipush (v := (-2)) C.1 C.2.1 dX2_read_20 (by decide) ?_
      obtain ⟨rfl, rfl, rfl, rfl⟩ := q_some4 hf
      exact q_iret C hr hlocks I dX2_read_22
    · have hf := q_if_f hf c7
      refine lv_iload_n C.1 C.2.1 dX2_read_12 rfl (lv_at hl 2 rfl) ?_
      refine lv_aload_n C.1 C.2.1 dX2_read_13 rfl (lv_at hl 0 rfl) ?_
      refine q_get_RX2_57 C hinX2 k57 I dX2_read_14 ?_
      refine lv_icmp_le (tgt := 23) C.1 C.2.1 dX2_read_17 (by decide) (fun c8 => ?_) (fun c8 => ?_)
      · have hf := q_if_t hf c8
        refine lv_aload_n C.1 C.2.1 dX2_read_23 rfl (lv_at hl 0 rfl) ?_
        obtain ⟨s9, a10, g11, h12, hf⟩ := q_cv_some hf
        refine q_callVv (As := []) (rest := []) C hml (c_X2_startCall h12) (cwV 0 C.2.2.2.1 gX2_read_X2_startCall rfl rfl rfl e_X2_startCall ⟨Nat.le_of_ble_eq_true rfl, Nat.le_of_ble_eq_true rfl⟩) I hA (q0 := 0) (ci := 2) rfl rfl rfl rfl hl.1 rfl (Nat.le_of_ble_eq_true rfl) dX2_read_24 ⟨Nat.zero_le _, Nat.zero_le _⟩ (fun H locs I => ?_)
        refine lv_aload_n C.1 C.2.1 dX2_read_27 rfl (lv_at hl 0 rfl) ?_
        refine lv_iload_n C.1 C.2.1 dX2_read_28 rfl (lv_at hl 1 rfl) ?_
        refine lv_iload_n C.1 C.2.1 dX2_read_29 rfl (lv_at hl 2 rfl) ?_
        refine lv_iconst (v := 1) C.1 C.2.1 dX2_read_30 (by decide) ?_
        refine lv_iconst (v := 0) C.1 C.2.1 dX2_read_31 (by decide) ?_
        obtain ⟨r18, s14, a15, g16, h17, hf⟩ := q_ci_some hf
        refine q_callVi (As := [.int p1, .int p2, .int 1, .int 0]) (rest := []) C hml (c_X2_follow 151 h17) (cwV 4 C.2.2.2.1 gX2_read_X2_follow rfl rfl rfl e_X2_follow ⟨Nat.le_of_ble_eq_true rfl, Nat.le_of_ble_eq_true rfl⟩) I hA (q0 := 0) (ci := 2) rfl rfl rfl rfl hl.1 rfl (Nat.le_of_ble_eq_true rfl) dX2_read_32 ⟨Nat.zero_le _, Nat.zero_le _⟩ (fun H locs I => ?_)
        refine lv_istore_n (lv' := [(3, .int r18), (0, .ref h), (1, .int p1), (2, .int p2)]) C.1 C.2.1 dX2_read_35 rfl hl (by decide) rfl (fun ls hl => ?_)
        refine lv_iload_n C.1 C.2.1 dX2_read_36 rfl (lv_at hl 0 rfl) ?_
        obtain ⟨r23, s19, a20, g21, h22, hf⟩ := q_ci_some hf
        refine q_callSi (As := [.int r18]) (rest := []) C hml (c_X2_isFault h22) (va_cwS 1 C.2.2.2.1 gX2_read_X2_isFault rfl rfl rfl e_X2_isFault ⟨Nat.le_of_ble_eq_true rfl, Nat.le_of_ble_eq_true rfl⟩) I hA rfl hl.1 rfl (Nat.le_of_ble_eq_true rfl) dX2_read_37 ⟨Nat.zero_le _, Nat.zero_le _⟩ (fun H locs I => ?_)
        refine lv_if_eq (tgt := 48) C.1 C.2.1 dX2_read_40 (by decide) (fun c24 => ?_) (fun c24 => ?_)
        · have hf := q_if_t hf c24
          refine lv_iload_n C.1 C.2.1 dX2_read_48 rfl (lv_at hl 0 rfl) ?_
          obtain ⟨rfl, rfl, rfl, rfl⟩ := q_some4 hf
          exact q_iret C hr hlocks I dX2_read_49
        · have hf := q_if_f hf c24
          refine lv_aload_n C.1 C.2.1 dX2_read_43 rfl (lv_at hl 1 rfl) ?_
          refine lv_iload_n C.1 C.2.1 dX2_read_44 rfl (lv_at hl 0 rfl) ?_
          obtain ⟨s25, a26, g27, h28, hf⟩ := q_cv_some hf
          refine q_callVv (As := [.int r18]) (rest := []) C hml (c_X2_noteFault h28) (cwV 1 C.2.2.2.1 gX2_read_X2_noteFault rfl rfl rfl e_X2_noteFault ⟨Nat.le_of_ble_eq_true rfl, Nat.le_of_ble_eq_true rfl⟩) I hA (q0 := 0) (ci := 2) rfl rfl rfl rfl hl.1 rfl (Nat.le_of_ble_eq_true rfl) dX2_read_45 ⟨Nat.zero_le _, Nat.zero_le _⟩ (fun H locs I => ?_)
          refine lv_iload_n C.1 C.2.1 dX2_read_48 rfl (lv_at hl 0 rfl) ?_
          obtain ⟨rfl, rfl, rfl, rfl⟩ := q_some4 hf
          exact q_iret C hr hlocks I dX2_read_49
      · have hf := q_if_f hf c8
        refine lv_bipush (v := (-2)) C.1 C.2.1 dX2_read_20 (by decide) ?_
        obtain ⟨rfl, rfl, rfl, rfl⟩ := q_some4 hf
        exact q_iret C hr hlocks I dX2_read_22
def f_X2_all_lb (n : Nat) (F : q_s → q_a → q_g → Int32 → Int32 → Int32 → Int32 → Option (Int32 × q_S)) (s : q_s) (a : q_a) (g : q_g) (x1 : Int32) (x2 : Int32) (x3 : Int32) (x4 : Int32) : Option (Int32 × q_S) :=
 if 200 < x4 then
  some (x3, s, a, g)
 else
  q_ci (f_X2_follow n 151 s a g x1 x2 1 0) fun r6 s2 a3 g4 =>
  q_ci (f_X2_isFault s2 a3 g4 r6) fun r11 s7 a8 g9 =>
  if r11 = 0 then
   if x2 < r6 then
     F s7 a8 g9 x1 r6 (x3 + 1) (x4 + 1)
   else
    q_cv (f_X2_takeBack s7 a8 g9 (s 24) (s 33)) fun s14 a15 g16 =>
    some (x3, s14, a15, g16)
  else
   q_cv (f_X2_noteFault s7 a8 g9 r6) fun s19 a20 g21 =>
   some (r6, s19, a20, g21)
def f_X2_all_lp (n : Nat) (k : Nat) : q_s → q_a → q_g → Int32 → Int32 → Int32 → Int32 → Option (Int32 × q_S) := match k with
  | 0 => fun _ _ _ _ _ _ _ => none
  | k + 1 => fun s a g x1 x2 x3 x4 => f_X2_all_lb n (f_X2_all_lp n k) s a g x1 x2 x3 x4
def f_X2_all (n : Nat) (s : q_s) (a : q_a) (g : q_g) (p1 : Int32) : Option (Int32 × q_S) :=
 q_ci (f_X2_isReader s a g p1) fun r28 s24 a25 g26 =>
 if r28 = 0 then
  some ((-2), s24, a25, g26)
 else
  q_cv (f_X2_startCall s24 a25 g26) fun s30 a31 g32 =>
  f_X2_all_lp n n s30 a31 g32 p1 0 0 0
theorem e_X2_all : yX2_all.cls = RX2 ∧ yX2_all.cls ≠ "java/lang/invoke/MethodHandle" ∧ yX2_all.cls ≠ "java/lang/invoke/VarHandle" ∧ (parseMethodDescriptor yX2_all.desc).map (fun d => d.parameters.length) = some 1 := by decide +kernel
set_option maxHeartbeats 4000000 in
set_option maxRecDepth 100000 in
theorem c_X2_all {l : Launch} {D : va_G} {h : Nat} {ad : Nat → Nat} {ca : Nat → ClassId} {n : Nat} {s s9 : q_s} {a a9 : q_a} {g g9 : q_g} {p1 : Int32} {r9 : Int32} (hf : f_X2_all n s a g p1 = some (r9, s9, a9, g9)) : q_Mi l yX2_all wsX2_all ({ frames := 156, cells := 0, slots := 0, locals := 4809 }) D (q_tY ca) (q_wY h ad ca) [.ref h, .int p1] s a g r9 s9 a9 g9 := by
  unfold f_X2_all at hf
  refine q_entI (cc := cX2_all) (maxL := 8) (ret := (some .int)) (by decide) rfl (Nat.le_of_ble_eq_true rfl) ?_
  intro p e st m args below meth c A ls C hr hlocks hml hA I hl
  have hl : lv_has ls 8 [(0, .ref h), (1, .int p1)] := hl
  have hinX0 : ∀ w ∈ wsX00, w ∈ wsX2_all := fun _ h => List.mem_cons_of_mem _ (List.mem_append_right _ h)
  have hinX1 : ∀ w ∈ wsX10, w ∈ wsX2_all := fun _ h => List.mem_cons_of_mem _ (List.mem_append_left _ (List.mem_append_right _ h))
  have hinX2 : ∀ w ∈ wsX20, w ∈ wsX2_all := fun _ h => List.mem_cons_of_mem _ (List.mem_append_left _ (List.mem_append_left _ (List.mem_append_right _ h)))
  have k36 : Cond.fieldLink RX2 36 "ReaderYard" "numbers" "LReaderYard$Pile;" ∈ wsX2_all := by decide +kernel
  have k94 : Cond.fieldLink RX2 94 "ReaderYard$Pile" "top" "I" ∈ wsX2_all := by decide +kernel
  have k43 : Cond.fieldLink RX2 43 "ReaderYard" "marks" "LReaderYard$Marks;" ∈ wsX2_all := by decide +kernel
  have k97 : Cond.fieldLink RX2 97 "ReaderYard$Marks" "size" "I" ∈ wsX2_all := by decide +kernel
  have lp : ∀ (k : Nat) (s : q_s) (a : q_a) (g : q_g) (x1 : Int32) (x2 : Int32) (x3 : Int32) (x4 : Int32) (H : Heap) (locs : List Loc) (ls : Array Slot), f_X2_all_lp n k s a g x1 x2 x3 x4 = some (r9, s9, a9, g9) → q_I D A st.heap H locs (q_wY h ad ca s a g) → lv_has ls 8 [(0, .ref h), (1, .int x1), (2, .int x2), (3, .int x3), (4, .int x4)] → W p l e ({ frames := 156, cells := 0, slots := 0, locals := 4809 }) st m args below meth c H locs 0 0 (MQ below (va_Qi (fun (r2 : Int32) (u : q_S) => r2 = r9 ∧ u = (s9, a9, g9)) (q_B D (q_tY ca) (q_wY h ad ca) A) A) args st 0 0 A) (F0 m 22 ls []) := by
    intro k
    induction k with
    | zero => intro s a g x1 x2 x3 x4 H locs ls hf; exact absurd hf (by simp [f_X2_all_lp])
    | succ k ih =>
      intro s a g x1 x2 x3 x4 H locs ls hf I hl
      have hf : f_X2_all_lb n (f_X2_all_lp n k) s a g x1 x2 x3 x4 = some (r9, s9, a9, g9) := hf
      unfold f_X2_all_lb at hf
      refine lv_iload C.1 C.2.1 dX2_all_22 (lv_at hl 4 rfl) ?_
      refine lv_sipush (v := 200) C.1 C.2.1 dX2_all_24 (by decide) ?_
      refine lv_icmp_gt (tgt := 104) C.1 C.2.1 dX2_all_27 (by decide) (fun c1 => ?_) (fun c1 => ?_)
      · have hf := q_if_t hf c1
        refine lv_iload_n C.1 C.2.1 dX2_all_104 rfl (lv_at hl 3 rfl) ?_
        obtain ⟨rfl, rfl, rfl, rfl⟩ := q_some4 hf
        exact q_iret C hr hlocks I dX2_all_105
      · have hf := q_if_f hf c1
        refine lv_aload_n C.1 C.2.1 dX2_all_30 rfl (lv_at hl 0 rfl) ?_
        refine q_get_RX2_36 C hinX2 k36 I dX2_all_31 ?_
        refine q_get_RX2_94 C hinX1 k94 I dX2_all_34 ?_
        refine lv_istore (lv' := [(5, .int (s 24)), (0, .ref h), (1, .int x1), (2, .int x2), (3, .int x3), (4, .int x4)]) C.1 C.2.1 dX2_all_37 hl (by decide) rfl (fun ls hl => ?_)
        refine lv_aload_n C.1 C.2.1 dX2_all_39 rfl (lv_at hl 1 rfl) ?_
        refine q_get_RX2_43 C hinX2 k43 I dX2_all_40 ?_
        refine q_get_RX2_97 C hinX0 k97 I dX2_all_43 ?_
        refine lv_istore (lv' := [(6, .int (s 33)), (5, .int (s 24)), (0, .ref h), (1, .int x1), (2, .int x2), (3, .int x3), (4, .int x4)]) C.1 C.2.1 dX2_all_46 hl (by decide) rfl (fun ls hl => ?_)
        refine lv_aload_n C.1 C.2.1 dX2_all_48 rfl (lv_at hl 2 rfl) ?_
        refine lv_iload_n C.1 C.2.1 dX2_all_49 rfl (lv_at hl 3 rfl) ?_
        refine lv_iload_n C.1 C.2.1 dX2_all_50 rfl (lv_at hl 4 rfl) ?_
        refine lv_iconst (v := 1) C.1 C.2.1 dX2_all_51 (by decide) ?_
        refine lv_iconst (v := 0) C.1 C.2.1 dX2_all_52 (by decide) ?_
        obtain ⟨r6, s2, a3, g4, h5, hf⟩ := q_ci_some hf
        refine q_callVi (As := [.int x1, .int x2, .int 1, .int 0]) (rest := []) C hml (c_X2_follow 151 h5) (cwV 4 C.2.2.2.1 gX2_all_X2_follow rfl rfl rfl e_X2_follow ⟨Nat.le_of_ble_eq_true rfl, Nat.le_of_ble_eq_true rfl⟩) I hA (q0 := 0) (ci := 2) rfl rfl rfl rfl hl.1 rfl (Nat.le_of_ble_eq_true rfl) dX2_all_53 ⟨Nat.zero_le _, Nat.zero_le _⟩ (fun H locs I => ?_)
        refine lv_istore (lv' := [(7, .int r6), (6, .int (s 33)), (5, .int (s 24)), (0, .ref h), (1, .int x1), (2, .int x2), (3, .int x3), (4, .int x4)]) C.1 C.2.1 dX2_all_56 hl (by decide) rfl (fun ls hl => ?_)
        refine lv_iload C.1 C.2.1 dX2_all_58 (lv_at hl 0 rfl) ?_
        obtain ⟨r11, s7, a8, g9, h10, hf⟩ := q_ci_some hf
        refine q_callSi (As := [.int r6]) (rest := []) C hml (c_X2_isFault h10) (va_cwS 1 C.2.2.2.1 gX2_all_X2_isFault rfl rfl rfl e_X2_isFault ⟨Nat.le_of_ble_eq_true rfl, Nat.le_of_ble_eq_true rfl⟩) I hA rfl hl.1 rfl (Nat.le_of_ble_eq_true rfl) dX2_all_60 ⟨Nat.zero_le _, Nat.zero_le _⟩ (fun H locs I => ?_)
        refine lv_if_eq (tgt := 75) C.1 C.2.1 dX2_all_63 (by decide) (fun c12 => ?_) (fun c12 => ?_)
        · have hf := q_if_t hf c12
          refine lv_iload C.1 C.2.1 dX2_all_75 (lv_at hl 0 rfl) ?_
          refine lv_iload_n C.1 C.2.1 dX2_all_77 rfl (lv_at hl 5 rfl) ?_
          refine lv_icmp_gt (tgt := 92) C.1 C.2.1 dX2_all_78 (by decide) (fun c13 => ?_) (fun c13 => ?_)
          · have hf := q_if_t hf c13
            refine lv_iload C.1 C.2.1 dX2_all_92 (lv_at hl 0 rfl) ?_
            refine lv_istore_n (lv' := [(2, .int r6), (7, .int r6), (6, .int (s 33)), (5, .int (s 24)), (0, .ref h), (1, .int x1), (3, .int x3), (4, .int x4)]) C.1 C.2.1 dX2_all_94 rfl hl (by decide) rfl (fun ls hl => ?_)
            refine lv_iinc (v := x3 + 1) (lv' := [(3, .int (x3 + 1)), (2, .int r6), (7, .int r6), (6, .int (s 33)), (5, .int (s 24)), (0, .ref h), (1, .int x1), (4, .int x4)]) C.1 C.2.1 dX2_all_95 hl (k := 6) rfl rfl (by decide) rfl (fun ls hl => ?_)
            refine lv_iinc (v := x4 + 1) (lv' := [(4, .int (x4 + 1)), (3, .int (x3 + 1)), (2, .int r6), (7, .int r6), (6, .int (s 33)), (5, .int (s 24)), (0, .ref h), (1, .int x1)]) C.1 C.2.1 dX2_all_98 hl (k := 7) rfl rfl (by decide) rfl (fun ls hl => ?_)
            refine lv_goto (tgt := 22) C.1 C.2.1 dX2_all_101 (by decide) ?_
            exact ih _ _ _ _ _ _ _ _ _ _ hf I (lv_sub hl [6, 7, 2, 1, 0] rfl)
          · have hf := q_if_f hf c13
            refine lv_aload_n C.1 C.2.1 dX2_all_81 rfl (lv_at hl 3 rfl) ?_
            refine lv_iload C.1 C.2.1 dX2_all_82 (lv_at hl 2 rfl) ?_
            refine lv_iload C.1 C.2.1 dX2_all_84 (lv_at hl 1 rfl) ?_
            obtain ⟨s14, a15, g16, h17, hf⟩ := q_cv_some hf
            refine q_callVv (As := [.int (s 24), .int (s 33)]) (rest := []) C hml (c_X2_takeBack h17) (cwV 2 C.2.2.2.1 gX2_all_X2_takeBack rfl rfl rfl e_X2_takeBack ⟨Nat.le_of_ble_eq_true rfl, Nat.le_of_ble_eq_true rfl⟩) I hA (q0 := 0) (ci := 2) rfl rfl rfl rfl hl.1 rfl (Nat.le_of_ble_eq_true rfl) dX2_all_86 ⟨Nat.zero_le _, Nat.zero_le _⟩ (fun H locs I => ?_)
            refine lv_goto (tgt := 104) C.1 C.2.1 dX2_all_89 (by decide) ?_
            refine lv_iload_n C.1 C.2.1 dX2_all_104 rfl (lv_at hl 6 rfl) ?_
            obtain ⟨rfl, rfl, rfl, rfl⟩ := q_some4 hf
            exact q_iret C hr hlocks I dX2_all_105
        · have hf := q_if_f hf c12
          refine lv_aload_n C.1 C.2.1 dX2_all_66 rfl (lv_at hl 3 rfl) ?_
          refine lv_iload C.1 C.2.1 dX2_all_67 (lv_at hl 0 rfl) ?_
          obtain ⟨s19, a20, g21, h22, hf⟩ := q_cv_some hf
          refine q_callVv (As := [.int r6]) (rest := []) C hml (c_X2_noteFault h22) (cwV 1 C.2.2.2.1 gX2_all_X2_noteFault rfl rfl rfl e_X2_noteFault ⟨Nat.le_of_ble_eq_true rfl, Nat.le_of_ble_eq_true rfl⟩) I hA (q0 := 0) (ci := 2) rfl rfl rfl rfl hl.1 rfl (Nat.le_of_ble_eq_true rfl) dX2_all_69 ⟨Nat.zero_le _, Nat.zero_le _⟩ (fun H locs I => ?_)
          refine lv_iload C.1 C.2.1 dX2_all_72 (lv_at hl 0 rfl) ?_
          obtain ⟨rfl, rfl, rfl, rfl⟩ := q_some4 hf
          exact q_iret C hr hlocks I dX2_all_74
  refine lv_aload_n C.1 C.2.1 dX2_all_0 rfl (lv_at hl 0 rfl) ?_
  refine lv_iload_n C.1 C.2.1 dX2_all_1 rfl (lv_at hl 1 rfl) ?_
  obtain ⟨r28, s24, a25, g26, h27, hf⟩ := q_ci_some hf
  refine q_callVi (As := [.int p1]) (rest := []) C hml (c_X2_isReader h27) (cwV 1 C.2.2.2.1 gX2_all_X2_isReader rfl rfl rfl e_X2_isReader ⟨Nat.le_of_ble_eq_true rfl, Nat.le_of_ble_eq_true rfl⟩) I hA (q0 := 0) (ci := 2) rfl rfl rfl rfl hl.1 rfl (Nat.le_of_ble_eq_true rfl) dX2_all_2 ⟨Nat.zero_le _, Nat.zero_le _⟩ (fun H locs I => ?_)
  refine lv_if_ne (tgt := 11) C.1 C.2.1 dX2_all_5 (by decide) (fun c29 => ?_) (fun c29 => ?_)
  · have hf := q_if_f hf c29
    refine lv_aload_n C.1 C.2.1 dX2_all_11 rfl (lv_at hl 0 rfl) ?_
    obtain ⟨s30, a31, g32, h33, hf⟩ := q_cv_some hf
    refine q_callVv (As := []) (rest := []) C hml (c_X2_startCall h33) (cwV 0 C.2.2.2.1 gX2_all_X2_startCall rfl rfl rfl e_X2_startCall ⟨Nat.le_of_ble_eq_true rfl, Nat.le_of_ble_eq_true rfl⟩) I hA (q0 := 0) (ci := 2) rfl rfl rfl rfl hl.1 rfl (Nat.le_of_ble_eq_true rfl) dX2_all_12 ⟨Nat.zero_le _, Nat.zero_le _⟩ (fun H locs I => ?_)
    refine lv_iconst (v := 0) C.1 C.2.1 dX2_all_15 (by decide) ?_
    refine lv_istore_n (lv' := [(2, .int 0), (0, .ref h), (1, .int p1)]) C.1 C.2.1 dX2_all_16 rfl hl (by decide) rfl (fun ls hl => ?_)
    refine lv_iconst (v := 0) C.1 C.2.1 dX2_all_17 (by decide) ?_
    refine lv_istore_n (lv' := [(3, .int 0), (2, .int 0), (0, .ref h), (1, .int p1)]) C.1 C.2.1 dX2_all_18 rfl hl (by decide) rfl (fun ls hl => ?_)
    refine lv_iconst (v := 0) C.1 C.2.1 dX2_all_19 (by decide) ?_
    refine lv_istore (lv' := [(4, .int 0), (3, .int 0), (2, .int 0), (0, .ref h), (1, .int p1)]) C.1 C.2.1 dX2_all_20 hl (by decide) rfl (fun ls hl => ?_)
    exact lp n _ _ _ _ _ _ _ _ _ _ hf I (lv_sub hl [3, 4, 2, 1, 0] rfl)
  · have hf := q_if_t hf c29
    refine lv_bipush (v := (-2)) C.1 C.2.1 dX2_all_8 (by decide) ?_
    obtain ⟨rfl, rfl, rfl, rfl⟩ := q_some4 hf
    exact q_iret C hr hlocks I dX2_all_10
def f_X2_pile (n : Nat) (s : q_s) (a : q_a) (g : q_g) (p1 : Int32) : Option (Int64 × q_S) :=
 q_cl (f_X1_numberUnder n s a g p1) fun r5 s1 a2 g3 =>
 some (r5, s1, a2, g3)
theorem e_X2_pile : yX2_pile.cls = RX2 ∧ yX2_pile.cls ≠ "java/lang/invoke/MethodHandle" ∧ yX2_pile.cls ≠ "java/lang/invoke/VarHandle" ∧ (parseMethodDescriptor yX2_pile.desc).map (fun d => d.parameters.length) = some 1 := by decide +kernel
set_option maxHeartbeats 4000000 in
set_option maxRecDepth 100000 in
theorem c_X2_pile {l : Launch} {D : va_G} {h : Nat} {ad : Nat → Nat} {ca : Nat → ClassId} {n : Nat} {s s9 : q_s} {a a9 : q_a} {g g9 : q_g} {p1 : Int32} {r9 : Int64} (hf : f_X2_pile n s a g p1 = some (r9, s9, a9, g9)) : q_Ml l yX2_pile wsX2_pile ({ frames := 2, cells := 0, slots := 0, locals := 44 }) D (q_tY ca) (q_wY h ad ca) [.ref h, .int p1] s a g r9 s9 a9 g9 := by
  unfold f_X2_pile at hf
  refine q_entL (cc := cX2_pile) (maxL := 2) (ret := (some .long)) (by decide) rfl (Nat.le_of_ble_eq_true rfl) ?_
  intro p e st m args below meth c A ls C hr hlocks hml hA I hl
  have hl : lv_has ls 2 [(0, .ref h), (1, .int p1)] := hl
  have hinX2 : ∀ w ∈ wsX20, w ∈ wsX2_pile := fun _ h => List.mem_cons_of_mem _ (List.mem_append_left _ (List.mem_append_right _ h))
  have k36 : Cond.fieldLink RX2 36 "ReaderYard" "numbers" "LReaderYard$Pile;" ∈ wsX2_pile := by decide +kernel
  refine lv_aload_n C.1 C.2.1 dX2_pile_0 rfl (lv_at hl 0 rfl) ?_
  refine q_get_RX2_36 C hinX2 k36 I dX2_pile_1 ?_
  refine lv_iload_n C.1 C.2.1 dX2_pile_4 rfl (lv_at hl 1 rfl) ?_
  obtain ⟨r5, s1, a2, g3, h4, hf⟩ := q_cl_some hf
  refine q_callVl (As := [.int p1]) (rest := []) C hml (c_X1_numberUnder h4) (cwV 1 C.2.2.2.1 gX2_pile_X1_numberUnder rfl rfl rfl e_X1_numberUnder ⟨Nat.le_of_ble_eq_true rfl, Nat.le_of_ble_eq_true rfl⟩) I hA (q0 := 1) (ci := 1) rfl rfl rfl rfl hl.1 rfl (Nat.le_of_ble_eq_true rfl) dX2_pile_5 ⟨Nat.zero_le _, Nat.zero_le _⟩ (fun H locs I => ?_)
  obtain ⟨rfl, rfl, rfl, rfl⟩ := q_some4 hf
  exact q_lret C hr hlocks I dX2_pile_8
def f_X2_mark (s : q_s) (a : q_a) (g : q_g) (p1 : Int32) (p2 : Int32) : Option (Int32 × q_S) :=
 if p2 < 0 then
  some ((-2), s, a, g)
 else
  if p2 ≤ 2 then
   if p1 < 0 then
    some ((-1), s, a, g)
   else
    if p1 < s 33 then
     if p2 = 0 then
      q_ck p1 3000 <|
      some (a 30 p1.toNatClampNeg, s, a, g)
     else
      if p2 = 1 then
       q_ck p1 3000 <|
       some (a 31 p1.toNatClampNeg, s, a, g)
      else
       q_ck p1 3000 <|
       some (a 32 p1.toNatClampNeg, s, a, g)
    else
     some ((-1), s, a, g)
  else
   some ((-2), s, a, g)
theorem e_X2_mark : yX2_mark.cls = RX2 ∧ yX2_mark.cls ≠ "java/lang/invoke/MethodHandle" ∧ yX2_mark.cls ≠ "java/lang/invoke/VarHandle" ∧ (parseMethodDescriptor yX2_mark.desc).map (fun d => d.parameters.length) = some 2 := by decide +kernel
set_option maxHeartbeats 4000000 in
set_option maxRecDepth 100000 in
theorem c_X2_mark {l : Launch} {D : va_G} {h : Nat} {ad : Nat → Nat} {ca : Nat → ClassId} {s s9 : q_s} {a a9 : q_a} {g g9 : q_g} {p1 : Int32} {p2 : Int32} {r9 : Int32} (hf : f_X2_mark s a g p1 p2 = some (r9, s9, a9, g9)) : q_Mi l yX2_mark wsX2_mark ({ frames := 0, cells := 0, slots := 0, locals := 0 }) D (q_tY ca) (q_wY h ad ca) [.ref h, .int p1, .int p2] s a g r9 s9 a9 g9 := by
  unfold f_X2_mark at hf
  refine q_entI (cc := cX2_mark) (maxL := 3) (ret := (some .int)) (by decide) rfl (Nat.le_of_ble_eq_true rfl) ?_
  intro p e st m args below meth c A ls C hr hlocks hml hA I hl
  have hl : lv_has ls 3 [(0, .ref h), (1, .int p1), (2, .int p2)] := hl
  have hinX0 : ∀ w ∈ wsX00, w ∈ wsX2_mark := fun _ h => List.mem_cons_of_mem _ (List.mem_append_right _ h)
  have hinX2 : ∀ w ∈ wsX20, w ∈ wsX2_mark := fun _ h => List.mem_cons_of_mem _ (List.mem_append_left _ (List.mem_append_right _ h))
  have k43 : Cond.fieldLink RX2 43 "ReaderYard" "marks" "LReaderYard$Marks;" ∈ wsX2_mark := by decide +kernel
  have k97 : Cond.fieldLink RX2 97 "ReaderYard$Marks" "size" "I" ∈ wsX2_mark := by decide +kernel
  have k114 : Cond.fieldLink RX2 114 "ReaderYard$Marks" "tos" "[I" ∈ wsX2_mark := by decide +kernel
  have k111 : Cond.fieldLink RX2 111 "ReaderYard$Marks" "froms" "[I" ∈ wsX2_mark := by decide +kernel
  have k108 : Cond.fieldLink RX2 108 "ReaderYard$Marks" "labels" "[I" ∈ wsX2_mark := by decide +kernel
  refine lv_iload_n C.1 C.2.1 dX2_mark_0 rfl (lv_at hl 2 rfl) ?_
  refine lv_if_lt (tgt := 9) C.1 C.2.1 dX2_mark_1 (by decide) (fun c1 => ?_) (fun c1 => ?_)
  · have hf := q_if_t hf c1
    refine lv_bipush (v := (-2)) C.1 C.2.1 dX2_mark_9 (by decide) ?_
    obtain ⟨rfl, rfl, rfl, rfl⟩ := q_some4 hf
    exact q_iret C hr hlocks I dX2_mark_11
  · have hf := q_if_f hf c1
    refine lv_iload_n C.1 C.2.1 dX2_mark_4 rfl (lv_at hl 2 rfl) ?_
    refine lv_iconst (v := 2) C.1 C.2.1 dX2_mark_5 (by decide) ?_
    refine lv_icmp_le (tgt := 12) C.1 C.2.1 dX2_mark_6 (by decide) (fun c2 => ?_) (fun c2 => ?_)
    · have hf := q_if_t hf c2
      refine lv_iload_n C.1 C.2.1 dX2_mark_12 rfl (lv_at hl 1 rfl) ?_
      refine lv_if_lt (tgt := 27) C.1 C.2.1 dX2_mark_13 (by decide) (fun c3 => ?_) (fun c3 => ?_)
      · have hf := q_if_t hf c3
        refine lv_iconst (v := (-1)) C.1 C.2.1 dX2_mark_27 (by decide) ?_
        obtain ⟨rfl, rfl, rfl, rfl⟩ := q_some4 hf
        exact q_iret C hr hlocks I dX2_mark_28
      · have hf := q_if_f hf c3
        refine lv_iload_n C.1 C.2.1 dX2_mark_16 rfl (lv_at hl 1 rfl) ?_
        refine lv_aload_n C.1 C.2.1 dX2_mark_17 rfl (lv_at hl 0 rfl) ?_
        refine q_get_RX2_43 C hinX2 k43 I dX2_mark_18 ?_
        refine q_get_RX2_97 C hinX0 k97 I dX2_mark_21 ?_
        refine lv_icmp_lt (tgt := 29) C.1 C.2.1 dX2_mark_24 (by decide) (fun c4 => ?_) (fun c4 => ?_)
        · have hf := q_if_t hf c4
          refine lv_iload_n C.1 C.2.1 dX2_mark_29 rfl (lv_at hl 2 rfl) ?_
          refine lv_if_ne (tgt := 45) C.1 C.2.1 dX2_mark_30 (by decide) (fun c5 => ?_) (fun c5 => ?_)
          · have hf := q_if_f hf c5
            refine lv_iload_n C.1 C.2.1 dX2_mark_45 rfl (lv_at hl 2 rfl) ?_
            refine lv_iconst (v := 1) C.1 C.2.1 dX2_mark_46 (by decide) ?_
            refine lv_icmp_ne (tgt := 62) C.1 C.2.1 dX2_mark_47 (by decide) (fun c6 => ?_) (fun c6 => ?_)
            · have hf := q_if_f hf c6
              refine lv_aload_n C.1 C.2.1 dX2_mark_62 rfl (lv_at hl 0 rfl) ?_
              refine q_get_RX2_43 C hinX2 k43 I dX2_mark_63 ?_
              refine q_get_RX2_114 C hinX0 k114 I dX2_mark_66 ?_
              refine lv_iload_n C.1 C.2.1 dX2_mark_69 rfl (lv_at hl 1 rfl) ?_
              obtain ⟨b7, hf⟩ := q_ck_some hf
              refine q_ld_Y_tos C b7 I dX2_mark_70 ?_
              obtain ⟨rfl, rfl, rfl, rfl⟩ := q_some4 hf
              exact q_iret C hr hlocks I dX2_mark_71
            · have hf := q_if_t hf c6
              refine lv_aload_n C.1 C.2.1 dX2_mark_50 rfl (lv_at hl 0 rfl) ?_
              refine q_get_RX2_43 C hinX2 k43 I dX2_mark_51 ?_
              refine q_get_RX2_111 C hinX0 k111 I dX2_mark_54 ?_
              refine lv_iload_n C.1 C.2.1 dX2_mark_57 rfl (lv_at hl 1 rfl) ?_
              obtain ⟨b8, hf⟩ := q_ck_some hf
              refine q_ld_Y_froms C b8 I dX2_mark_58 ?_
              refine lv_goto (tgt := 71) C.1 C.2.1 dX2_mark_59 (by decide) ?_
              obtain ⟨rfl, rfl, rfl, rfl⟩ := q_some4 hf
              exact q_iret C hr hlocks I dX2_mark_71
          · have hf := q_if_t hf c5
            refine lv_aload_n C.1 C.2.1 dX2_mark_33 rfl (lv_at hl 0 rfl) ?_
            refine q_get_RX2_43 C hinX2 k43 I dX2_mark_34 ?_
            refine q_get_RX2_108 C hinX0 k108 I dX2_mark_37 ?_
            refine lv_iload_n C.1 C.2.1 dX2_mark_40 rfl (lv_at hl 1 rfl) ?_
            obtain ⟨b9, hf⟩ := q_ck_some hf
            refine q_ld_Y_labels C b9 I dX2_mark_41 ?_
            refine lv_goto (tgt := 71) C.1 C.2.1 dX2_mark_42 (by decide) ?_
            obtain ⟨rfl, rfl, rfl, rfl⟩ := q_some4 hf
            exact q_iret C hr hlocks I dX2_mark_71
        · have hf := q_if_f hf c4
          refine lv_iconst (v := (-1)) C.1 C.2.1 dX2_mark_27 (by decide) ?_
          obtain ⟨rfl, rfl, rfl, rfl⟩ := q_some4 hf
          exact q_iret C hr hlocks I dX2_mark_28
    · have hf := q_if_f hf c2
      refine lv_bipush (v := (-2)) C.1 C.2.1 dX2_mark_9 (by decide) ?_
      obtain ⟨rfl, rfl, rfl, rfl⟩ := q_some4 hf
      exact q_iret C hr hlocks I dX2_mark_11
def f_X2_count (s : q_s) (a : q_a) (g : q_g) (p1 : Int32) : Option (Int32 × q_S) :=
 if p1 = 0 then
  some (s 1, s, a, g)
 else
  if p1 = 1 then
   some (s 6, s, a, g)
  else
   if p1 = 2 then
    q_ci (f_X1_height s a g) fun r8 s4 a5 g6 =>
    some (r8, s4, a5, g6)
   else
    if p1 = 3 then
     some (s 33, s, a, g)
    else
     if p1 = 4 then
      some (s 11, s, a, g)
     else
      if p1 = 5 then
       some (s 12, s, a, g)
      else
       if p1 = 6 then
        some (s 13, s, a, g)
       else
        if p1 = 7 then
         some (s 14, s, a, g)
        else
         if p1 = 8 then
          some (s 15, s, a, g)
         else
          some ((-2), s, a, g)
theorem e_X2_count : yX2_count.cls = RX2 ∧ yX2_count.cls ≠ "java/lang/invoke/MethodHandle" ∧ yX2_count.cls ≠ "java/lang/invoke/VarHandle" ∧ (parseMethodDescriptor yX2_count.desc).map (fun d => d.parameters.length) = some 1 := by decide +kernel
set_option maxHeartbeats 4000000 in
set_option maxRecDepth 100000 in
theorem c_X2_count {l : Launch} {D : va_G} {h : Nat} {ad : Nat → Nat} {ca : Nat → ClassId} {s s9 : q_s} {a a9 : q_a} {g g9 : q_g} {p1 : Int32} {r9 : Int32} (hf : f_X2_count s a g p1 = some (r9, s9, a9, g9)) : q_Mi l yX2_count wsX2_count ({ frames := 1, cells := 0, slots := 0, locals := 20 }) D (q_tY ca) (q_wY h ad ca) [.ref h, .int p1] s a g r9 s9 a9 g9 := by
  unfold f_X2_count at hf
  refine q_entI (cc := cX2_count) (maxL := 2) (ret := (some .int)) (by decide) rfl (Nat.le_of_ble_eq_true rfl) ?_
  intro p e st m args below meth c A ls C hr hlocks hml hA I hl
  have hl : lv_has ls 2 [(0, .ref h), (1, .int p1)] := hl
  have hinX0 : ∀ w ∈ wsX00, w ∈ wsX2_count := fun _ h => List.mem_cons_of_mem _ (List.mem_append_left _ (List.mem_append_right _ h))
  have hinX2 : ∀ w ∈ wsX20, w ∈ wsX2_count := fun _ h => List.mem_cons_of_mem _ (List.mem_append_left _ (List.mem_append_left _ (List.mem_append_right _ h)))
  have k57 : Cond.fieldLink RX2 57 "ReaderYard" "signCount" "I" ∈ wsX2_count := by decide +kernel
  have k70 : Cond.fieldLink RX2 70 "ReaderYard" "readerCount" "I" ∈ wsX2_count := by decide +kernel
  have k36 : Cond.fieldLink RX2 36 "ReaderYard" "numbers" "LReaderYard$Pile;" ∈ wsX2_count := by decide +kernel
  have k43 : Cond.fieldLink RX2 43 "ReaderYard" "marks" "LReaderYard$Marks;" ∈ wsX2_count := by decide +kernel
  have k97 : Cond.fieldLink RX2 97 "ReaderYard$Marks" "size" "I" ∈ wsX2_count := by decide +kernel
  have k121 : Cond.fieldLink RX2 121 "ReaderYard" "steps" "I" ∈ wsX2_count := by decide +kernel
  have k124 : Cond.fieldLink RX2 124 "ReaderYard" "deepest" "I" ∈ wsX2_count := by decide +kernel
  have k127 : Cond.fieldLink RX2 127 "ReaderYard" "stepsEver" "I" ∈ wsX2_count := by decide +kernel
  have k130 : Cond.fieldLink RX2 130 "ReaderYard" "faultedCalls" "I" ∈ wsX2_count := by decide +kernel
  have k133 : Cond.fieldLink RX2 133 "ReaderYard" "latestFault" "I" ∈ wsX2_count := by decide +kernel
  refine lv_iload_n C.1 C.2.1 dX2_count_0 rfl (lv_at hl 1 rfl) ?_
  by_cases c1 : p1 = 0
  · have hf := q_if_t hf c1
    refine lv_tableIn (off := 51) (tgt := 52) C.1 C.2.1 dX2_count_1 (by skip <;> rw [c1] <;> decide) (by skip <;> rw [c1] <;> decide) (by skip <;> rw [c1] <;> rfl) (by decide) ?_
    refine lv_aload_n C.1 C.2.1 dX2_count_52 rfl (lv_at hl 0 rfl) ?_
    refine q_get_RX2_57 C hinX2 k57 I dX2_count_53 ?_
    obtain ⟨rfl, rfl, rfl, rfl⟩ := q_some4 hf
    exact q_iret C hr hlocks I dX2_count_56
  have hf := q_if_f hf c1
  by_cases c2 : p1 = 1
  · have hf := q_if_t hf c2
    refine lv_tableIn (off := 56) (tgt := 57) C.1 C.2.1 dX2_count_1 (by skip <;> rw [c2] <;> decide) (by skip <;> rw [c2] <;> decide) (by skip <;> rw [c2] <;> rfl) (by decide) ?_
    refine lv_aload_n C.1 C.2.1 dX2_count_57 rfl (lv_at hl 0 rfl) ?_
    refine q_get_RX2_70 C hinX2 k70 I dX2_count_58 ?_
    obtain ⟨rfl, rfl, rfl, rfl⟩ := q_some4 hf
    exact q_iret C hr hlocks I dX2_count_61
  have hf := q_if_f hf c2
  by_cases c3 : p1 = 2
  · have hf := q_if_t hf c3
    refine lv_tableIn (off := 61) (tgt := 62) C.1 C.2.1 dX2_count_1 (by skip <;> rw [c3] <;> decide) (by skip <;> rw [c3] <;> decide) (by skip <;> rw [c3] <;> rfl) (by decide) ?_
    refine lv_aload_n C.1 C.2.1 dX2_count_62 rfl (lv_at hl 0 rfl) ?_
    refine q_get_RX2_36 C hinX2 k36 I dX2_count_63 ?_
    obtain ⟨r8, s4, a5, g6, h7, hf⟩ := q_ci_some hf
    refine q_callVi (As := []) (rest := []) C hml (c_X1_height h7) (cwV 0 C.2.2.2.1 gX2_count_X1_height rfl rfl rfl e_X1_height ⟨Nat.le_of_ble_eq_true rfl, Nat.le_of_ble_eq_true rfl⟩) I hA (q0 := 1) (ci := 1) rfl rfl rfl rfl hl.1 rfl (Nat.le_of_ble_eq_true rfl) dX2_count_66 ⟨Nat.zero_le _, Nat.zero_le _⟩ (fun H locs I => ?_)
    obtain ⟨rfl, rfl, rfl, rfl⟩ := q_some4 hf
    exact q_iret C hr hlocks I dX2_count_69
  have hf := q_if_f hf c3
  by_cases c9 : p1 = 3
  · have hf := q_if_t hf c9
    refine lv_tableIn (off := 69) (tgt := 70) C.1 C.2.1 dX2_count_1 (by skip <;> rw [c9] <;> decide) (by skip <;> rw [c9] <;> decide) (by skip <;> rw [c9] <;> rfl) (by decide) ?_
    refine lv_aload_n C.1 C.2.1 dX2_count_70 rfl (lv_at hl 0 rfl) ?_
    refine q_get_RX2_43 C hinX2 k43 I dX2_count_71 ?_
    refine q_get_RX2_97 C hinX0 k97 I dX2_count_74 ?_
    obtain ⟨rfl, rfl, rfl, rfl⟩ := q_some4 hf
    exact q_iret C hr hlocks I dX2_count_77
  have hf := q_if_f hf c9
  by_cases c10 : p1 = 4
  · have hf := q_if_t hf c10
    refine lv_tableIn (off := 77) (tgt := 78) C.1 C.2.1 dX2_count_1 (by skip <;> rw [c10] <;> decide) (by skip <;> rw [c10] <;> decide) (by skip <;> rw [c10] <;> rfl) (by decide) ?_
    refine lv_aload_n C.1 C.2.1 dX2_count_78 rfl (lv_at hl 0 rfl) ?_
    refine q_get_RX2_121 C hinX2 k121 I dX2_count_79 ?_
    obtain ⟨rfl, rfl, rfl, rfl⟩ := q_some4 hf
    exact q_iret C hr hlocks I dX2_count_82
  have hf := q_if_f hf c10
  by_cases c11 : p1 = 5
  · have hf := q_if_t hf c11
    refine lv_tableIn (off := 82) (tgt := 83) C.1 C.2.1 dX2_count_1 (by skip <;> rw [c11] <;> decide) (by skip <;> rw [c11] <;> decide) (by skip <;> rw [c11] <;> rfl) (by decide) ?_
    refine lv_aload_n C.1 C.2.1 dX2_count_83 rfl (lv_at hl 0 rfl) ?_
    refine q_get_RX2_124 C hinX2 k124 I dX2_count_84 ?_
    obtain ⟨rfl, rfl, rfl, rfl⟩ := q_some4 hf
    exact q_iret C hr hlocks I dX2_count_87
  have hf := q_if_f hf c11
  by_cases c12 : p1 = 6
  · have hf := q_if_t hf c12
    refine lv_tableIn (off := 87) (tgt := 88) C.1 C.2.1 dX2_count_1 (by skip <;> rw [c12] <;> decide) (by skip <;> rw [c12] <;> decide) (by skip <;> rw [c12] <;> rfl) (by decide) ?_
    refine lv_aload_n C.1 C.2.1 dX2_count_88 rfl (lv_at hl 0 rfl) ?_
    refine q_get_RX2_127 C hinX2 k127 I dX2_count_89 ?_
    obtain ⟨rfl, rfl, rfl, rfl⟩ := q_some4 hf
    exact q_iret C hr hlocks I dX2_count_92
  have hf := q_if_f hf c12
  by_cases c13 : p1 = 7
  · have hf := q_if_t hf c13
    refine lv_tableIn (off := 92) (tgt := 93) C.1 C.2.1 dX2_count_1 (by skip <;> rw [c13] <;> decide) (by skip <;> rw [c13] <;> decide) (by skip <;> rw [c13] <;> rfl) (by decide) ?_
    refine lv_aload_n C.1 C.2.1 dX2_count_93 rfl (lv_at hl 0 rfl) ?_
    refine q_get_RX2_130 C hinX2 k130 I dX2_count_94 ?_
    obtain ⟨rfl, rfl, rfl, rfl⟩ := q_some4 hf
    exact q_iret C hr hlocks I dX2_count_97
  have hf := q_if_f hf c13
  by_cases c14 : p1 = 8
  · have hf := q_if_t hf c14
    refine lv_tableIn (off := 97) (tgt := 98) C.1 C.2.1 dX2_count_1 (by skip <;> rw [c14] <;> decide) (by skip <;> rw [c14] <;> decide) (by skip <;> rw [c14] <;> rfl) (by decide) ?_
    refine lv_aload_n C.1 C.2.1 dX2_count_98 rfl (lv_at hl 0 rfl) ?_
    refine q_get_RX2_133 C hinX2 k133 I dX2_count_99 ?_
    obtain ⟨rfl, rfl, rfl, rfl⟩ := q_some4 hf
    exact q_iret C hr hlocks I dX2_count_102
  have hf := q_if_f hf c14
  refine lv_tableOut (tgt := 103) C.1 C.2.1 dX2_count_1 (by
    refine q_out (fun k k1 k2 => ?_)
    have k3 : k = 0 ∨ k = 1 ∨ k = 2 ∨ k = 3 ∨ k = 4 ∨ k = 5 ∨ k = 6 ∨ k = 7 ∨ k = 8 := by omega
    rcases k3 with rfl | rfl | rfl | rfl | rfl | rfl | rfl | rfl | rfl
    · exact fun z => c1 (z)
    · exact fun z => c2 (z)
    · exact fun z => c3 (z)
    · exact fun z => c9 (z)
    · exact fun z => c10 (z)
    · exact fun z => c11 (z)
    · exact fun z => c12 (z)
    · exact fun z => c13 (z)
    · exact fun z => c14 (z)
    ) (by decide) ?_
  refine lv_bipush (v := (-2)) C.1 C.2.1 dX2_count_103 (by decide) ?_
  obtain ⟨rfl, rfl, rfl, rfl⟩ := q_some4 hf
  exact q_iret C hr hlocks I dX2_count_105
def f_X2_began (s : q_s) (a : q_a) (g : q_g) (p1 : Int32) : Option (Int32 × q_S) :=
 q_ci (f_X2_isReader s a g p1) fun r5 s1 a2 g3 =>
 if r5 = 0 then
  some ((-2), s1, a2, g3)
 else
  q_ck p1 50 <|
  some (a2 5 p1.toNatClampNeg, s1, a2, g3)
theorem e_X2_began : yX2_began.cls = RX2 ∧ yX2_began.cls ≠ "java/lang/invoke/MethodHandle" ∧ yX2_began.cls ≠ "java/lang/invoke/VarHandle" ∧ (parseMethodDescriptor yX2_began.desc).map (fun d => d.parameters.length) = some 1 := by decide +kernel
set_option maxHeartbeats 4000000 in
set_option maxRecDepth 100000 in
theorem c_X2_began {l : Launch} {D : va_G} {h : Nat} {ad : Nat → Nat} {ca : Nat → ClassId} {s s9 : q_s} {a a9 : q_a} {g g9 : q_g} {p1 : Int32} {r9 : Int32} (hf : f_X2_began s a g p1 = some (r9, s9, a9, g9)) : q_Mi l yX2_began wsX2_began ({ frames := 1, cells := 0, slots := 0, locals := 21 }) D (q_tY ca) (q_wY h ad ca) [.ref h, .int p1] s a g r9 s9 a9 g9 := by
  unfold f_X2_began at hf
  refine q_entI (cc := cX2_began) (maxL := 2) (ret := (some .int)) (by decide) rfl (Nat.le_of_ble_eq_true rfl) ?_
  intro p e st m args below meth c A ls C hr hlocks hml hA I hl
  have hl : lv_has ls 2 [(0, .ref h), (1, .int p1)] := hl
  have hinX2 : ∀ w ∈ wsX20, w ∈ wsX2_began := fun _ h => List.mem_cons_of_mem _ (List.mem_append_right _ h)
  have k23 : Cond.fieldLink RX2 23 "ReaderYard" "begun" "[I" ∈ wsX2_began := by decide +kernel
  refine lv_aload_n C.1 C.2.1 dX2_began_0 rfl (lv_at hl 0 rfl) ?_
  refine lv_iload_n C.1 C.2.1 dX2_began_1 rfl (lv_at hl 1 rfl) ?_
  obtain ⟨r5, s1, a2, g3, h4, hf⟩ := q_ci_some hf
  refine q_callVi (As := [.int p1]) (rest := []) C hml (c_X2_isReader h4) (cwV 1 C.2.2.2.1 gX2_began_X2_isReader rfl rfl rfl e_X2_isReader ⟨Nat.le_of_ble_eq_true rfl, Nat.le_of_ble_eq_true rfl⟩) I hA (q0 := 0) (ci := 2) rfl rfl rfl rfl hl.1 rfl (Nat.le_of_ble_eq_true rfl) dX2_began_2 ⟨Nat.zero_le _, Nat.zero_le _⟩ (fun H locs I => ?_)
  refine lv_if_eq (tgt := 17) C.1 C.2.1 dX2_began_5 (by decide) (fun c6 => ?_) (fun c6 => ?_)
  · have hf := q_if_t hf c6
    refine lv_bipush (v := (-2)) C.1 C.2.1 dX2_began_17 (by decide) ?_
    obtain ⟨rfl, rfl, rfl, rfl⟩ := q_some4 hf
    exact q_iret C hr hlocks I dX2_began_19
  · have hf := q_if_f hf c6
    refine lv_aload_n C.1 C.2.1 dX2_began_8 rfl (lv_at hl 0 rfl) ?_
    refine q_get_RX2_23 C hinX2 k23 I dX2_began_9 ?_
    refine lv_iload_n C.1 C.2.1 dX2_began_12 rfl (lv_at hl 1 rfl) ?_
    obtain ⟨b7, hf⟩ := q_ck_some hf
    refine q_ld_Y_begun C b7 I dX2_began_13 ?_
    refine lv_goto (tgt := 19) C.1 C.2.1 dX2_began_14 (by decide) ?_
    obtain ⟨rfl, rfl, rfl, rfl⟩ := q_some4 hf
    exact q_iret C hr hlocks I dX2_began_19

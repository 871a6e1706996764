def f_X2_follow_lb (G : q_s → q_a → q_g → Int32 → Int32 → Int32 → Int32 → Option (Int32 × q_S)) (n : Nat) (F : q_s → q_a → q_g → Int32 → Int32 → Int32 → Int32 → Int32 → Int32 → Int32 → Int32 → Int32 → Option (Int32 × q_S)) (s : q_s) (a : q_a) (g : q_g) (x1 : Int32) (x2 : Int32) (x3 : Int32) (x4 : Int32) (x6 : Int32) (x7 : Int32) (x8 : Int32) (x9 : Int32) (x10 : Int32) : Option (Int32 × q_S) :=
 if 200 < x10 then
  if x9 = (-1) then
   q_cv (f_X2_takeBack s a g x6 x7) fun s3 a4 g5 =>
   some (x9, s3, a4, g5)
  else
   some (x9, s, a, g)
 else
  q_ci (G s a g x8 x9 (x3 + 1) x4) fun r12 s8 a9 g10 =>
  q_ci (f_X2_isFault s8 a9 g10 r12) fun r17 s13 a14 g15 =>
  if r17 = 0 then
   if x9 < r12 then
     F s13 a14 g15 x1 x2 x3 x4 (s 24) (s 33) x8 r12 (x10 + 1)
   else
    q_cv (f_X2_takeBack s13 a14 g15 (s 24) (s 33)) fun s20 a21 g22 =>
    if x9 = (-1) then
     q_cv (f_X2_takeBack s20 a21 g22 (s 24) (s 33)) fun s26 a27 g28 =>
     some (x9, s26, a27, g28)
    else
     some (x9, s20, a21, g22)
  else
   some (r12, s13, a14, g15)
def f_X2_follow_lp (G : q_s → q_a → q_g → Int32 → Int32 → Int32 → Int32 → Option (Int32 × q_S)) (n : Nat) (k : Nat) : q_s → q_a → q_g → Int32 → Int32 → Int32 → Int32 → Int32 → Int32 → Int32 → Int32 → Int32 → Option (Int32 × q_S) := match k with
  | 0 => fun _ _ _ _ _ _ _ _ _ _ _ _ => none
  | k + 1 => fun s a g x1 x2 x3 x4 x6 x7 x8 x9 x10 => f_X2_follow_lb G n (f_X2_follow_lp G n k) s a g x1 x2 x3 x4 x6 x7 x8 x9 x10
def f_X2_follow_bd (G : q_s → q_a → q_g → Int32 → Int32 → Int32 → Int32 → Option (Int32 × q_S)) (n : Nat) (s : q_s) (a : q_a) (g : q_g) (p1 : Int32) (p2 : Int32) (p3 : Int32) (p4 : Int32) : Option (Int32 × q_S) :=
 q_ci (f_X2_begin s a g p1 p3) fun r35 s31 a32 g33 =>
 if r35 = 0 then
  q_ck p1 50 <|
  q_ck p1 50 <|
  if a32 2 p1.toNatClampNeg = 4 then
   q_ci (G s31 a32 g33 (a32 3 p1.toNatClampNeg) p2 (p3 + 1) p4) fun r44 s40 a41 g42 =>
   if r44 < 0 then
    if r44 = (-1) then
     q_cv (f_X2_takeBack s40 a41 g42 (s31 24) (s31 33)) fun s47 a48 g49 =>
     some (r44, s47, a48, g49)
    else
     some (r44, s40, a41, g42)
   else
    q_ck p1 50 <|
    q_ci (G s40 a41 g42 (a41 4 p1.toNatClampNeg) r44 (p3 + 1) p4) fun r57 s53 a54 g55 =>
    if r57 = (-1) then
     q_cv (f_X2_takeBack s53 a54 g55 (s31 24) (s31 33)) fun s59 a60 g61 =>
     some (r57, s59, a60, g61)
    else
     some (r57, s53, a54, g55)
  else
   if a32 2 p1.toNatClampNeg = 5 then
    q_ck p3 151 <|
    q_bd (q_ua a32 8 p3.toNatClampNeg (vp_nar .boolean 0)) fun a67 =>
    q_ci (G s31 a67 g33 (a32 3 p1.toNatClampNeg) p2 (p3 + 1) p3) fun r72 s68 a69 g70 =>
    if r72 = (-1) then
     q_ck p3 151 <|
     if a69 8 p3.toNatClampNeg = 0 then
      q_ck p1 50 <|
      q_ci (G s68 a69 g70 (a69 4 p1.toNatClampNeg) p2 (p3 + 1) p4) fun r93 s89 a90 g91 =>
      if r93 = (-1) then
       q_cv (f_X2_takeBack s89 a90 g91 (s31 24) (s31 33)) fun s95 a96 g97 =>
       some (r93, s95, a96, g97)
      else
       some (r93, s89, a90, g91)
     else
      if r72 = (-1) then
       q_cv (f_X2_takeBack s68 a69 g70 (s31 24) (s31 33)) fun s83 a84 g85 =>
       some (r72, s83, a84, g85)
      else
       some (r72, s68, a69, g70)
    else
     if r72 = (-1) then
      q_cv (f_X2_takeBack s68 a69 g70 (s31 24) (s31 33)) fun s75 a76 g77 =>
      some (r72, s75, a76, g77)
     else
      some (r72, s68, a69, g70)
   else
    if a32 2 p1.toNatClampNeg = 6 then
     f_X2_follow_lp G n n s31 a32 g33 p1 p2 p3 p4 (s31 24) (s31 33) (a32 3 p1.toNatClampNeg) p2 0
    else
     if a32 2 p1.toNatClampNeg = 7 ∨ a32 2 p1.toNatClampNeg = 8 ∨ a32 2 p1.toNatClampNeg = 9 ∨ a32 2 p1.toNatClampNeg = 11 then
      q_ci (G s31 a32 g33 (a32 3 p1.toNatClampNeg) p2 (p3 + 1) p4) fun r106 s102 a103 g104 =>
      q_ci (f_X2_turn s102 a103 g104 p1 p2 r106 (s31 24) (s31 33)) fun r111 s107 a108 g109 =>
      if r111 = (-1) then
       q_cv (f_X2_takeBack s107 a108 g109 (s31 24) (s31 33)) fun s113 a114 g115 =>
       some (r111, s113, a114, g115)
      else
       some (r111, s107, a108, g109)
     else
      if a32 2 p1.toNatClampNeg = 10 then
       q_ck (a32 3 p1.toNatClampNeg) 10 <|
       if a32 7 ((a32 3 p1.toNatClampNeg).toNatClampNeg) = (-1) then
        q_ci (f_X2_faultAnswer s31 a32 g33 1) fun r137 s133 a134 g135 =>
        if r137 = (-1) then
         q_cv (f_X2_takeBack s133 a134 g135 (s31 24) (s31 33)) fun s139 a140 g141 =>
         some (r137, s139, a140, g141)
        else
         some (r137, s133, a134, g135)
       else
        q_ck (a32 3 p1.toNatClampNeg) 10 <|
        q_ci (G s31 a32 g33 (a32 7 ((a32 3 p1.toNatClampNeg).toNatClampNeg)) p2 (p3 + 1) p4) fun r126 s122 a123 g124 =>
        if r126 = (-1) then
         q_cv (f_X2_takeBack s122 a123 g124 (s31 24) (s31 33)) fun s128 a129 g130 =>
         some (r126, s128, a129, g130)
        else
         some (r126, s122, a123, g124)
      else
       q_ci (f_X2_readAlone n s31 a32 g33 p1 p2 p4) fun r148 s144 a145 g146 =>
       if r148 = (-1) then
        q_cv (f_X2_takeBack s144 a145 g146 (s31 24) (s31 33)) fun s150 a151 g152 =>
        some (r148, s150, a151, g152)
       else
        some (r148, s144, a145, g146)
 else
  some (r35, s31, a32, g33)
def f_X2_follow (n : Nat) (d : Nat) : q_s → q_a → q_g → Int32 → Int32 → Int32 → Int32 → Option (Int32 × q_S) := match d with
  | 0 => fun _ _ _ _ _ _ _ => none
  | d + 1 => fun s a g p1 p2 p3 p4 => f_X2_follow_bd (f_X2_follow n d) n s a g p1 p2 p3 p4
theorem e_X2_follow : yX2_follow.cls = RX2 ∧ yX2_follow.cls ≠ "java/lang/invoke/MethodHandle" ∧ yX2_follow.cls ≠ "java/lang/invoke/VarHandle" ∧ (parseMethodDescriptor yX2_follow.desc).map (fun d => d.parameters.length) = some 4 := by decide +kernel
set_option maxHeartbeats 4000000 in
set_option maxRecDepth 100000 in
theorem c_X2_follow {l : Launch} {D : va_G} {h : Nat} {ad : Nat → Nat} {ca : Nat → ClassId} {n : Nat} : ∀ (d : Nat) {s s9 : q_s} {a a9 : q_a} {g g9 : q_g} {p1 : Int32} {p2 : Int32} {p3 : Int32} {p4 : Int32} {r9 : Int32} (hf : f_X2_follow n d s a g p1 p2 p3 p4 = some (r9, s9, a9, g9)), q_Mi l yX2_follow wsX2_follow ({ frames := d + 4, cells := 0, slots := 0, locals := 31 * d + 97 }) D (q_tY ca) (q_wY h ad ca) [.ref h, .int p1, .int p2, .int p3, .int p4] s a g r9 s9 a9 g9 := by
  intro d
  induction d with
  | zero => intro s s9 a a9 g g9 p1 p2 p3 p4 r9 hf; exact absurd hf (by simp [f_X2_follow])
  | succ d ihd =>
  intro s s9 a a9 g g9 p1 p2 p3 p4 r9 hf
  have hf : f_X2_follow_bd (f_X2_follow n d) n s a g p1 p2 p3 p4 = some (r9, s9, a9, g9) := hf
  generalize hG : f_X2_follow n d = G at hf ihd
  unfold f_X2_follow_bd at hf
  refine q_entI (cc := cX2_follow) (maxL := 12) (ret := (some .int)) (by decide) rfl (Nat.le_of_ble_eq_true rfl) ?_
  intro p e st m args below meth c A ls C hr hlocks hml hA I hl
  have hl : lv_has ls 12 [(0, .ref h), (1, .int p1), (2, .int p2), (3, .int p3), (4, .int p4)] := hl
  have hinX0 : ∀ w ∈ wsX00, w ∈ wsX2_follow := fun _ h => List.mem_cons_of_mem _ (List.mem_append_right _ h)
  have hinX1 : ∀ w ∈ wsX10, w ∈ wsX2_follow := fun _ h => List.mem_cons_of_mem _ (List.mem_append_left _ (List.mem_append_right _ h))
  have hinX2 : ∀ w ∈ wsX20, w ∈ wsX2_follow := fun _ h => List.mem_cons_of_mem _ (List.mem_append_left _ (List.mem_append_left _ (List.mem_append_right _ h)))
  have k36 : Cond.fieldLink RX2 36 "ReaderYard" "numbers" "LReaderYard$Pile;" ∈ wsX2_follow := by decide +kernel
  have k94 : Cond.fieldLink RX2 94 "ReaderYard$Pile" "top" "I" ∈ wsX2_follow := by decide +kernel
  have k43 : Cond.fieldLink RX2 43 "ReaderYard" "marks" "LReaderYard$Marks;" ∈ wsX2_follow := by decide +kernel
  have k97 : Cond.fieldLink RX2 97 "ReaderYard$Marks" "size" "I" ∈ wsX2_follow := by decide +kernel
  have k17 : Cond.fieldLink RX2 17 "ReaderYard" "firsts" "[I" ∈ wsX2_follow := by decide +kernel
  have k13 : Cond.fieldLink RX2 13 "ReaderYard" "sorts" "[I" ∈ wsX2_follow := by decide +kernel
  have k20 : Cond.fieldLink RX2 20 "ReaderYard" "seconds" "[I" ∈ wsX2_follow := by decide +kernel
  have k29 : Cond.fieldLink RX2 29 "ReaderYard" "barred" "[Z" ∈ wsX2_follow := by decide +kernel
  have k26 : Cond.fieldLink RX2 26 "ReaderYard" "names" "[I" ∈ wsX2_follow := by decide +kernel
  have lp : ∀ (k : Nat) (s : q_s) (a : q_a) (g : q_g) (x1 : Int32) (x2 : Int32) (x3 : Int32) (x4 : Int32) (x6 : Int32) (x7 : Int32) (x8 : Int32) (x9 : Int32) (x10 : Int32) (H : Heap) (locs : List Loc) (ls : Array Slot), f_X2_follow_lp G n k s a g x1 x2 x3 x4 x6 x7 x8 x9 x10 = some (r9, s9, a9, g9) → q_I D A st.heap H locs (q_wY h ad ca s a g) → lv_has ls 12 [(0, .ref h), (1, .int x1), (2, .int x2), (3, .int x3), (4, .int x4), (6, .int x6), (7, .int x7), (8, .int x8), (9, .int x9), (10, .int x10)] → W p l e ({ frames := (d + 1) + 4, cells := 0, slots := 0, locals := 31 * (d + 1) + 97 }) st m args below meth c H locs 0 0 (MQ below (va_Qi (fun (r2 : Int32) (u : q_S) => r2 = r9 ∧ u = (s9, a9, g9)) (q_B D (q_tY ca) (q_wY h ad ca) A) A) args st 0 0 A) (F0 m 199 ls []) := by
    intro k
    induction k with
    | zero => intro s a g x1 x2 x3 x4 x6 x7 x8 x9 x10 H locs ls hf; exact absurd hf (by simp [f_X2_follow_lp])
    | succ k ih =>
      intro s a g x1 x2 x3 x4 x6 x7 x8 x9 x10 H locs ls hf I hl
      have hf : f_X2_follow_lb G n (f_X2_follow_lp G n k) s a g x1 x2 x3 x4 x6 x7 x8 x9 x10 = some (r9, s9, a9, g9) := hf
      unfold f_X2_follow_lb at hf
      refine lv_iload C.1 C.2.1 dX2_follow_199 (lv_at hl 9 rfl) ?_
      refine lv_sipush (v := 200) C.1 C.2.1 dX2_follow_201 (by decide) ?_
      refine lv_icmp_gt (tgt := 279) C.1 C.2.1 dX2_follow_204 (by decide) (fun c1 => ?_) (fun c1 => ?_)
      · have hf := q_if_t hf c1
        refine lv_goto (tgt := 363) C.1 C.2.1 dX2_follow_279 (by decide) ?_
        refine lv_iload C.1 C.2.1 dX2_follow_363 (lv_at hl 8 rfl) ?_
        refine lv_iconst (v := (-1)) C.1 C.2.1 dX2_follow_365 (by decide) ?_
        refine lv_icmp_ne (tgt := 377) C.1 C.2.1 dX2_follow_366 (by decide) (fun c2 => ?_) (fun c2 => ?_)
        · have hf := q_if_f hf c2
          refine lv_iload C.1 C.2.1 dX2_follow_377 (lv_at hl 8 rfl) ?_
          obtain ⟨rfl, rfl, rfl, rfl⟩ := q_some4 hf
          exact q_iret C hr hlocks I dX2_follow_379
        · have hf := q_if_t hf c2
          refine lv_aload_n C.1 C.2.1 dX2_follow_369 rfl (lv_at hl 0 rfl) ?_
          refine lv_iload C.1 C.2.1 dX2_follow_370 (lv_at hl 5 rfl) ?_
          refine lv_iload C.1 C.2.1 dX2_follow_372 (lv_at hl 6 rfl) ?_
          obtain ⟨s3, a4, g5, h6, hf⟩ := q_cv_some hf
          refine q_callVv (As := [.int x6, .int x7]) (rest := []) C hml (c_X2_takeBack h6) (cwV 2 C.2.2.2.1 gX2_follow_X2_takeBack rfl rfl rfl e_X2_takeBack ⟨(by show _ ≤ _; dsimp only; omega), (by show _ ≤ _; dsimp only; omega)⟩) I hA (q0 := 0) (ci := 2) rfl rfl rfl rfl hl.1 rfl (Nat.le_of_ble_eq_true rfl) dX2_follow_374 ⟨Nat.zero_le _, Nat.zero_le _⟩ (fun H locs I => ?_)
          refine lv_iload C.1 C.2.1 dX2_follow_377 (lv_at hl 8 rfl) ?_
          obtain ⟨rfl, rfl, rfl, rfl⟩ := q_some4 hf
          exact q_iret C hr hlocks I dX2_follow_379
      · have hf := q_if_f hf c1
        refine lv_aload_n C.1 C.2.1 dX2_follow_207 rfl (lv_at hl 0 rfl) ?_
        refine q_get_RX2_36 C hinX2 k36 I dX2_follow_208 ?_
        refine q_get_RX2_94 C hinX1 k94 I dX2_follow_211 ?_
        refine lv_istore (lv' := [(6, .int (s 24)), (0, .ref h), (1, .int x1), (2, .int x2), (3, .int x3), (4, .int x4), (7, .int x7), (8, .int x8), (9, .int x9), (10, .int x10)]) C.1 C.2.1 dX2_follow_214 hl (by decide) rfl (fun ls hl => ?_)
        refine lv_aload_n C.1 C.2.1 dX2_follow_216 rfl (lv_at hl 1 rfl) ?_
        refine q_get_RX2_43 C hinX2 k43 I dX2_follow_217 ?_
        refine q_get_RX2_97 C hinX0 k97 I dX2_follow_220 ?_
        refine lv_istore (lv' := [(7, .int (s 33)), (6, .int (s 24)), (0, .ref h), (1, .int x1), (2, .int x2), (3, .int x3), (4, .int x4), (8, .int x8), (9, .int x9), (10, .int x10)]) C.1 C.2.1 dX2_follow_223 hl (by decide) rfl (fun ls hl => ?_)
        refine lv_aload_n C.1 C.2.1 dX2_follow_225 rfl (lv_at hl 2 rfl) ?_
        refine lv_iload C.1 C.2.1 dX2_follow_226 (lv_at hl 7 rfl) ?_
        refine lv_iload C.1 C.2.1 dX2_follow_228 (lv_at hl 8 rfl) ?_
        refine lv_iload_n C.1 C.2.1 dX2_follow_230 rfl (lv_at hl 5 rfl) ?_
        refine lv_iconst (v := 1) C.1 C.2.1 dX2_follow_231 (by decide) ?_
        refine lv_iadd C.1 C.2.1 dX2_follow_232 ?_
        refine lv_iload C.1 C.2.1 dX2_follow_233 (lv_at hl 6 rfl) ?_
        obtain ⟨r12, s8, a9, g10, h11, hf⟩ := q_ci_some hf
        refine q_callVi (As := [.int x8, .int x9, .int (x3 + 1), .int x4]) (rest := []) C hml (ihd h11) (cwV 4 C.2.2.2.1 gX2_follow_X2_follow rfl rfl rfl e_X2_follow ⟨(by show _ ≤ _; dsimp only; omega), (by show _ ≤ _; dsimp only; omega)⟩) I hA (q0 := 0) (ci := 2) rfl rfl rfl rfl hl.1 rfl (Nat.le_of_ble_eq_true rfl) dX2_follow_235 ⟨Nat.zero_le _, Nat.zero_le _⟩ (fun H locs I => ?_)
        refine lv_istore (lv' := [(11, .int r12), (7, .int (s 33)), (6, .int (s 24)), (0, .ref h), (1, .int x1), (2, .int x2), (3, .int x3), (4, .int x4), (8, .int x8), (9, .int x9), (10, .int x10)]) C.1 C.2.1 dX2_follow_238 hl (by decide) rfl (fun ls hl => ?_)
        refine lv_iload C.1 C.2.1 dX2_follow_240 (lv_at hl 0 rfl) ?_
        obtain ⟨r17, s13, a14, g15, h16, hf⟩ := q_ci_some hf
        refine q_callSi (As := [.int r12]) (rest := []) C hml (c_X2_isFault h16) (va_cwS 1 C.2.2.2.1 gX2_follow_X2_isFault rfl rfl rfl e_X2_isFault ⟨(by show _ ≤ _; dsimp only; omega), (by show _ ≤ _; dsimp only; omega)⟩) I hA rfl hl.1 rfl (Nat.le_of_ble_eq_true rfl) dX2_follow_242 ⟨Nat.zero_le _, Nat.zero_le _⟩ (fun H locs I => ?_)
        refine lv_if_eq (tgt := 251) C.1 C.2.1 dX2_follow_245 (by decide) (fun c18 => ?_) (fun c18 => ?_)
        · have hf := q_if_t hf c18
          refine lv_iload C.1 C.2.1 dX2_follow_251 (lv_at hl 0 rfl) ?_
          refine lv_iload C.1 C.2.1 dX2_follow_253 (lv_at hl 9 rfl) ?_
          refine lv_icmp_gt (tgt := 269) C.1 C.2.1 dX2_follow_255 (by decide) (fun c19 => ?_) (fun c19 => ?_)
          · have hf := q_if_t hf c19
            refine lv_iload C.1 C.2.1 dX2_follow_269 (lv_at hl 0 rfl) ?_
            refine lv_istore (lv' := [(9, .int r12), (11, .int r12), (7, .int (s 33)), (6, .int (s 24)), (0, .ref h), (1, .int x1), (2, .int x2), (3, .int x3), (4, .int x4), (8, .int x8), (10, .int x10)]) C.1 C.2.1 dX2_follow_271 hl (by decide) rfl (fun ls hl => ?_)
            refine lv_iinc (v := x10 + 1) (lv' := [(10, .int (x10 + 1)), (9, .int r12), (11, .int r12), (7, .int (s 33)), (6, .int (s 24)), (0, .ref h), (1, .int x1), (2, .int x2), (3, .int x3), (4, .int x4), (8, .int x8)]) C.1 C.2.1 dX2_follow_273 hl (k := 10) rfl rfl (by decide) rfl (fun ls hl => ?_)
            refine lv_goto (tgt := 199) C.1 C.2.1 dX2_follow_276 (by decide) ?_
            exact ih _ _ _ _ _ _ _ _ _ _ _ _ _ _ _ hf I (lv_sub hl [5, 6, 7, 8, 9, 4, 3, 10, 1, 0] rfl)
          · have hf := q_if_f hf c19
            refine lv_aload_n C.1 C.2.1 dX2_follow_258 rfl (lv_at hl 3 rfl) ?_
            refine lv_iload C.1 C.2.1 dX2_follow_259 (lv_at hl 2 rfl) ?_
            refine lv_iload C.1 C.2.1 dX2_follow_261 (lv_at hl 1 rfl) ?_
            obtain ⟨s20, a21, g22, h23, hf⟩ := q_cv_some hf
            refine q_callVv (As := [.int (s 24), .int (s 33)]) (rest := []) C hml (c_X2_takeBack h23) (cwV 2 C.2.2.2.1 gX2_follow_X2_takeBack rfl rfl rfl e_X2_takeBack ⟨(by show _ ≤ _; dsimp only; omega), (by show _ ≤ _; dsimp only; omega)⟩) I hA (q0 := 0) (ci := 2) rfl rfl rfl rfl hl.1 rfl (Nat.le_of_ble_eq_true rfl) dX2_follow_263 ⟨Nat.zero_le _, Nat.zero_le _⟩ (fun H locs I => ?_)
            refine lv_goto (tgt := 279) C.1 C.2.1 dX2_follow_266 (by decide) ?_
            refine lv_goto (tgt := 363) C.1 C.2.1 dX2_follow_279 (by decide) ?_
            refine lv_iload C.1 C.2.1 dX2_follow_363 (lv_at hl 9 rfl) ?_
            refine lv_iconst (v := (-1)) C.1 C.2.1 dX2_follow_365 (by decide) ?_
            refine lv_icmp_ne (tgt := 377) C.1 C.2.1 dX2_follow_366 (by decide) (fun c25 => ?_) (fun c25 => ?_)
            · have hf := q_if_f hf c25
              refine lv_iload C.1 C.2.1 dX2_follow_377 (lv_at hl 9 rfl) ?_
              obtain ⟨rfl, rfl, rfl, rfl⟩ := q_some4 hf
              exact q_iret C hr hlocks I dX2_follow_379
            · have hf := q_if_t hf c25
              refine lv_aload_n C.1 C.2.1 dX2_follow_369 rfl (lv_at hl 3 rfl) ?_
              refine lv_iload C.1 C.2.1 dX2_follow_370 (lv_at hl 2 rfl) ?_
              refine lv_iload C.1 C.2.1 dX2_follow_372 (lv_at hl 1 rfl) ?_
              obtain ⟨s26, a27, g28, h29, hf⟩ := q_cv_some hf
              refine q_callVv (As := [.int (s 24), .int (s 33)]) (rest := []) C hml (c_X2_takeBack h29) (cwV 2 C.2.2.2.1 gX2_follow_X2_takeBack rfl rfl rfl e_X2_takeBack ⟨(by show _ ≤ _; dsimp only; omega), (by show _ ≤ _; dsimp only; omega)⟩) I hA (q0 := 0) (ci := 2) rfl rfl rfl rfl hl.1 rfl (Nat.le_of_ble_eq_true rfl) dX2_follow_374 ⟨Nat.zero_le _, Nat.zero_le _⟩ (fun H locs I => ?_)
              refine lv_iload C.1 C.2.1 dX2_follow_377 (lv_at hl 9 rfl) ?_
              obtain ⟨rfl, rfl, rfl, rfl⟩ := q_some4 hf
              exact q_iret C hr hlocks I dX2_follow_379
        · have hf := q_if_f hf c18
          refine lv_iload C.1 C.2.1 dX2_follow_248 (lv_at hl 0 rfl) ?_
          obtain ⟨rfl, rfl, rfl, rfl⟩ := q_some4 hf
          exact q_iret C hr hlocks I dX2_follow_250
  refine lv_aload_n C.1 C.2.1 dX2_follow_0 rfl (lv_at hl 0 rfl) ?_
  refine lv_iload_n C.1 C.2.1 dX2_follow_1 rfl (lv_at hl 1 rfl) ?_
  refine lv_iload_n C.1 C.2.1 dX2_follow_2 rfl (lv_at hl 3 rfl) ?_
  obtain ⟨r35, s31, a32, g33, h34, hf⟩ := q_ci_some hf
  refine q_callVi (As := [.int p1, .int p3]) (rest := []) C hml (c_X2_begin h34) (cwV 2 C.2.2.2.1 gX2_follow_X2_begin rfl rfl rfl e_X2_begin ⟨(by show _ ≤ _; dsimp only; omega), (by show _ ≤ _; dsimp only; omega)⟩) I hA (q0 := 0) (ci := 2) rfl rfl rfl rfl hl.1 rfl (Nat.le_of_ble_eq_true rfl) dX2_follow_3 ⟨Nat.zero_le _, Nat.zero_le _⟩ (fun H locs I => ?_)
  refine lv_istore (lv' := [(5, .int r35), (0, .ref h), (1, .int p1), (2, .int p2), (3, .int p3), (4, .int p4)]) C.1 C.2.1 dX2_follow_6 hl (by decide) rfl (fun ls hl => ?_)
  refine lv_iload C.1 C.2.1 dX2_follow_8 (lv_at hl 0 rfl) ?_
  refine lv_if_eq (tgt := 16) C.1 C.2.1 dX2_follow_10 (by decide) (fun c36 => ?_) (fun c36 => ?_)
  · have hf := q_if_t hf c36
    refine lv_aload_n C.1 C.2.1 dX2_follow_16 rfl (lv_at hl 1 rfl) ?_
    refine q_get_RX2_36 C hinX2 k36 I dX2_follow_17 ?_
    refine q_get_RX2_94 C hinX1 k94 I dX2_follow_20 ?_
    refine lv_istore (lv' := [(6, .int (s31 24)), (5, .int r35), (0, .ref h), (1, .int p1), (2, .int p2), (3, .int p3), (4, .int p4)]) C.1 C.2.1 dX2_follow_23 hl (by decide) rfl (fun ls hl => ?_)
    refine lv_aload_n C.1 C.2.1 dX2_follow_25 rfl (lv_at hl 2 rfl) ?_
    refine q_get_RX2_43 C hinX2 k43 I dX2_follow_26 ?_
    refine q_get_RX2_97 C hinX0 k97 I dX2_follow_29 ?_
    refine lv_istore (lv' := [(7, .int (s31 33)), (6, .int (s31 24)), (5, .int r35), (0, .ref h), (1, .int p1), (2, .int p2), (3, .int p3), (4, .int p4)]) C.1 C.2.1 dX2_follow_32 hl (by decide) rfl (fun ls hl => ?_)
    refine lv_aload_n C.1 C.2.1 dX2_follow_34 rfl (lv_at hl 3 rfl) ?_
    refine q_get_RX2_17 C hinX2 k17 I dX2_follow_35 ?_
    refine lv_iload_n C.1 C.2.1 dX2_follow_38 rfl (lv_at hl 4 rfl) ?_
    obtain ⟨b37, hf⟩ := q_ck_some hf
    refine q_ld_Y_firsts C b37 I dX2_follow_39 ?_
    refine lv_istore (lv' := [(8, .int (a32 3 p1.toNatClampNeg)), (7, .int (s31 33)), (6, .int (s31 24)), (5, .int r35), (0, .ref h), (1, .int p1), (2, .int p2), (3, .int p3), (4, .int p4)]) C.1 C.2.1 dX2_follow_40 hl (by decide) rfl (fun ls hl => ?_)
    refine lv_aload_n C.1 C.2.1 dX2_follow_42 rfl (lv_at hl 4 rfl) ?_
    refine q_get_RX2_13 C hinX2 k13 I dX2_follow_43 ?_
    refine lv_iload_n C.1 C.2.1 dX2_follow_46 rfl (lv_at hl 5 rfl) ?_
    obtain ⟨b38, hf⟩ := q_ck_some hf
    refine q_ld_Y_sorts C b38 I dX2_follow_47 ?_
    by_cases c39 : a32 2 p1.toNatClampNeg = 4
    · have hf := q_if_t hf c39
      refine lv_tableIn (off := 48) (tgt := 96) C.1 C.2.1 dX2_follow_48 (by skip <;> rw [c39] <;> decide) (by skip <;> rw [c39] <;> decide) (by skip <;> rw [c39] <;> rfl) (by decide) ?_
      refine lv_aload_n C.1 C.2.1 dX2_follow_96 rfl (lv_at hl 4 rfl) ?_
      refine lv_iload C.1 C.2.1 dX2_follow_97 (lv_at hl 0 rfl) ?_
      refine lv_iload_n C.1 C.2.1 dX2_follow_99 rfl (lv_at hl 6 rfl) ?_
      refine lv_iload_n C.1 C.2.1 dX2_follow_100 rfl (lv_at hl 7 rfl) ?_
      refine lv_iconst (v := 1) C.1 C.2.1 dX2_follow_101 (by decide) ?_
      refine lv_iadd C.1 C.2.1 dX2_follow_102 ?_
      refine lv_iload C.1 C.2.1 dX2_follow_103 (lv_at hl 8 rfl) ?_
      obtain ⟨r44, s40, a41, g42, h43, hf⟩ := q_ci_some hf
      refine q_callVi (As := [.int (a32 3 p1.toNatClampNeg), .int p2, .int (p3 + 1), .int p4]) (rest := []) C hml (ihd h43) (cwV 4 C.2.2.2.1 gX2_follow_X2_follow rfl rfl rfl e_X2_follow ⟨(by show _ ≤ _; dsimp only; omega), (by show _ ≤ _; dsimp only; omega)⟩) I hA (q0 := 0) (ci := 2) rfl rfl rfl rfl hl.1 rfl (Nat.le_of_ble_eq_true rfl) dX2_follow_105 ⟨Nat.zero_le _, Nat.zero_le _⟩ (fun H locs I => ?_)
      refine lv_istore (lv' := [(9, .int r44), (8, .int (a32 3 p1.toNatClampNeg)), (7, .int (s31 33)), (6, .int (s31 24)), (5, .int r35), (0, .ref h), (1, .int p1), (2, .int p2), (3, .int p3), (4, .int p4)]) C.1 C.2.1 dX2_follow_108 hl (by decide) rfl (fun ls hl => ?_)
      refine lv_iload C.1 C.2.1 dX2_follow_110 (lv_at hl 0 rfl) ?_
      refine lv_if_lt (tgt := 363) C.1 C.2.1 dX2_follow_112 (by decide) (fun c45 => ?_) (fun c45 => ?_)
      · have hf := q_if_t hf c45
        refine lv_iload C.1 C.2.1 dX2_follow_363 (lv_at hl 0 rfl) ?_
        refine lv_iconst (v := (-1)) C.1 C.2.1 dX2_follow_365 (by decide) ?_
        refine lv_icmp_ne (tgt := 377) C.1 C.2.1 dX2_follow_366 (by decide) (fun c46 => ?_) (fun c46 => ?_)
        · have hf := q_if_f hf c46
          refine lv_iload C.1 C.2.1 dX2_follow_377 (lv_at hl 0 rfl) ?_
          obtain ⟨rfl, rfl, rfl, rfl⟩ := q_some4 hf
          exact q_iret C hr hlocks I dX2_follow_379
        · have hf := q_if_t hf c46
          refine lv_aload_n C.1 C.2.1 dX2_follow_369 rfl (lv_at hl 5 rfl) ?_
          refine lv_iload C.1 C.2.1 dX2_follow_370 (lv_at hl 3 rfl) ?_
          refine lv_iload C.1 C.2.1 dX2_follow_372 (lv_at hl 2 rfl) ?_
          obtain ⟨s47, a48, g49, h50, hf⟩ := q_cv_some hf
          refine q_callVv (As := [.int (s31 24), .int (s31 33)]) (rest := []) C hml (c_X2_takeBack h50) (cwV 2 C.2.2.2.1 gX2_follow_X2_takeBack rfl rfl rfl e_X2_takeBack ⟨(by show _ ≤ _; dsimp only; omega), (by show _ ≤ _; dsimp only; omega)⟩) I hA (q0 := 0) (ci := 2) rfl rfl rfl rfl hl.1 rfl (Nat.le_of_ble_eq_true rfl) dX2_follow_374 ⟨Nat.zero_le _, Nat.zero_le _⟩ (fun H locs I => ?_)
          refine lv_iload C.1 C.2.1 dX2_follow_377 (lv_at hl 0 rfl) ?_
          obtain ⟨rfl, rfl, rfl, rfl⟩ := q_some4 hf
          exact q_iret C hr hlocks I dX2_follow_379
      · have hf := q_if_f hf c45
        refine lv_aload_n C.1 C.2.1 dX2_follow_115 rfl (lv_at hl 5 rfl) ?_
        refine lv_aload_n C.1 C.2.1 dX2_follow_116 rfl (lv_at hl 5 rfl) ?_
        refine q_get_RX2_20 C hinX2 k20 I dX2_follow_117 ?_
        refine lv_iload_n C.1 C.2.1 dX2_follow_120 rfl (lv_at hl 6 rfl) ?_
        obtain ⟨b52, hf⟩ := q_ck_some hf
        refine q_ld_Y_seconds C b52 I dX2_follow_121 ?_
        refine lv_iload C.1 C.2.1 dX2_follow_122 (lv_at hl 0 rfl) ?_
        refine lv_iload_n C.1 C.2.1 dX2_follow_124 rfl (lv_at hl 8 rfl) ?_
        refine lv_iconst (v := 1) C.1 C.2.1 dX2_follow_125 (by decide) ?_
        refine lv_iadd C.1 C.2.1 dX2_follow_126 ?_
        refine lv_iload C.1 C.2.1 dX2_follow_127 (lv_at hl 9 rfl) ?_
        obtain ⟨r57, s53, a54, g55, h56, hf⟩ := q_ci_some hf
        refine q_callVi (As := [.int (a41 4 p1.toNatClampNeg), .int r44, .int (p3 + 1), .int p4]) (rest := []) C hml (ihd h56) (cwV 4 C.2.2.2.1 gX2_follow_X2_follow rfl rfl rfl e_X2_follow ⟨(by show _ ≤ _; dsimp only; omega), (by show _ ≤ _; dsimp only; omega)⟩) I hA (q0 := 0) (ci := 2) rfl rfl rfl rfl hl.1 rfl (Nat.le_of_ble_eq_true rfl) dX2_follow_129 ⟨Nat.zero_le _, Nat.zero_le _⟩ (fun H locs I => ?_)
        refine lv_istore (lv' := [(9, .int r57), (8, .int (a32 3 p1.toNatClampNeg)), (7, .int (s31 33)), (6, .int (s31 24)), (5, .int r35), (0, .ref h), (1, .int p1), (2, .int p2), (3, .int p3), (4, .int p4)]) C.1 C.2.1 dX2_follow_132 hl (by decide) rfl (fun ls hl => ?_)
        refine lv_goto (tgt := 363) C.1 C.2.1 dX2_follow_134 (by decide) ?_
        refine lv_iload C.1 C.2.1 dX2_follow_363 (lv_at hl 0 rfl) ?_
        refine lv_iconst (v := (-1)) C.1 C.2.1 dX2_follow_365 (by decide) ?_
        refine lv_icmp_ne (tgt := 377) C.1 C.2.1 dX2_follow_366 (by decide) (fun c58 => ?_) (fun c58 => ?_)
        · have hf := q_if_f hf c58
          refine lv_iload C.1 C.2.1 dX2_follow_377 (lv_at hl 0 rfl) ?_
          obtain ⟨rfl, rfl, rfl, rfl⟩ := q_some4 hf
          exact q_iret C hr hlocks I dX2_follow_379
        · have hf := q_if_t hf c58
          refine lv_aload_n C.1 C.2.1 dX2_follow_369 rfl (lv_at hl 5 rfl) ?_
          refine lv_iload C.1 C.2.1 dX2_follow_370 (lv_at hl 3 rfl) ?_
          refine lv_iload C.1 C.2.1 dX2_follow_372 (lv_at hl 2 rfl) ?_
          obtain ⟨s59, a60, g61, h62, hf⟩ := q_cv_some hf
          refine q_callVv (As := [.int (s31 24), .int (s31 33)]) (rest := []) C hml (c_X2_takeBack h62) (cwV 2 C.2.2.2.1 gX2_follow_X2_takeBack rfl rfl rfl e_X2_takeBack ⟨(by show _ ≤ _; dsimp only; omega), (by show _ ≤ _; dsimp only; omega)⟩) I hA (q0 := 0) (ci := 2) rfl rfl rfl rfl hl.1 rfl (Nat.le_of_ble_eq_true rfl) dX2_follow_374 ⟨Nat.zero_le _, Nat.zero_le _⟩ (fun H locs I => ?_)
          refine lv_iload C.1 C.2.1 dX2_follow_377 (lv_at hl 0 rfl) ?_
          obtain ⟨rfl, rfl, rfl, rfl⟩ := q_some4 hf
          exact q_iret C hr hlocks I dX2_follow_379
    have hf := q_if_f hf c39
    by_cases c64 : a32 2 p1.toNatClampNeg = 5
    · have hf := q_if_t hf c64
      refine lv_tableIn (off := 89) (tgt := 137) C.1 C.2.1 dX2_follow_48 (by skip <;> rw [c64] <;> decide) (by skip <;> rw [c64] <;> decide) (by skip <;> rw [c64] <;> rfl) (by decide) ?_
      refine lv_aload_n C.1 C.2.1 dX2_follow_137 rfl (lv_at hl 4 rfl) ?_
      refine q_get_RX2_29 C hinX2 k29 I dX2_follow_138 ?_
      refine lv_iload_n C.1 C.2.1 dX2_follow_141 rfl (lv_at hl 7 rfl) ?_
      refine lv_iconst (v := 0) C.1 C.2.1 dX2_follow_142 (by decide) ?_
      obtain ⟨b65, hf⟩ := q_ck_some hf
      obtain ⟨a67, e66, hf⟩ := q_bd_some hf
      refine q_st_Y_barred C b65 e66 I dX2_follow_143 (fun H locs I => ?_)
      refine lv_aload_n C.1 C.2.1 dX2_follow_144 rfl (lv_at hl 4 rfl) ?_
      refine lv_iload C.1 C.2.1 dX2_follow_145 (lv_at hl 0 rfl) ?_
      refine lv_iload_n C.1 C.2.1 dX2_follow_147 rfl (lv_at hl 6 rfl) ?_
      refine lv_iload_n C.1 C.2.1 dX2_follow_148 rfl (lv_at hl 7 rfl) ?_
      refine lv_iconst (v := 1) C.1 C.2.1 dX2_follow_149 (by decide) ?_
      refine lv_iadd C.1 C.2.1 dX2_follow_150 ?_
      refine lv_iload_n C.1 C.2.1 dX2_follow_151 rfl (lv_at hl 7 rfl) ?_
      obtain ⟨r72, s68, a69, g70, h71, hf⟩ := q_ci_some hf
      refine q_callVi (As := [.int (a32 3 p1.toNatClampNeg), .int p2, .int (p3 + 1), .int p3]) (rest := []) C hml (ihd h71) (cwV 4 C.2.2.2.1 gX2_follow_X2_follow rfl rfl rfl e_X2_follow ⟨(by show _ ≤ _; dsimp only; omega), (by show _ ≤ _; dsimp only; omega)⟩) I hA (q0 := 0) (ci := 2) rfl rfl rfl rfl hl.1 rfl (Nat.le_of_ble_eq_true rfl) dX2_follow_152 ⟨Nat.zero_le _, Nat.zero_le _⟩ (fun H locs I => ?_)
      refine lv_istore (lv' := [(9, .int r72), (8, .int (a32 3 p1.toNatClampNeg)), (7, .int (s31 33)), (6, .int (s31 24)), (5, .int r35), (0, .ref h), (1, .int p1), (2, .int p2), (3, .int p3), (4, .int p4)]) C.1 C.2.1 dX2_follow_155 hl (by decide) rfl (fun ls hl => ?_)
      refine lv_iload C.1 C.2.1 dX2_follow_157 (lv_at hl 0 rfl) ?_
      refine lv_iconst (v := (-1)) C.1 C.2.1 dX2_follow_159 (by decide) ?_
      refine lv_icmp_ne (tgt := 363) C.1 C.2.1 dX2_follow_160 (by decide) (fun c73 => ?_) (fun c73 => ?_)
      · have hf := q_if_f hf c73
        refine lv_iload C.1 C.2.1 dX2_follow_363 (lv_at hl 0 rfl) ?_
        refine lv_iconst (v := (-1)) C.1 C.2.1 dX2_follow_365 (by decide) ?_
        refine lv_icmp_ne (tgt := 377) C.1 C.2.1 dX2_follow_366 (by decide) (fun c74 => ?_) (fun c74 => ?_)
        · have hf := q_if_f hf c74
          refine lv_iload C.1 C.2.1 dX2_follow_377 (lv_at hl 0 rfl) ?_
          obtain ⟨rfl, rfl, rfl, rfl⟩ := q_some4 hf
          exact q_iret C hr hlocks I dX2_follow_379
        · have hf := q_if_t hf c74
          refine lv_aload_n C.1 C.2.1 dX2_follow_369 rfl (lv_at hl 5 rfl) ?_
          refine lv_iload C.1 C.2.1 dX2_follow_370 (lv_at hl 3 rfl) ?_
          refine lv_iload C.1 C.2.1 dX2_follow_372 (lv_at hl 2 rfl) ?_
          obtain ⟨s75, a76, g77, h78, hf⟩ := q_cv_some hf
          refine q_callVv (As := [.int (s31 24), .int (s31 33)]) (rest := []) C hml (c_X2_takeBack h78) (cwV 2 C.2.2.2.1 gX2_follow_X2_takeBack rfl rfl rfl e_X2_takeBack ⟨(by show _ ≤ _; dsimp only; omega), (by show _ ≤ _; dsimp only; omega)⟩) I hA (q0 := 0) (ci := 2) rfl rfl rfl rfl hl.1 rfl (Nat.le_of_ble_eq_true rfl) dX2_follow_374 ⟨Nat.zero_le _, Nat.zero_le _⟩ (fun H locs I => ?_)
          refine lv_iload C.1 C.2.1 dX2_follow_377 (lv_at hl 0 rfl) ?_
          obtain ⟨rfl, rfl, rfl, rfl⟩ := q_some4 hf
          exact q_iret C hr hlocks I dX2_follow_379
      · have hf := q_if_t hf c73
        refine lv_aload_n C.1 C.2.1 dX2_follow_163 rfl (lv_at hl 5 rfl) ?_
        refine q_get_RX2_29 C hinX2 k29 I dX2_follow_164 ?_
        refine lv_iload_n C.1 C.2.1 dX2_follow_167 rfl (lv_at hl 8 rfl) ?_
        obtain ⟨b80, hf⟩ := q_ck_some hf
        refine q_ld_Y_barred C b80 I dX2_follow_168 ?_
        refine lv_if_ne (tgt := 363) C.1 C.2.1 dX2_follow_169 (by decide) (fun c81 => ?_) (fun c81 => ?_)
        · have hf := q_if_f hf c81
          refine lv_iload C.1 C.2.1 dX2_follow_363 (lv_at hl 0 rfl) ?_
          refine lv_iconst (v := (-1)) C.1 C.2.1 dX2_follow_365 (by decide) ?_
          refine lv_icmp_ne (tgt := 377) C.1 C.2.1 dX2_follow_366 (by decide) (fun c82 => ?_) (fun c82 => ?_)
          · have hf := q_if_f hf c82
            refine lv_iload C.1 C.2.1 dX2_follow_377 (lv_at hl 0 rfl) ?_
            obtain ⟨rfl, rfl, rfl, rfl⟩ := q_some4 hf
            exact q_iret C hr hlocks I dX2_follow_379
          · have hf := q_if_t hf c82
            refine lv_aload_n C.1 C.2.1 dX2_follow_369 rfl (lv_at hl 5 rfl) ?_
            refine lv_iload C.1 C.2.1 dX2_follow_370 (lv_at hl 3 rfl) ?_
            refine lv_iload C.1 C.2.1 dX2_follow_372 (lv_at hl 2 rfl) ?_
            obtain ⟨s83, a84, g85, h86, hf⟩ := q_cv_some hf
            refine q_callVv (As := [.int (s31 24), .int (s31 33)]) (rest := []) C hml (c_X2_takeBack h86) (cwV 2 C.2.2.2.1 gX2_follow_X2_takeBack rfl rfl rfl e_X2_takeBack ⟨(by show _ ≤ _; dsimp only; omega), (by show _ ≤ _; dsimp only; omega)⟩) I hA (q0 := 0) (ci := 2) rfl rfl rfl rfl hl.1 rfl (Nat.le_of_ble_eq_true rfl) dX2_follow_374 ⟨Nat.zero_le _, Nat.zero_le _⟩ (fun H locs I => ?_)
            refine lv_iload C.1 C.2.1 dX2_follow_377 (lv_at hl 0 rfl) ?_
            obtain ⟨rfl, rfl, rfl, rfl⟩ := q_some4 hf
            exact q_iret C hr hlocks I dX2_follow_379
        · have hf := q_if_t hf c81
          refine lv_aload_n C.1 C.2.1 dX2_follow_172 rfl (lv_at hl 5 rfl) ?_
          refine lv_aload_n C.1 C.2.1 dX2_follow_173 rfl (lv_at hl 5 rfl) ?_
          refine q_get_RX2_20 C hinX2 k20 I dX2_follow_174 ?_
          refine lv_iload_n C.1 C.2.1 dX2_follow_177 rfl (lv_at hl 6 rfl) ?_
          obtain ⟨b88, hf⟩ := q_ck_some hf
          refine q_ld_Y_seconds C b88 I dX2_follow_178 ?_
          refine lv_iload_n C.1 C.2.1 dX2_follow_179 rfl (lv_at hl 7 rfl) ?_
          refine lv_iload_n C.1 C.2.1 dX2_follow_180 rfl (lv_at hl 8 rfl) ?_
          refine lv_iconst (v := 1) C.1 C.2.1 dX2_follow_181 (by decide) ?_
          refine lv_iadd C.1 C.2.1 dX2_follow_182 ?_
          refine lv_iload C.1 C.2.1 dX2_follow_183 (lv_at hl 9 rfl) ?_
          obtain ⟨r93, s89, a90, g91, h92, hf⟩ := q_ci_some hf
          refine q_callVi (As := [.int (a69 4 p1.toNatClampNeg), .int p2, .int (p3 + 1), .int p4]) (rest := []) C hml (ihd h92) (cwV 4 C.2.2.2.1 gX2_follow_X2_follow rfl rfl rfl e_X2_follow ⟨(by show _ ≤ _; dsimp only; omega), (by show _ ≤ _; dsimp only; omega)⟩) I hA (q0 := 0) (ci := 2) rfl rfl rfl rfl hl.1 rfl (Nat.le_of_ble_eq_true rfl) dX2_follow_185 ⟨Nat.zero_le _, Nat.zero_le _⟩ (fun H locs I => ?_)
          refine lv_istore (lv' := [(9, .int r93), (8, .int (a32 3 p1.toNatClampNeg)), (7, .int (s31 33)), (6, .int (s31 24)), (5, .int r35), (0, .ref h), (1, .int p1), (2, .int p2), (3, .int p3), (4, .int p4)]) C.1 C.2.1 dX2_follow_188 hl (by decide) rfl (fun ls hl => ?_)
          refine lv_goto (tgt := 363) C.1 C.2.1 dX2_follow_190 (by decide) ?_
          refine lv_iload C.1 C.2.1 dX2_follow_363 (lv_at hl 0 rfl) ?_
          refine lv_iconst (v := (-1)) C.1 C.2.1 dX2_follow_365 (by decide) ?_
          refine lv_icmp_ne (tgt := 377) C.1 C.2.1 dX2_follow_366 (by decide) (fun c94 => ?_) (fun c94 => ?_)
          · have hf := q_if_f hf c94
            refine lv_iload C.1 C.2.1 dX2_follow_377 (lv_at hl 0 rfl) ?_
            obtain ⟨rfl, rfl, rfl, rfl⟩ := q_some4 hf
            exact q_iret C hr hlocks I dX2_follow_379
          · have hf := q_if_t hf c94
            refine lv_aload_n C.1 C.2.1 dX2_follow_369 rfl (lv_at hl 5 rfl) ?_
            refine lv_iload C.1 C.2.1 dX2_follow_370 (lv_at hl 3 rfl) ?_
            refine lv_iload C.1 C.2.1 dX2_follow_372 (lv_at hl 2 rfl) ?_
            obtain ⟨s95, a96, g97, h98, hf⟩ := q_cv_some hf
            refine q_callVv (As := [.int (s31 24), .int (s31 33)]) (rest := []) C hml (c_X2_takeBack h98) (cwV 2 C.2.2.2.1 gX2_follow_X2_takeBack rfl rfl rfl e_X2_takeBack ⟨(by show _ ≤ _; dsimp only; omega), (by show _ ≤ _; dsimp only; omega)⟩) I hA (q0 := 0) (ci := 2) rfl rfl rfl rfl hl.1 rfl (Nat.le_of_ble_eq_true rfl) dX2_follow_374 ⟨Nat.zero_le _, Nat.zero_le _⟩ (fun H locs I => ?_)
            refine lv_iload C.1 C.2.1 dX2_follow_377 (lv_at hl 0 rfl) ?_
            obtain ⟨rfl, rfl, rfl, rfl⟩ := q_some4 hf
            exact q_iret C hr hlocks I dX2_follow_379
    have hf := q_if_f hf c64
    by_cases c100 : a32 2 p1.toNatClampNeg = 6
    · have hf := q_if_t hf c100
      refine lv_tableIn (off := 145) (tgt := 193) C.1 C.2.1 dX2_follow_48 (by skip <;> rw [c100] <;> decide) (by skip <;> rw [c100] <;> decide) (by skip <;> rw [c100] <;> rfl) (by decide) ?_
      refine lv_iload_n C.1 C.2.1 dX2_follow_193 rfl (lv_at hl 6 rfl) ?_
      refine lv_istore (lv' := [(9, .int p2), (8, .int (a32 3 p1.toNatClampNeg)), (7, .int (s31 33)), (6, .int (s31 24)), (5, .int r35), (0, .ref h), (1, .int p1), (2, .int p2), (3, .int p3), (4, .int p4)]) C.1 C.2.1 dX2_follow_194 hl (by decide) rfl (fun ls hl => ?_)
      refine lv_iconst (v := 0) C.1 C.2.1 dX2_follow_196 (by decide) ?_
      refine lv_istore (lv' := [(10, .int 0), (9, .int p2), (8, .int (a32 3 p1.toNatClampNeg)), (7, .int (s31 33)), (6, .int (s31 24)), (5, .int r35), (0, .ref h), (1, .int p1), (2, .int p2), (3, .int p3), (4, .int p4)]) C.1 C.2.1 dX2_follow_197 hl (by decide) rfl (fun ls hl => ?_)
      exact lp n _ _ _ _ _ _ _ _ _ _ _ _ _ _ _ hf I (lv_sub hl [6, 7, 8, 9, 10, 4, 3, 2, 1, 0] rfl)
    have hf := q_if_f hf c100
    by_cases c101 : a32 2 p1.toNatClampNeg = 7 ∨ a32 2 p1.toNatClampNeg = 8 ∨ a32 2 p1.toNatClampNeg = 9 ∨ a32 2 p1.toNatClampNeg = 11
    · have hf := q_if_t hf c101
      refine lv_tableIn (off := 274) (tgt := 322) C.1 C.2.1 dX2_follow_48 (by rcases c101 with c101 | c101 | c101 | c101 <;> rw [c101] <;> decide) (by rcases c101 with c101 | c101 | c101 | c101 <;> rw [c101] <;> decide) (by rcases c101 with c101 | c101 | c101 | c101 <;> rw [c101] <;> rfl) (by decide) ?_
      refine lv_aload_n C.1 C.2.1 dX2_follow_322 rfl (lv_at hl 4 rfl) ?_
      refine lv_iload C.1 C.2.1 dX2_follow_323 (lv_at hl 0 rfl) ?_
      refine lv_iload_n C.1 C.2.1 dX2_follow_325 rfl (lv_at hl 6 rfl) ?_
      refine lv_iload_n C.1 C.2.1 dX2_follow_326 rfl (lv_at hl 7 rfl) ?_
      refine lv_iconst (v := 1) C.1 C.2.1 dX2_follow_327 (by decide) ?_
      refine lv_iadd C.1 C.2.1 dX2_follow_328 ?_
      refine lv_iload C.1 C.2.1 dX2_follow_329 (lv_at hl 8 rfl) ?_
      obtain ⟨r106, s102, a103, g104, h105, hf⟩ := q_ci_some hf
      refine q_callVi (As := [.int (a32 3 p1.toNatClampNeg), .int p2, .int (p3 + 1), .int p4]) (rest := []) C hml (ihd h105) (cwV 4 C.2.2.2.1 gX2_follow_X2_follow rfl rfl rfl e_X2_follow ⟨(by show _ ≤ _; dsimp only; omega), (by show _ ≤ _; dsimp only; omega)⟩) I hA (q0 := 0) (ci := 2) rfl rfl rfl rfl hl.1 rfl (Nat.le_of_ble_eq_true rfl) dX2_follow_331 ⟨Nat.zero_le _, Nat.zero_le _⟩ (fun H locs I => ?_)
      refine lv_istore (lv' := [(9, .int r106), (8, .int (a32 3 p1.toNatClampNeg)), (7, .int (s31 33)), (6, .int (s31 24)), (5, .int r35), (0, .ref h), (1, .int p1), (2, .int p2), (3, .int p3), (4, .int p4)]) C.1 C.2.1 dX2_follow_334 hl (by decide) rfl (fun ls hl => ?_)
      refine lv_aload_n C.1 C.2.1 dX2_follow_336 rfl (lv_at hl 5 rfl) ?_
      refine lv_iload_n C.1 C.2.1 dX2_follow_337 rfl (lv_at hl 6 rfl) ?_
      refine lv_iload_n C.1 C.2.1 dX2_follow_338 rfl (lv_at hl 7 rfl) ?_
      refine lv_iload C.1 C.2.1 dX2_follow_339 (lv_at hl 0 rfl) ?_
      refine lv_iload C.1 C.2.1 dX2_follow_341 (lv_at hl 3 rfl) ?_
      refine lv_iload C.1 C.2.1 dX2_follow_343 (lv_at hl 2 rfl) ?_
      obtain ⟨r111, s107, a108, g109, h110, hf⟩ := q_ci_some hf
      refine q_callVi (As := [.int p1, .int p2, .int r106, .int (s31 24), .int (s31 33)]) (rest := []) C hml (c_X2_turn h110) (cwV 5 C.2.2.2.1 gX2_follow_X2_turn rfl rfl rfl e_X2_turn ⟨(by show _ ≤ _; dsimp only; omega), (by show _ ≤ _; dsimp only; omega)⟩) I hA (q0 := 0) (ci := 2) rfl rfl rfl rfl hl.1 rfl (Nat.le_of_ble_eq_true rfl) dX2_follow_345 ⟨Nat.zero_le _, Nat.zero_le _⟩ (fun H locs I => ?_)
      refine lv_istore (lv' := [(9, .int r111), (8, .int (a32 3 p1.toNatClampNeg)), (7, .int (s31 33)), (6, .int (s31 24)), (5, .int r35), (0, .ref h), (1, .int p1), (2, .int p2), (3, .int p3), (4, .int p4)]) C.1 C.2.1 dX2_follow_348 hl (by decide) rfl (fun ls hl => ?_)
      refine lv_goto (tgt := 363) C.1 C.2.1 dX2_follow_350 (by decide) ?_
      refine lv_iload C.1 C.2.1 dX2_follow_363 (lv_at hl 0 rfl) ?_
      refine lv_iconst (v := (-1)) C.1 C.2.1 dX2_follow_365 (by decide) ?_
      refine lv_icmp_ne (tgt := 377) C.1 C.2.1 dX2_follow_366 (by decide) (fun c112 => ?_) (fun c112 => ?_)
      · have hf := q_if_f hf c112
        refine lv_iload C.1 C.2.1 dX2_follow_377 (lv_at hl 0 rfl) ?_
        obtain ⟨rfl, rfl, rfl, rfl⟩ := q_some4 hf
        exact q_iret C hr hlocks I dX2_follow_379
      · have hf := q_if_t hf c112
        refine lv_aload_n C.1 C.2.1 dX2_follow_369 rfl (lv_at hl 5 rfl) ?_
        refine lv_iload C.1 C.2.1 dX2_follow_370 (lv_at hl 3 rfl) ?_
        refine lv_iload C.1 C.2.1 dX2_follow_372 (lv_at hl 2 rfl) ?_
        obtain ⟨s113, a114, g115, h116, hf⟩ := q_cv_some hf
        refine q_callVv (As := [.int (s31 24), .int (s31 33)]) (rest := []) C hml (c_X2_takeBack h116) (cwV 2 C.2.2.2.1 gX2_follow_X2_takeBack rfl rfl rfl e_X2_takeBack ⟨(by show _ ≤ _; dsimp only; omega), (by show _ ≤ _; dsimp only; omega)⟩) I hA (q0 := 0) (ci := 2) rfl rfl rfl rfl hl.1 rfl (Nat.le_of_ble_eq_true rfl) dX2_follow_374 ⟨Nat.zero_le _, Nat.zero_le _⟩ (fun H locs I => ?_)
        refine lv_iload C.1 C.2.1 dX2_follow_377 (lv_at hl 0 rfl) ?_
        obtain ⟨rfl, rfl, rfl, rfl⟩ := q_some4 hf
        exact q_iret C hr hlocks I dX2_follow_379
    have hf := q_if_f hf c101
    by_cases c118 : a32 2 p1.toNatClampNeg = 10
    · have hf := q_if_t hf c118
      refine lv_tableIn (off := 234) (tgt := 282) C.1 C.2.1 dX2_follow_48 (by skip <;> rw [c118] <;> decide) (by skip <;> rw [c118] <;> decide) (by skip <;> rw [c118] <;> rfl) (by decide) ?_
      refine lv_aload_n C.1 C.2.1 dX2_follow_282 rfl (lv_at hl 4 rfl) ?_
      refine q_get_RX2_26 C hinX2 k26 I dX2_follow_283 ?_
      refine lv_iload C.1 C.2.1 dX2_follow_286 (lv_at hl 0 rfl) ?_
      obtain ⟨b119, hf⟩ := q_ck_some hf
      refine q_ld_Y_names C b119 I dX2_follow_288 ?_
      refine lv_iconst (v := (-1)) C.1 C.2.1 dX2_follow_289 (by decide) ?_
      refine lv_icmp_ne (tgt := 300) C.1 C.2.1 dX2_follow_290 (by decide) (fun c120 => ?_) (fun c120 => ?_)
      · have hf := q_if_f hf c120
        refine lv_aload_n C.1 C.2.1 dX2_follow_300 rfl (lv_at hl 4 rfl) ?_
        refine lv_aload_n C.1 C.2.1 dX2_follow_301 rfl (lv_at hl 4 rfl) ?_
        refine q_get_RX2_26 C hinX2 k26 I dX2_follow_302 ?_
        refine lv_iload C.1 C.2.1 dX2_follow_305 (lv_at hl 0 rfl) ?_
        obtain ⟨b121, hf⟩ := q_ck_some hf
        refine q_ld_Y_names C b121 I dX2_follow_307 ?_
        refine lv_iload_n C.1 C.2.1 dX2_follow_308 rfl (lv_at hl 6 rfl) ?_
        refine lv_iload_n C.1 C.2.1 dX2_follow_309 rfl (lv_at hl 7 rfl) ?_
        refine lv_iconst (v := 1) C.1 C.2.1 dX2_follow_310 (by decide) ?_
        refine lv_iadd C.1 C.2.1 dX2_follow_311 ?_
        refine lv_iload C.1 C.2.1 dX2_follow_312 (lv_at hl 8 rfl) ?_
        obtain ⟨r126, s122, a123, g124, h125, hf⟩ := q_ci_some hf
        refine q_callVi (As := [.int (a32 7 ((a32 3 p1.toNatClampNeg).toNatClampNeg)), .int p2, .int (p3 + 1), .int p4]) (rest := []) C hml (ihd h125) (cwV 4 C.2.2.2.1 gX2_follow_X2_follow rfl rfl rfl e_X2_follow ⟨(by show _ ≤ _; dsimp only; omega), (by show _ ≤ _; dsimp only; omega)⟩) I hA (q0 := 0) (ci := 2) rfl rfl rfl rfl hl.1 rfl (Nat.le_of_ble_eq_true rfl) dX2_follow_314 ⟨Nat.zero_le _, Nat.zero_le _⟩ (fun H locs I => ?_)
        refine lv_istore (lv' := [(9, .int r126), (8, .int (a32 3 p1.toNatClampNeg)), (7, .int (s31 33)), (6, .int (s31 24)), (5, .int r35), (0, .ref h), (1, .int p1), (2, .int p2), (3, .int p3), (4, .int p4)]) C.1 C.2.1 dX2_follow_317 hl (by decide) rfl (fun ls hl => ?_)
        refine lv_goto (tgt := 363) C.1 C.2.1 dX2_follow_319 (by decide) ?_
        refine lv_iload C.1 C.2.1 dX2_follow_363 (lv_at hl 0 rfl) ?_
        refine lv_iconst (v := (-1)) C.1 C.2.1 dX2_follow_365 (by decide) ?_
        refine lv_icmp_ne (tgt := 377) C.1 C.2.1 dX2_follow_366 (by decide) (fun c127 => ?_) (fun c127 => ?_)
        · have hf := q_if_f hf c127
          refine lv_iload C.1 C.2.1 dX2_follow_377 (lv_at hl 0 rfl) ?_
          obtain ⟨rfl, rfl, rfl, rfl⟩ := q_some4 hf
          exact q_iret C hr hlocks I dX2_follow_379
        · have hf := q_if_t hf c127
          refine lv_aload_n C.1 C.2.1 dX2_follow_369 rfl (lv_at hl 5 rfl) ?_
          refine lv_iload C.1 C.2.1 dX2_follow_370 (lv_at hl 3 rfl) ?_
          refine lv_iload C.1 C.2.1 dX2_follow_372 (lv_at hl 2 rfl) ?_
          obtain ⟨s128, a129, g130, h131, hf⟩ := q_cv_some hf
          refine q_callVv (As := [.int (s31 24), .int (s31 33)]) (rest := []) C hml (c_X2_takeBack h131) (cwV 2 C.2.2.2.1 gX2_follow_X2_takeBack rfl rfl rfl e_X2_takeBack ⟨(by show _ ≤ _; dsimp only; omega), (by show _ ≤ _; dsimp only; omega)⟩) I hA (q0 := 0) (ci := 2) rfl rfl rfl rfl hl.1 rfl (Nat.le_of_ble_eq_true rfl) dX2_follow_374 ⟨Nat.zero_le _, Nat.zero_le _⟩ (fun H locs I => ?_)
          refine lv_iload C.1 C.2.1 dX2_follow_377 (lv_at hl 0 rfl) ?_
          obtain ⟨rfl, rfl, rfl, rfl⟩ := q_some4 hf
          exact q_iret C hr hlocks I dX2_follow_379
      · have hf := q_if_t hf c120
        refine lv_iconst (v := 1) C.1 C.2.1 dX2_follow_293 (by decide) ?_
        obtain ⟨r137, s133, a134, g135, h136, hf⟩ := q_ci_some hf
        refine q_callSi (As := [.int 1]) (rest := []) C hml (c_X2_faultAnswer h136) (va_cwS 1 C.2.2.2.1 gX2_follow_X2_faultAnswer rfl rfl rfl e_X2_faultAnswer ⟨(by show _ ≤ _; dsimp only; omega), (by show _ ≤ _; dsimp only; omega)⟩) I hA rfl hl.1 rfl (Nat.le_of_ble_eq_true rfl) dX2_follow_294 ⟨Nat.zero_le _, Nat.zero_le _⟩ (fun H locs I => ?_)
        refine lv_goto (tgt := 317) C.1 C.2.1 dX2_follow_297 (by decide) ?_
        refine lv_istore (lv' := [(9, .int r137), (8, .int (a32 3 p1.toNatClampNeg)), (7, .int (s31 33)), (6, .int (s31 24)), (5, .int r35), (0, .ref h), (1, .int p1), (2, .int p2), (3, .int p3), (4, .int p4)]) C.1 C.2.1 dX2_follow_317 hl (by decide) rfl (fun ls hl => ?_)
        refine lv_goto (tgt := 363) C.1 C.2.1 dX2_follow_319 (by decide) ?_
        refine lv_iload C.1 C.2.1 dX2_follow_363 (lv_at hl 0 rfl) ?_
        refine lv_iconst (v := (-1)) C.1 C.2.1 dX2_follow_365 (by decide) ?_
        refine lv_icmp_ne (tgt := 377) C.1 C.2.1 dX2_follow_366 (by decide) (fun c138 => ?_) (fun c138 => ?_)
        · have hf := q_if_f hf c138
          refine lv_iload C.1 C.2.1 dX2_follow_377 (lv_at hl 0 rfl) ?_
          obtain ⟨rfl, rfl, rfl, rfl⟩ := q_some4 hf
          exact q_iret C hr hlocks I dX2_follow_379
        · have hf := q_if_t hf c138
          refine lv_aload_n C.1 C.2.1 dX2_follow_369 rfl (lv_at hl 5 rfl) ?_
          refine lv_iload C.1 C.2.1 dX2_follow_370 (lv_at hl 3 rfl) ?_
          refine lv_iload C.1 C.2.1 dX2_follow_372 (lv_at hl 2 rfl) ?_
          obtain ⟨s139, a140, g141, h142, hf⟩ := q_cv_some hf
          refine q_callVv (As := [.int (s31 24), .int (s31 33)]) (rest := []) C hml (c_X2_takeBack h142) (cwV 2 C.2.2.2.1 gX2_follow_X2_takeBack rfl rfl rfl e_X2_takeBack ⟨(by show _ ≤ _; dsimp only; omega), (by show _ ≤ _; dsimp only; omega)⟩) I hA (q0 := 0) (ci := 2) rfl rfl rfl rfl hl.1 rfl (Nat.le_of_ble_eq_true rfl) dX2_follow_374 ⟨Nat.zero_le _, Nat.zero_le _⟩ (fun H locs I => ?_)
          refine lv_iload C.1 C.2.1 dX2_follow_377 (lv_at hl 0 rfl) ?_
          obtain ⟨rfl, rfl, rfl, rfl⟩ := q_some4 hf
          exact q_iret C hr hlocks I dX2_follow_379
    have hf := q_if_f hf c118
    refine lv_tableOut (tgt := 353) C.1 C.2.1 dX2_follow_48 (by
      refine q_out (fun k k1 k2 => ?_)
      have k3 : k = 4 ∨ k = 5 ∨ k = 6 ∨ k = 7 ∨ k = 8 ∨ k = 9 ∨ k = 10 ∨ k = 11 := by omega
      rcases k3 with rfl | rfl | rfl | rfl | rfl | rfl | rfl | rfl
      · exact fun z => c39 (z)
      · exact fun z => c64 (z)
      · exact fun z => c100 (z)
      · exact fun z => c101 (Or.inl z)
      · exact fun z => c101 (Or.inr (Or.inl z))
      · exact fun z => c101 (Or.inr (Or.inr (Or.inl z)))
      · exact fun z => c118 (z)
      · exact fun z => c101 (Or.inr (Or.inr (Or.inr (z))))
      ) (by decide) ?_
    refine lv_aload_n C.1 C.2.1 dX2_follow_353 rfl (lv_at hl 4 rfl) ?_
    refine lv_iload_n C.1 C.2.1 dX2_follow_354 rfl (lv_at hl 5 rfl) ?_
    refine lv_iload_n C.1 C.2.1 dX2_follow_355 rfl (lv_at hl 6 rfl) ?_
    refine lv_iload C.1 C.2.1 dX2_follow_356 (lv_at hl 8 rfl) ?_
    obtain ⟨r148, s144, a145, g146, h147, hf⟩ := q_ci_some hf
    refine q_callVi (As := [.int p1, .int p2, .int p4]) (rest := []) C hml (c_X2_readAlone h147) (cwV 3 C.2.2.2.1 gX2_follow_X2_readAlone rfl rfl rfl e_X2_readAlone ⟨(by show _ ≤ _; dsimp only; omega), (by show _ ≤ _; dsimp only; omega)⟩) I hA (q0 := 0) (ci := 2) rfl rfl rfl rfl hl.1 rfl (Nat.le_of_ble_eq_true rfl) dX2_follow_358 ⟨Nat.zero_le _, Nat.zero_le _⟩ (fun H locs I => ?_)
    refine lv_istore (lv' := [(9, .int r148), (8, .int (a32 3 p1.toNatClampNeg)), (7, .int (s31 33)), (6, .int (s31 24)), (5, .int r35), (0, .ref h), (1, .int p1), (2, .int p2), (3, .int p3), (4, .int p4)]) C.1 C.2.1 dX2_follow_361 hl (by decide) rfl (fun ls hl => ?_)
    refine lv_iload C.1 C.2.1 dX2_follow_363 (lv_at hl 0 rfl) ?_
    refine lv_iconst (v := (-1)) C.1 C.2.1 dX2_follow_365 (by decide) ?_
    refine lv_icmp_ne (tgt := 377) C.1 C.2.1 dX2_follow_366 (by decide) (fun c149 => ?_) (fun c149 => ?_)
    · have hf := q_if_f hf c149
      refine lv_iload C.1 C.2.1 dX2_follow_377 (lv_at hl 0 rfl) ?_
      obtain ⟨rfl, rfl, rfl, rfl⟩ := q_some4 hf
      exact q_iret C hr hlocks I dX2_follow_379
    · have hf := q_if_t hf c149
      refine lv_aload_n C.1 C.2.1 dX2_follow_369 rfl (lv_at hl 5 rfl) ?_
      refine lv_iload C.1 C.2.1 dX2_follow_370 (lv_at hl 3 rfl) ?_
      refine lv_iload C.1 C.2.1 dX2_follow_372 (lv_at hl 2 rfl) ?_
      obtain ⟨s150, a151, g152, h153, hf⟩ := q_cv_some hf
      refine q_callVv (As := [.int (s31 24), .int (s31 33)]) (rest := []) C hml (c_X2_takeBack h153) (cwV 2 C.2.2.2.1 gX2_follow_X2_takeBack rfl rfl rfl e_X2_takeBack ⟨(by show _ ≤ _; dsimp only; omega), (by show _ ≤ _; dsimp only; omega)⟩) I hA (q0 := 0) (ci := 2) rfl rfl rfl rfl hl.1 rfl (Nat.le_of_ble_eq_true rfl) dX2_follow_374 ⟨Nat.zero_le _, Nat.zero_le _⟩ (fun H locs I => ?_)
      refine lv_iload C.1 C.2.1 dX2_follow_377 (lv_at hl 0 rfl) ?_
      obtain ⟨rfl, rfl, rfl, rfl⟩ := q_some4 hf
      exact q_iret C hr hlocks I dX2_follow_379
  · have hf := q_if_f hf c36
    refine lv_iload C.1 C.2.1 dX2_follow_13 (lv_at hl 0 rfl) ?_
    obtain ⟨rfl, rfl, rfl, rfl⟩ := q_some4 hf
    exact q_iret C hr hlocks I dX2_follow_15

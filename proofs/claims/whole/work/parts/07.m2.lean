def f_X3_others (n : Nat) (s : q_s) (a : q_a) (g : q_g) (p1 : Int32) (p2 : Int32) : Option q_S :=
 q_ck p1 150 <|
 q_ck p2 50 <|
 if a 3 p2.toNatClampNeg = 10 then
  q_ck p1 150 <|
  if a 19 p1.toNatClampNeg ≤ 0 then
   q_ck p2 50 <|
   q_ck (a 4 p2.toNatClampNeg) 10 <|
   if a 7 ((a 4 p2.toNatClampNeg).toNatClampNeg) = (-1) then
    q_bd (q_us s 30 1) fun s16 =>
    some (s16, a, g)
   else
    q_ck p2 50 <|
    q_ck (a 4 p2.toNatClampNeg) 10 <|
    q_cv (f_X3_asks s a g (a 7 ((a 4 p2.toNatClampNeg).toNatClampNeg)) (a 20 p1.toNatClampNeg)) fun s11 a12 g13 =>
    some (s11, a12, g13)
  else
   q_cv (f_X3_ends s a g (s 29)) fun s18 a19 g20 =>
   some (s18, a19, g20)
 else
  if a 3 p2.toNatClampNeg = 11 then
   q_ck p1 150 <|
   if a 19 p1.toNatClampNeg = 0 then
    q_ck p2 50 <|
    q_cv (f_X3_asks s a g (a 4 p2.toNatClampNeg) (a 20 p1.toNatClampNeg)) fun s50 a51 g52 =>
    some (s50, a51, g52)
   else
    if s 29 = (-1) then
     q_cv (f_X3_ends s a g (s 29)) fun s27 a28 g29 =>
     some (s27, a28, g29)
    else
     q_ck p2 50 <|
     q_ck (s 13) 3001 <|
     q_bd (q_ua a 14 ((s 13).toNatClampNeg) (a 5 p2.toNatClampNeg)) fun a35 =>
     q_ck (s 13) 3001 <|
     q_bd (q_ua a35 15 ((s 13).toNatClampNeg) (a 20 p1.toNatClampNeg)) fun a38 =>
     q_ck (s 13) 3001 <|
     q_bd (q_ua a38 16 ((s 13).toNatClampNeg) (s 29)) fun a41 =>
     q_bd (q_us s 13 ((s 13) + 1)) fun s42 =>
     q_cv (f_X3_ends s42 a41 g (s42 29)) fun s44 a45 g46 =>
     some (s44, a45, g46)
  else
   if a 3 p2.toNatClampNeg = 12 then
    q_cv (f_X3_bars n s a g p1) fun s56 a57 g58 =>
    q_cv (f_X3_ends s56 a57 g58 (a 20 p1.toNatClampNeg)) fun s61 a62 g63 =>
    some (s61, a62, g63)
   else
    if a 3 p2.toNatClampNeg = 13 then
     q_ck p2 50 <|
     q_cv (f_X3_lay s a g ((a 4 p2.toNatClampNeg).toInt64) (s 12)) fun s68 a69 g70 =>
     q_cv (f_X3_ends s68 a69 g70 (a 20 p1.toNatClampNeg)) fun s73 a74 g75 =>
     some (s73, a74, g75)
    else
     if a 3 p2.toNatClampNeg = 14 then
      q_cv (f_X3_figure s a g (a 20 p1.toNatClampNeg)) fun s79 a80 g81 =>
      some (s79, a80, g81)
     else
      q_ck p2 50 <|
      q_cv (f_X3_acts s a g (a 20 p1.toNatClampNeg) (a 4 p2.toNatClampNeg)) fun s85 a86 g87 =>
      some (s85, a86, g87)
theorem e_X3_others : yX3_others.cls = RX3 ∧ yX3_others.cls ≠ "java/lang/invoke/MethodHandle" ∧ yX3_others.cls ≠ "java/lang/invoke/VarHandle" ∧ (parseMethodDescriptor yX3_others.desc).map (fun d => d.parameters.length) = some 2 := by decide +kernel
set_option maxHeartbeats 4000000 in
set_option maxRecDepth 100000 in
theorem c_X3_others {l : Launch} {D : va_G} {h : Nat} {ad : Nat → Nat} {ca : Nat → ClassId} {n : Nat} {s s9 : q_s} {a a9 : q_a} {g g9 : q_g} {p1 : Int32} {p2 : Int32} (hf : f_X3_others n s a g p1 p2 = some (s9, a9, g9)) : q_Mv l yX3_others wsX3_others ({ frames := 3, cells := 0, slots := 0, locals := 68 }) D (q_tM ca) (q_wM h ad ca) [.ref h, .int p1, .int p2] s a g s9 a9 g9 := by
  unfold f_X3_others at hf
  refine q_entV (cc := cX3_others) (maxL := 4) (ret := none) (by decide) rfl (Nat.le_of_ble_eq_true rfl) ?_
  intro p e st m args below meth c A ls C hr hlocks hml hA I hl
  have hl : lv_has ls 4 [(0, .ref h), (1, .int p1), (2, .int p2)] := hl
  have hinX3 : ∀ w ∈ wsX30, w ∈ wsX3_others := fun _ h => List.mem_cons_of_mem _ (List.mem_append_right _ h)
  have k53 : Cond.fieldLink RX3 53 "ReaderYardModel" "start" "[I" ∈ wsX3_others := by decide +kernel
  have k13 : Cond.fieldLink RX3 13 "ReaderYardModel" "sorts" "[I" ∈ wsX3_others := by decide +kernel
  have k50 : Cond.fieldLink RX3 50 "ReaderYardModel" "phase" "[I" ∈ wsX3_others := by decide +kernel
  have k25 : Cond.fieldLink RX3 25 "ReaderYardModel" "names" "[I" ∈ wsX3_others := by decide +kernel
  have k16 : Cond.fieldLink RX3 16 "ReaderYardModel" "as" "[I" ∈ wsX3_others := by decide +kernel
  have k99 : Cond.fieldLink RX3 99 "ReaderYardModel" "fault" "I" ∈ wsX3_others := by decide +kernel
  have k128 : Cond.fieldLink RX3 128 "ReaderYardModel" "result" "I" ∈ wsX3_others := by decide +kernel
  have k38 : Cond.fieldLink RX3 38 "ReaderYardModel" "markOf" "[I" ∈ wsX3_others := by decide +kernel
  have k114 : Cond.fieldLink RX3 114 "ReaderYardModel" "marks" "I" ∈ wsX3_others := by decide +kernel
  have k19 : Cond.fieldLink RX3 19 "ReaderYardModel" "bs" "[I" ∈ wsX3_others := by decide +kernel
  have k41 : Cond.fieldLink RX3 41 "ReaderYardModel" "markFrom" "[I" ∈ wsX3_others := by decide +kernel
  have k44 : Cond.fieldLink RX3 44 "ReaderYardModel" "markTo" "[I" ∈ wsX3_others := by decide +kernel
  have k108 : Cond.fieldLink RX3 108 "ReaderYardModel" "onTop" "I" ∈ wsX3_others := by decide +kernel
  refine lv_aload_n C.1 C.2.1 dX3_others_0 rfl (lv_at hl 0 rfl) ?_
  refine q_get_RX3_53 C hinX3 k53 I dX3_others_1 ?_
  refine lv_iload_n C.1 C.2.1 dX3_others_4 rfl (lv_at hl 1 rfl) ?_
  obtain ⟨b1, hf⟩ := q_ck_some hf
  refine q_ld_M_start C b1 I dX3_others_5 ?_
  refine lv_istore_n (lv' := [(3, .int (a 20 p1.toNatClampNeg)), (0, .ref h), (1, .int p1), (2, .int p2)]) C.1 C.2.1 dX3_others_6 rfl hl (by decide) rfl (fun ls hl => ?_)
  refine lv_aload_n C.1 C.2.1 dX3_others_7 rfl (lv_at hl 1 rfl) ?_
  refine q_get_RX3_13 C hinX3 k13 I dX3_others_8 ?_
  refine lv_iload_n C.1 C.2.1 dX3_others_11 rfl (lv_at hl 3 rfl) ?_
  obtain ⟨b2, hf⟩ := q_ck_some hf
  refine q_ld_M_sorts C b2 I dX3_others_12 ?_
  by_cases c3 : a 3 p2.toNatClampNeg = 10
  · have hf := q_if_t hf c3
    refine lv_tableIn (off := 35) (tgt := 48) C.1 C.2.1 dX3_others_13 (by skip <;> rw [c3] <;> decide) (by skip <;> rw [c3] <;> decide) (by skip <;> rw [c3] <;> rfl) (by decide) ?_
    refine lv_aload_n C.1 C.2.1 dX3_others_48 rfl (lv_at hl 1 rfl) ?_
    refine q_get_RX3_50 C hinX3 k50 I dX3_others_49 ?_
    refine lv_iload_n C.1 C.2.1 dX3_others_52 rfl (lv_at hl 2 rfl) ?_
    obtain ⟨b4, hf⟩ := q_ck_some hf
    refine q_ld_M_phase C b4 I dX3_others_53 ?_
    refine lv_if_le (tgt := 68) C.1 C.2.1 dX3_others_54 (by decide) (fun c5 => ?_) (fun c5 => ?_)
    · have hf := q_if_t hf c5
      refine lv_aload_n C.1 C.2.1 dX3_others_68 rfl (lv_at hl 1 rfl) ?_
      refine q_get_RX3_25 C hinX3 k25 I dX3_others_69 ?_
      refine lv_aload_n C.1 C.2.1 dX3_others_72 rfl (lv_at hl 1 rfl) ?_
      refine q_get_RX3_16 C hinX3 k16 I dX3_others_73 ?_
      refine lv_iload_n C.1 C.2.1 dX3_others_76 rfl (lv_at hl 3 rfl) ?_
      obtain ⟨b6, hf⟩ := q_ck_some hf
      refine q_ld_M_as C b6 I dX3_others_77 ?_
      obtain ⟨b7, hf⟩ := q_ck_some hf
      refine q_ld_M_names C b7 I dX3_others_78 ?_
      refine lv_iconst (v := (-1)) C.1 C.2.1 dX3_others_79 (by decide) ?_
      refine lv_icmp_ne (tgt := 91) C.1 C.2.1 dX3_others_80 (by decide) (fun c8 => ?_) (fun c8 => ?_)
      · have hf := q_if_f hf c8
        refine lv_aload_n C.1 C.2.1 dX3_others_91 rfl (lv_at hl 1 rfl) ?_
        refine lv_aload_n C.1 C.2.1 dX3_others_92 rfl (lv_at hl 1 rfl) ?_
        refine q_get_RX3_25 C hinX3 k25 I dX3_others_93 ?_
        refine lv_aload_n C.1 C.2.1 dX3_others_96 rfl (lv_at hl 1 rfl) ?_
        refine q_get_RX3_16 C hinX3 k16 I dX3_others_97 ?_
        refine lv_iload_n C.1 C.2.1 dX3_others_100 rfl (lv_at hl 3 rfl) ?_
        obtain ⟨b9, hf⟩ := q_ck_some hf
        refine q_ld_M_as C b9 I dX3_others_101 ?_
        obtain ⟨b10, hf⟩ := q_ck_some hf
        refine q_ld_M_names C b10 I dX3_others_102 ?_
        refine lv_iload_n C.1 C.2.1 dX3_others_103 rfl (lv_at hl 0 rfl) ?_
        obtain ⟨s11, a12, g13, h14, hf⟩ := q_cv_some hf
        refine q_callVv (As := [.int (a 7 ((a 4 p2.toNatClampNeg).toNatClampNeg)), .int (a 20 p1.toNatClampNeg)]) (rest := []) C hml (c_X3_asks h14) (cwV 2 C.2.2.2.1 gX3_others_X3_asks rfl rfl rfl e_X3_asks ⟨Nat.le_of_ble_eq_true rfl, Nat.le_of_ble_eq_true rfl⟩) I hA (q0 := 0) (ci := 3) rfl rfl rfl rfl hl.1 rfl (Nat.le_of_ble_eq_true rfl) dX3_others_104 ⟨Nat.zero_le _, Nat.zero_le _⟩ (fun H locs I => ?_)
        refine lv_goto (tgt := 255) C.1 C.2.1 dX3_others_107 (by decide) ?_
        obtain ⟨rfl, rfl, rfl⟩ := q_some3 hf
        exact q_vret C hr hlocks I dX3_others_255
      · have hf := q_if_t hf c8
        refine lv_aload_n C.1 C.2.1 dX3_others_83 rfl (lv_at hl 1 rfl) ?_
        refine lv_iconst (v := 1) C.1 C.2.1 dX3_others_84 (by decide) ?_
        obtain ⟨s16, e17, hf⟩ := q_bd_some hf
        refine q_put_RX3_99 C hinX3 k99 e17 I dX3_others_85 (fun H locs I => ?_)
        refine lv_goto (tgt := 255) C.1 C.2.1 dX3_others_88 (by decide) ?_
        obtain ⟨rfl, rfl, rfl⟩ := q_some3 hf
        exact q_vret C hr hlocks I dX3_others_255
    · have hf := q_if_f hf c5
      refine lv_aload_n C.1 C.2.1 dX3_others_57 rfl (lv_at hl 1 rfl) ?_
      refine lv_aload_n C.1 C.2.1 dX3_others_58 rfl (lv_at hl 1 rfl) ?_
      refine q_get_RX3_128 C hinX3 k128 I dX3_others_59 ?_
      obtain ⟨s18, a19, g20, h21, hf⟩ := q_cv_some hf
      refine q_callVv (As := [.int (s 29)]) (rest := []) C hml (c_X3_ends h21) (cwV 1 C.2.2.2.1 gX3_others_X3_ends rfl rfl rfl e_X3_ends ⟨Nat.le_of_ble_eq_true rfl, Nat.le_of_ble_eq_true rfl⟩) I hA (q0 := 0) (ci := 3) rfl rfl rfl rfl hl.1 rfl (Nat.le_of_ble_eq_true rfl) dX3_others_62 ⟨Nat.zero_le _, Nat.zero_le _⟩ (fun H locs I => ?_)
      refine lv_goto (tgt := 255) C.1 C.2.1 dX3_others_65 (by decide) ?_
      obtain ⟨rfl, rfl, rfl⟩ := q_some3 hf
      exact q_vret C hr hlocks I dX3_others_255
  have hf := q_if_f hf c3
  by_cases c23 : a 3 p2.toNatClampNeg = 11
  · have hf := q_if_t hf c23
    refine lv_tableIn (off := 97) (tgt := 110) C.1 C.2.1 dX3_others_13 (by skip <;> rw [c23] <;> decide) (by skip <;> rw [c23] <;> decide) (by skip <;> rw [c23] <;> rfl) (by decide) ?_
    refine lv_aload_n C.1 C.2.1 dX3_others_110 rfl (lv_at hl 1 rfl) ?_
    refine q_get_RX3_50 C hinX3 k50 I dX3_others_111 ?_
    refine lv_iload_n C.1 C.2.1 dX3_others_114 rfl (lv_at hl 2 rfl) ?_
    obtain ⟨b24, hf⟩ := q_ck_some hf
    refine q_ld_M_phase C b24 I dX3_others_115 ?_
    refine lv_if_ne (tgt := 133) C.1 C.2.1 dX3_others_116 (by decide) (fun c25 => ?_) (fun c25 => ?_)
    · have hf := q_if_f hf c25
      refine lv_aload_n C.1 C.2.1 dX3_others_133 rfl (lv_at hl 1 rfl) ?_
      refine q_get_RX3_128 C hinX3 k128 I dX3_others_134 ?_
      refine lv_iconst (v := (-1)) C.1 C.2.1 dX3_others_137 (by decide) ?_
      refine lv_icmp_eq (tgt := 189) C.1 C.2.1 dX3_others_138 (by decide) (fun c26 => ?_) (fun c26 => ?_)
      · have hf := q_if_t hf c26
        refine lv_aload_n C.1 C.2.1 dX3_others_189 rfl (lv_at hl 1 rfl) ?_
        refine lv_aload_n C.1 C.2.1 dX3_others_190 rfl (lv_at hl 1 rfl) ?_
        refine q_get_RX3_128 C hinX3 k128 I dX3_others_191 ?_
        obtain ⟨s27, a28, g29, h30, hf⟩ := q_cv_some hf
        refine q_callVv (As := [.int (s 29)]) (rest := []) C hml (c_X3_ends h30) (cwV 1 C.2.2.2.1 gX3_others_X3_ends rfl rfl rfl e_X3_ends ⟨Nat.le_of_ble_eq_true rfl, Nat.le_of_ble_eq_true rfl⟩) I hA (q0 := 0) (ci := 3) rfl rfl rfl rfl hl.1 rfl (Nat.le_of_ble_eq_true rfl) dX3_others_194 ⟨Nat.zero_le _, Nat.zero_le _⟩ (fun H locs I => ?_)
        refine lv_goto (tgt := 255) C.1 C.2.1 dX3_others_197 (by decide) ?_
        obtain ⟨rfl, rfl, rfl⟩ := q_some3 hf
        exact q_vret C hr hlocks I dX3_others_255
      · have hf := q_if_f hf c26
        refine lv_aload_n C.1 C.2.1 dX3_others_141 rfl (lv_at hl 1 rfl) ?_
        refine q_get_RX3_38 C hinX3 k38 I dX3_others_142 ?_
        refine lv_aload_n C.1 C.2.1 dX3_others_145 rfl (lv_at hl 1 rfl) ?_
        refine q_get_RX3_114 C hinX3 k114 I dX3_others_146 ?_
        refine lv_aload_n C.1 C.2.1 dX3_others_149 rfl (lv_at hl 1 rfl) ?_
        refine q_get_RX3_19 C hinX3 k19 I dX3_others_150 ?_
        refine lv_iload_n C.1 C.2.1 dX3_others_153 rfl (lv_at hl 3 rfl) ?_
        obtain ⟨b32, hf⟩ := q_ck_some hf
        refine q_ld_M_bs C b32 I dX3_others_154 ?_
        obtain ⟨b33, hf⟩ := q_ck_some hf
        obtain ⟨a35, e34, hf⟩ := q_bd_some hf
        refine q_st_M_markOf C b33 e34 I dX3_others_155 (fun H locs I => ?_)
        refine lv_aload_n C.1 C.2.1 dX3_others_156 rfl (lv_at hl 1 rfl) ?_
        refine q_get_RX3_41 C hinX3 k41 I dX3_others_157 ?_
        refine lv_aload_n C.1 C.2.1 dX3_others_160 rfl (lv_at hl 1 rfl) ?_
        refine q_get_RX3_114 C hinX3 k114 I dX3_others_161 ?_
        refine lv_iload_n C.1 C.2.1 dX3_others_164 rfl (lv_at hl 0 rfl) ?_
        obtain ⟨b36, hf⟩ := q_ck_some hf
        obtain ⟨a38, e37, hf⟩ := q_bd_some hf
        refine q_st_M_markFrom C b36 e37 I dX3_others_165 (fun H locs I => ?_)
        refine lv_aload_n C.1 C.2.1 dX3_others_166 rfl (lv_at hl 1 rfl) ?_
        refine q_get_RX3_44 C hinX3 k44 I dX3_others_167 ?_
        refine lv_aload_n C.1 C.2.1 dX3_others_170 rfl (lv_at hl 1 rfl) ?_
        refine q_get_RX3_114 C hinX3 k114 I dX3_others_171 ?_
        refine lv_aload_n C.1 C.2.1 dX3_others_174 rfl (lv_at hl 1 rfl) ?_
        refine q_get_RX3_128 C hinX3 k128 I dX3_others_175 ?_
        obtain ⟨b39, hf⟩ := q_ck_some hf
        obtain ⟨a41, e40, hf⟩ := q_bd_some hf
        refine q_st_M_markTo C b39 e40 I dX3_others_178 (fun H locs I => ?_)
        refine lv_aload_n C.1 C.2.1 dX3_others_179 rfl (lv_at hl 1 rfl) ?_
        refine lv_dup C.1 C.2.1 dX3_others_180 rfl ?_
        refine q_get_RX3_114 C hinX3 k114 I dX3_others_181 ?_
        refine lv_iconst (v := 1) C.1 C.2.1 dX3_others_184 (by decide) ?_
        refine lv_iadd C.1 C.2.1 dX3_others_185 ?_
        obtain ⟨s42, e43, hf⟩ := q_bd_some hf
        refine q_put_RX3_114 C hinX3 k114 e43 I dX3_others_186 (fun H locs I => ?_)
        refine lv_aload_n C.1 C.2.1 dX3_others_189 rfl (lv_at hl 1 rfl) ?_
        refine lv_aload_n C.1 C.2.1 dX3_others_190 rfl (lv_at hl 1 rfl) ?_
        refine q_get_RX3_128 C hinX3 k128 I dX3_others_191 ?_
        obtain ⟨s44, a45, g46, h47, hf⟩ := q_cv_some hf
        refine q_callVv (As := [.int (s42 29)]) (rest := []) C hml (c_X3_ends h47) (cwV 1 C.2.2.2.1 gX3_others_X3_ends rfl rfl rfl e_X3_ends ⟨Nat.le_of_ble_eq_true rfl, Nat.le_of_ble_eq_true rfl⟩) I hA (q0 := 0) (ci := 3) rfl rfl rfl rfl hl.1 rfl (Nat.le_of_ble_eq_true rfl) dX3_others_194 ⟨Nat.zero_le _, Nat.zero_le _⟩ (fun H locs I => ?_)
        refine lv_goto (tgt := 255) C.1 C.2.1 dX3_others_197 (by decide) ?_
        obtain ⟨rfl, rfl, rfl⟩ := q_some3 hf
        exact q_vret C hr hlocks I dX3_others_255
    · have hf := q_if_t hf c25
      refine lv_aload_n C.1 C.2.1 dX3_others_119 rfl (lv_at hl 1 rfl) ?_
      refine lv_aload_n C.1 C.2.1 dX3_others_120 rfl (lv_at hl 1 rfl) ?_
      refine q_get_RX3_16 C hinX3 k16 I dX3_others_121 ?_
      refine lv_iload_n C.1 C.2.1 dX3_others_124 rfl (lv_at hl 3 rfl) ?_
      obtain ⟨b49, hf⟩ := q_ck_some hf
      refine q_ld_M_as C b49 I dX3_others_125 ?_
      refine lv_iload_n C.1 C.2.1 dX3_others_126 rfl (lv_at hl 0 rfl) ?_
      obtain ⟨s50, a51, g52, h53, hf⟩ := q_cv_some hf
      refine q_callVv (As := [.int (a 4 p2.toNatClampNeg), .int (a 20 p1.toNatClampNeg)]) (rest := []) C hml (c_X3_asks h53) (cwV 2 C.2.2.2.1 gX3_others_X3_asks rfl rfl rfl e_X3_asks ⟨Nat.le_of_ble_eq_true rfl, Nat.le_of_ble_eq_true rfl⟩) I hA (q0 := 0) (ci := 3) rfl rfl rfl rfl hl.1 rfl (Nat.le_of_ble_eq_true rfl) dX3_others_127 ⟨Nat.zero_le _, Nat.zero_le _⟩ (fun H locs I => ?_)
      refine lv_goto (tgt := 255) C.1 C.2.1 dX3_others_130 (by decide) ?_
      obtain ⟨rfl, rfl, rfl⟩ := q_some3 hf
      exact q_vret C hr hlocks I dX3_others_255
  have hf := q_if_f hf c23
  by_cases c55 : a 3 p2.toNatClampNeg = 12
  · have hf := q_if_t hf c55
    refine lv_tableIn (off := 187) (tgt := 200) C.1 C.2.1 dX3_others_13 (by skip <;> rw [c55] <;> decide) (by skip <;> rw [c55] <;> decide) (by skip <;> rw [c55] <;> rfl) (by decide) ?_
    refine lv_aload_n C.1 C.2.1 dX3_others_200 rfl (lv_at hl 1 rfl) ?_
    refine lv_iload_n C.1 C.2.1 dX3_others_201 rfl (lv_at hl 2 rfl) ?_
    obtain ⟨s56, a57, g58, h59, hf⟩ := q_cv_some hf
    refine q_callVv (As := [.int p1]) (rest := []) C hml (c_X3_bars h59) (cwV 1 C.2.2.2.1 gX3_others_X3_bars rfl rfl rfl e_X3_bars ⟨Nat.le_of_ble_eq_true rfl, Nat.le_of_ble_eq_true rfl⟩) I hA (q0 := 0) (ci := 3) rfl rfl rfl rfl hl.1 rfl (Nat.le_of_ble_eq_true rfl) dX3_others_202 ⟨Nat.zero_le _, Nat.zero_le _⟩ (fun H locs I => ?_)
    refine lv_aload_n C.1 C.2.1 dX3_others_205 rfl (lv_at hl 1 rfl) ?_
    refine lv_iload_n C.1 C.2.1 dX3_others_206 rfl (lv_at hl 0 rfl) ?_
    obtain ⟨s61, a62, g63, h64, hf⟩ := q_cv_some hf
    refine q_callVv (As := [.int (a 20 p1.toNatClampNeg)]) (rest := []) C hml (c_X3_ends h64) (cwV 1 C.2.2.2.1 gX3_others_X3_ends rfl rfl rfl e_X3_ends ⟨Nat.le_of_ble_eq_true rfl, Nat.le_of_ble_eq_true rfl⟩) I hA (q0 := 0) (ci := 3) rfl rfl rfl rfl hl.1 rfl (Nat.le_of_ble_eq_true rfl) dX3_others_207 ⟨Nat.zero_le _, Nat.zero_le _⟩ (fun H locs I => ?_)
    refine lv_goto (tgt := 255) C.1 C.2.1 dX3_others_210 (by decide) ?_
    obtain ⟨rfl, rfl, rfl⟩ := q_some3 hf
    exact q_vret C hr hlocks I dX3_others_255
  have hf := q_if_f hf c55
  by_cases c66 : a 3 p2.toNatClampNeg = 13
  · have hf := q_if_t hf c66
    refine lv_tableIn (off := 200) (tgt := 213) C.1 C.2.1 dX3_others_13 (by skip <;> rw [c66] <;> decide) (by skip <;> rw [c66] <;> decide) (by skip <;> rw [c66] <;> rfl) (by decide) ?_
    refine lv_aload_n C.1 C.2.1 dX3_others_213 rfl (lv_at hl 1 rfl) ?_
    refine lv_aload_n C.1 C.2.1 dX3_others_214 rfl (lv_at hl 1 rfl) ?_
    refine q_get_RX3_16 C hinX3 k16 I dX3_others_215 ?_
    refine lv_iload_n C.1 C.2.1 dX3_others_218 rfl (lv_at hl 3 rfl) ?_
    obtain ⟨b67, hf⟩ := q_ck_some hf
    refine q_ld_M_as C b67 I dX3_others_219 ?_
    refine lv_i2l (v := (a 4 p2.toNatClampNeg).toInt64) C.1 C.2.1 dX3_others_220 rfl ?_
    refine lv_aload_n C.1 C.2.1 dX3_others_221 rfl (lv_at hl 1 rfl) ?_
    refine q_get_RX3_108 C hinX3 k108 I dX3_others_222 ?_
    obtain ⟨s68, a69, g70, h71, hf⟩ := q_cv_some hf
    refine q_callVv (As := [.long ((a 4 p2.toNatClampNeg).toInt64), .int (s 12)]) (rest := []) C hml (c_X3_lay h71) (cwV 2 C.2.2.2.1 gX3_others_X3_lay rfl rfl rfl e_X3_lay ⟨Nat.le_of_ble_eq_true rfl, Nat.le_of_ble_eq_true rfl⟩) I hA (q0 := 0) (ci := 3) rfl rfl rfl rfl hl.1 rfl (Nat.le_of_ble_eq_true rfl) dX3_others_225 ⟨Nat.zero_le _, Nat.zero_le _⟩ (fun H locs I => ?_)
    refine lv_aload_n C.1 C.2.1 dX3_others_228 rfl (lv_at hl 1 rfl) ?_
    refine lv_iload_n C.1 C.2.1 dX3_others_229 rfl (lv_at hl 0 rfl) ?_
    obtain ⟨s73, a74, g75, h76, hf⟩ := q_cv_some hf
    refine q_callVv (As := [.int (a 20 p1.toNatClampNeg)]) (rest := []) C hml (c_X3_ends h76) (cwV 1 C.2.2.2.1 gX3_others_X3_ends rfl rfl rfl e_X3_ends ⟨Nat.le_of_ble_eq_true rfl, Nat.le_of_ble_eq_true rfl⟩) I hA (q0 := 0) (ci := 3) rfl rfl rfl rfl hl.1 rfl (Nat.le_of_ble_eq_true rfl) dX3_others_230 ⟨Nat.zero_le _, Nat.zero_le _⟩ (fun H locs I => ?_)
    refine lv_goto (tgt := 255) C.1 C.2.1 dX3_others_233 (by decide) ?_
    obtain ⟨rfl, rfl, rfl⟩ := q_some3 hf
    exact q_vret C hr hlocks I dX3_others_255
  have hf := q_if_f hf c66
  by_cases c78 : a 3 p2.toNatClampNeg = 14
  · have hf := q_if_t hf c78
    refine lv_tableIn (off := 223) (tgt := 236) C.1 C.2.1 dX3_others_13 (by skip <;> rw [c78] <;> decide) (by skip <;> rw [c78] <;> decide) (by skip <;> rw [c78] <;> rfl) (by decide) ?_
    refine lv_aload_n C.1 C.2.1 dX3_others_236 rfl (lv_at hl 1 rfl) ?_
    refine lv_iload_n C.1 C.2.1 dX3_others_237 rfl (lv_at hl 0 rfl) ?_
    obtain ⟨s79, a80, g81, h82, hf⟩ := q_cv_some hf
    refine q_callVv (As := [.int (a 20 p1.toNatClampNeg)]) (rest := []) C hml (c_X3_figure h82) (cwV 1 C.2.2.2.1 gX3_others_X3_figure rfl rfl rfl e_X3_figure ⟨Nat.le_of_ble_eq_true rfl, Nat.le_of_ble_eq_true rfl⟩) I hA (q0 := 0) (ci := 3) rfl rfl rfl rfl hl.1 rfl (Nat.le_of_ble_eq_true rfl) dX3_others_238 ⟨Nat.zero_le _, Nat.zero_le _⟩ (fun H locs I => ?_)
    refine lv_goto (tgt := 255) C.1 C.2.1 dX3_others_241 (by decide) ?_
    obtain ⟨rfl, rfl, rfl⟩ := q_some3 hf
    exact q_vret C hr hlocks I dX3_others_255
  have hf := q_if_f hf c78
  refine lv_tableOut (tgt := 244) C.1 C.2.1 dX3_others_13 (by
    refine q_out (fun k k1 k2 => ?_)
    have k3 : k = 10 ∨ k = 11 ∨ k = 12 ∨ k = 13 ∨ k = 14 := by omega
    rcases k3 with rfl | rfl | rfl | rfl | rfl
    · exact fun z => c3 (z)
    · exact fun z => c23 (z)
    · exact fun z => c55 (z)
    · exact fun z => c66 (z)
    · exact fun z => c78 (z)
    ) (by decide) ?_
  refine lv_aload_n C.1 C.2.1 dX3_others_244 rfl (lv_at hl 1 rfl) ?_
  refine lv_iload_n C.1 C.2.1 dX3_others_245 rfl (lv_at hl 0 rfl) ?_
  refine lv_aload_n C.1 C.2.1 dX3_others_246 rfl (lv_at hl 1 rfl) ?_
  refine q_get_RX3_16 C hinX3 k16 I dX3_others_247 ?_
  refine lv_iload_n C.1 C.2.1 dX3_others_250 rfl (lv_at hl 3 rfl) ?_
  obtain ⟨b84, hf⟩ := q_ck_some hf
  refine q_ld_M_as C b84 I dX3_others_251 ?_
  obtain ⟨s85, a86, g87, h88, hf⟩ := q_cv_some hf
  refine q_callVv (As := [.int (a 20 p1.toNatClampNeg), .int (a 4 p2.toNatClampNeg)]) (rest := []) C hml (c_X3_acts h88) (cwV 2 C.2.2.2.1 gX3_others_X3_acts rfl rfl rfl e_X3_acts ⟨Nat.le_of_ble_eq_true rfl, Nat.le_of_ble_eq_true rfl⟩) I hA (q0 := 0) (ci := 3) rfl rfl rfl rfl hl.1 rfl (Nat.le_of_ble_eq_true rfl) dX3_others_252 ⟨Nat.zero_le _, Nat.zero_le _⟩ (fun H locs I => ?_)
  obtain ⟨rfl, rfl, rfl⟩ := q_some3 hf
  exact q_vret C hr hlocks I dX3_others_255
def f_X3_goesOn (n : Nat) (s : q_s) (a : q_a) (g : q_g) : Option q_S :=
 q_ck ((s 17) - 1) 150 <|
 q_ck (a 18 (((s 17) - 1).toNatClampNeg)) 50 <|
 if 4 ≤ a 3 ((a 18 (((s 17) - 1).toNatClampNeg)).toNatClampNeg) then
  if 10 ≤ a 3 ((a 18 (((s 17) - 1).toNatClampNeg)).toNatClampNeg) then
   q_cv (f_X3_others n s a g ((s 17) - 1) (a 18 (((s 17) - 1).toNatClampNeg))) fun s5 a6 g7 =>
   some (s5, a6, g7)
  else
   q_cv (f_X3_joins s a g ((s 17) - 1) (a 18 (((s 17) - 1).toNatClampNeg))) fun s10 a11 g12 =>
   some (s10, a11, g12)
 else
  q_cv (f_X3_sign s a g ((s 17) - 1) (a 18 (((s 17) - 1).toNatClampNeg))) fun s15 a16 g17 =>
  some (s15, a16, g17)
theorem e_X3_goesOn : yX3_goesOn.cls = RX3 ∧ yX3_goesOn.cls ≠ "java/lang/invoke/MethodHandle" ∧ yX3_goesOn.cls ≠ "java/lang/invoke/VarHandle" ∧ (parseMethodDescriptor yX3_goesOn.desc).map (fun d => d.parameters.length) = some 0 := by decide +kernel
set_option maxHeartbeats 4000000 in
set_option maxRecDepth 100000 in
theorem c_X3_goesOn {l : Launch} {D : va_G} {h : Nat} {ad : Nat → Nat} {ca : Nat → ClassId} {n : Nat} {s s9 : q_s} {a a9 : q_a} {g g9 : q_g} (hf : f_X3_goesOn n s a g = some (s9, a9, g9)) : q_Mv l yX3_goesOn wsX3_goesOn ({ frames := 4, cells := 0, slots := 0, locals := 91 }) D (q_tM ca) (q_wM h ad ca) [.ref h] s a g s9 a9 g9 := by
  unfold f_X3_goesOn at hf
  refine q_entV (cc := cX3_goesOn) (maxL := 4) (ret := none) (by decide) rfl (Nat.le_of_ble_eq_true rfl) ?_
  intro p e st m args below meth c A ls C hr hlocks hml hA I hl
  have hl : lv_has ls 4 [(0, .ref h)] := hl
  have hinX3 : ∀ w ∈ wsX30, w ∈ wsX3_goesOn := fun _ h => List.mem_cons_of_mem _ (List.mem_append_right _ h)
  have k96 : Cond.fieldLink RX3 96 "ReaderYardModel" "deep" "I" ∈ wsX3_goesOn := by decide +kernel
  have k47 : Cond.fieldLink RX3 47 "ReaderYardModel" "reader" "[I" ∈ wsX3_goesOn := by decide +kernel
  have k13 : Cond.fieldLink RX3 13 "ReaderYardModel" "sorts" "[I" ∈ wsX3_goesOn := by decide +kernel
  refine lv_aload_n C.1 C.2.1 dX3_goesOn_0 rfl (lv_at hl 0 rfl) ?_
  refine q_get_RX3_96 C hinX3 k96 I dX3_goesOn_1 ?_
  refine lv_iconst (v := 1) C.1 C.2.1 dX3_goesOn_4 (by decide) ?_
  refine lv_isub C.1 C.2.1 dX3_goesOn_5 ?_
  refine lv_istore_n (lv' := [(1, .int ((s 17) - 1)), (0, .ref h)]) C.1 C.2.1 dX3_goesOn_6 rfl hl (by decide) rfl (fun ls hl => ?_)
  refine lv_aload_n C.1 C.2.1 dX3_goesOn_7 rfl (lv_at hl 1 rfl) ?_
  refine q_get_RX3_47 C hinX3 k47 I dX3_goesOn_8 ?_
  refine lv_iload_n C.1 C.2.1 dX3_goesOn_11 rfl (lv_at hl 0 rfl) ?_
  obtain ⟨b1, hf⟩ := q_ck_some hf
  refine q_ld_M_reader C b1 I dX3_goesOn_12 ?_
  refine lv_istore_n (lv' := [(2, .int (a 18 (((s 17) - 1).toNatClampNeg))), (1, .int ((s 17) - 1)), (0, .ref h)]) C.1 C.2.1 dX3_goesOn_13 rfl hl (by decide) rfl (fun ls hl => ?_)
  refine lv_aload_n C.1 C.2.1 dX3_goesOn_14 rfl (lv_at hl 2 rfl) ?_
  refine q_get_RX3_13 C hinX3 k13 I dX3_goesOn_15 ?_
  refine lv_iload_n C.1 C.2.1 dX3_goesOn_18 rfl (lv_at hl 0 rfl) ?_
  obtain ⟨b2, hf⟩ := q_ck_some hf
  refine q_ld_M_sorts C b2 I dX3_goesOn_19 ?_
  refine lv_istore_n (lv' := [(3, .int (a 3 ((a 18 (((s 17) - 1).toNatClampNeg)).toNatClampNeg))), (2, .int (a 18 (((s 17) - 1).toNatClampNeg))), (1, .int ((s 17) - 1)), (0, .ref h)]) C.1 C.2.1 dX3_goesOn_20 rfl hl (by decide) rfl (fun ls hl => ?_)
  refine lv_iload_n C.1 C.2.1 dX3_goesOn_21 rfl (lv_at hl 0 rfl) ?_
  refine lv_iconst (v := 4) C.1 C.2.1 dX3_goesOn_22 (by decide) ?_
  refine lv_icmp_ge (tgt := 35) C.1 C.2.1 dX3_goesOn_23 (by decide) (fun c3 => ?_) (fun c3 => ?_)
  · have hf := q_if_t hf c3
    refine lv_iload_n C.1 C.2.1 dX3_goesOn_35 rfl (lv_at hl 0 rfl) ?_
    refine lv_bipush (v := 10) C.1 C.2.1 dX3_goesOn_36 (by decide) ?_
    refine lv_icmp_ge (tgt := 50) C.1 C.2.1 dX3_goesOn_38 (by decide) (fun c4 => ?_) (fun c4 => ?_)
    · have hf := q_if_t hf c4
      refine lv_aload_n C.1 C.2.1 dX3_goesOn_50 rfl (lv_at hl 3 rfl) ?_
      refine lv_iload_n C.1 C.2.1 dX3_goesOn_51 rfl (lv_at hl 2 rfl) ?_
      refine lv_iload_n C.1 C.2.1 dX3_goesOn_52 rfl (lv_at hl 1 rfl) ?_
      obtain ⟨s5, a6, g7, h8, hf⟩ := q_cv_some hf
      refine q_callVv (As := [.int ((s 17) - 1), .int (a 18 (((s 17) - 1).toNatClampNeg))]) (rest := []) C hml (c_X3_others h8) (cwV 2 C.2.2.2.1 gX3_goesOn_X3_others rfl rfl rfl e_X3_others ⟨Nat.le_of_ble_eq_true rfl, Nat.le_of_ble_eq_true rfl⟩) I hA (q0 := 0) (ci := 3) rfl rfl rfl rfl hl.1 rfl (Nat.le_of_ble_eq_true rfl) dX3_goesOn_53 ⟨Nat.zero_le _, Nat.zero_le _⟩ (fun H locs I => ?_)
      obtain ⟨rfl, rfl, rfl⟩ := q_some3 hf
      exact q_vret C hr hlocks I dX3_goesOn_56
    · have hf := q_if_f hf c4
      refine lv_aload_n C.1 C.2.1 dX3_goesOn_41 rfl (lv_at hl 3 rfl) ?_
      refine lv_iload_n C.1 C.2.1 dX3_goesOn_42 rfl (lv_at hl 2 rfl) ?_
      refine lv_iload_n C.1 C.2.1 dX3_goesOn_43 rfl (lv_at hl 1 rfl) ?_
      obtain ⟨s10, a11, g12, h13, hf⟩ := q_cv_some hf
      refine q_callVv (As := [.int ((s 17) - 1), .int (a 18 (((s 17) - 1).toNatClampNeg))]) (rest := []) C hml (c_X3_joins h13) (cwV 2 C.2.2.2.1 gX3_goesOn_X3_joins rfl rfl rfl e_X3_joins ⟨Nat.le_of_ble_eq_true rfl, Nat.le_of_ble_eq_true rfl⟩) I hA (q0 := 0) (ci := 3) rfl rfl rfl rfl hl.1 rfl (Nat.le_of_ble_eq_true rfl) dX3_goesOn_44 ⟨Nat.zero_le _, Nat.zero_le _⟩ (fun H locs I => ?_)
      refine lv_goto (tgt := 56) C.1 C.2.1 dX3_goesOn_47 (by decide) ?_
      obtain ⟨rfl, rfl, rfl⟩ := q_some3 hf
      exact q_vret C hr hlocks I dX3_goesOn_56
  · have hf := q_if_f hf c3
    refine lv_aload_n C.1 C.2.1 dX3_goesOn_26 rfl (lv_at hl 3 rfl) ?_
    refine lv_iload_n C.1 C.2.1 dX3_goesOn_27 rfl (lv_at hl 2 rfl) ?_
    refine lv_iload_n C.1 C.2.1 dX3_goesOn_28 rfl (lv_at hl 1 rfl) ?_
    obtain ⟨s15, a16, g17, h18, hf⟩ := q_cv_some hf
    refine q_callVv (As := [.int ((s 17) - 1), .int (a 18 (((s 17) - 1).toNatClampNeg))]) (rest := []) C hml (c_X3_sign h18) (cwV 2 C.2.2.2.1 gX3_goesOn_X3_sign rfl rfl rfl e_X3_sign ⟨Nat.le_of_ble_eq_true rfl, Nat.le_of_ble_eq_true rfl⟩) I hA (q0 := 0) (ci := 3) rfl rfl rfl rfl hl.1 rfl (Nat.le_of_ble_eq_true rfl) dX3_goesOn_29 ⟨Nat.zero_le _, Nat.zero_le _⟩ (fun H locs I => ?_)
    refine lv_goto (tgt := 56) C.1 C.2.1 dX3_goesOn_32 (by decide) ?_
    obtain ⟨rfl, rfl, rfl⟩ := q_some3 hf
    exact q_vret C hr hlocks I dX3_goesOn_56
def f_X3_ready (s : q_s) (a : q_a) (g : q_g) : Option q_S :=
 q_bd (q_us s 11 0) fun s1 =>
 q_bd (q_us s1 12 0) fun s3 =>
 q_bd (q_us s3 13 0) fun s5 =>
 q_bd (q_us s5 30 0) fun s7 =>
 q_bd (q_us s7 31 0) fun s9 =>
 q_bd (q_us s9 17 0) fun s11 =>
 q_bd (q_us s11 33 0) fun s13 =>
 some (s13, a, g)
theorem e_X3_ready : yX3_ready.cls = RX3 ∧ yX3_ready.cls ≠ "java/lang/invoke/MethodHandle" ∧ yX3_ready.cls ≠ "java/lang/invoke/VarHandle" ∧ (parseMethodDescriptor yX3_ready.desc).map (fun d => d.parameters.length) = some 0 := by decide +kernel
set_option maxHeartbeats 4000000 in
set_option maxRecDepth 100000 in
theorem c_X3_ready {l : Launch} {D : va_G} {h : Nat} {ad : Nat → Nat} {ca : Nat → ClassId} {s s9 : q_s} {a a9 : q_a} {g g9 : q_g} (hf : f_X3_ready s a g = some (s9, a9, g9)) : q_Mv l yX3_ready wsX3_ready ({ frames := 0, cells := 0, slots := 0, locals := 0 }) D (q_tM ca) (q_wM h ad ca) [.ref h] s a g s9 a9 g9 := by
  unfold f_X3_ready at hf
  refine q_entV (cc := cX3_ready) (maxL := 1) (ret := none) (by decide) rfl (Nat.le_of_ble_eq_true rfl) ?_
  intro p e st m args below meth c A ls C hr hlocks hml hA I hl
  have hl : lv_has ls 1 [(0, .ref h)] := hl
  have hinX3 : ∀ w ∈ wsX30, w ∈ wsX3_ready := fun _ h => List.mem_cons_of_mem _ (List.mem_append_right _ h)
  have k111 : Cond.fieldLink RX3 111 "ReaderYardModel" "chain" "I" ∈ wsX3_ready := by decide +kernel
  have k108 : Cond.fieldLink RX3 108 "ReaderYardModel" "onTop" "I" ∈ wsX3_ready := by decide +kernel
  have k114 : Cond.fieldLink RX3 114 "ReaderYardModel" "marks" "I" ∈ wsX3_ready := by decide +kernel
  have k99 : Cond.fieldLink RX3 99 "ReaderYardModel" "fault" "I" ∈ wsX3_ready := by decide +kernel
  have k102 : Cond.fieldLink RX3 102 "ReaderYardModel" "steps" "I" ∈ wsX3_ready := by decide +kernel
  have k96 : Cond.fieldLink RX3 96 "ReaderYardModel" "deep" "I" ∈ wsX3_ready := by decide +kernel
  have k117 : Cond.fieldLink RX3 117 "ReaderYardModel" "deepest" "I" ∈ wsX3_ready := by decide +kernel
  refine lv_aload_n C.1 C.2.1 dX3_ready_0 rfl (lv_at hl 0 rfl) ?_
  refine lv_iconst (v := 0) C.1 C.2.1 dX3_ready_1 (by decide) ?_
  obtain ⟨s1, e2, hf⟩ := q_bd_some hf
  refine q_put_RX3_111 C hinX3 k111 e2 I dX3_ready_2 (fun H locs I => ?_)
  refine lv_aload_n C.1 C.2.1 dX3_ready_5 rfl (lv_at hl 0 rfl) ?_
  refine lv_iconst (v := 0) C.1 C.2.1 dX3_ready_6 (by decide) ?_
  obtain ⟨s3, e4, hf⟩ := q_bd_some hf
  refine q_put_RX3_108 C hinX3 k108 e4 I dX3_ready_7 (fun H locs I => ?_)
  refine lv_aload_n C.1 C.2.1 dX3_ready_10 rfl (lv_at hl 0 rfl) ?_
  refine lv_iconst (v := 0) C.1 C.2.1 dX3_ready_11 (by decide) ?_
  obtain ⟨s5, e6, hf⟩ := q_bd_some hf
  refine q_put_RX3_114 C hinX3 k114 e6 I dX3_ready_12 (fun H locs I => ?_)
  refine lv_aload_n C.1 C.2.1 dX3_ready_15 rfl (lv_at hl 0 rfl) ?_
  refine lv_iconst (v := 0) C.1 C.2.1 dX3_ready_16 (by decide) ?_
  obtain ⟨s7, e8, hf⟩ := q_bd_some hf
  refine q_put_RX3_99 C hinX3 k99 e8 I dX3_ready_17 (fun H locs I => ?_)
  refine lv_aload_n C.1 C.2.1 dX3_ready_20 rfl (lv_at hl 0 rfl) ?_
  refine lv_iconst (v := 0) C.1 C.2.1 dX3_ready_21 (by decide) ?_
  obtain ⟨s9, e10, hf⟩ := q_bd_some hf
  refine q_put_RX3_102 C hinX3 k102 e10 I dX3_ready_22 (fun H locs I => ?_)
  refine lv_aload_n C.1 C.2.1 dX3_ready_25 rfl (lv_at hl 0 rfl) ?_
  refine lv_iconst (v := 0) C.1 C.2.1 dX3_ready_26 (by decide) ?_
  obtain ⟨s11, e12, hf⟩ := q_bd_some hf
  refine q_put_RX3_96 C hinX3 k96 e12 I dX3_ready_27 (fun H locs I => ?_)
  refine lv_aload_n C.1 C.2.1 dX3_ready_30 rfl (lv_at hl 0 rfl) ?_
  refine lv_iconst (v := 0) C.1 C.2.1 dX3_ready_31 (by decide) ?_
  obtain ⟨s13, e14, hf⟩ := q_bd_some hf
  refine q_put_RX3_117 C hinX3 k117 e14 I dX3_ready_32 (fun H locs I => ?_)
  obtain ⟨rfl, rfl, rfl⟩ := q_some3 hf
  exact q_vret C hr hlocks I dX3_ready_35
def f_X3_reads_lb (n : Nat) (F : q_s → q_a → q_g → Option q_S) (s : q_s) (a : q_a) (g : q_g) : Option q_S :=
 if s 17 ≤ 0 then
  some (s, a, g)
 else
  if s 30 = 0 then
   q_cv (f_X3_goesOn n s a g) fun s3 a4 g5 =>
    F s3 a4 g5 
  else
   some (s, a, g)
def f_X3_reads_lp (n : Nat) (k : Nat) : q_s → q_a → q_g → Option q_S := match k with
  | 0 => fun _ _ _ => none
  | k + 1 => fun s a g => f_X3_reads_lb n (f_X3_reads_lp n k) s a g
def f_X3_reads (n : Nat) (s : q_s) (a : q_a) (g : q_g) (p1 : Int32) (p2 : Int32) : Option q_S :=
 q_bd (q_us s 17 0) fun s8 =>
 q_cv (f_X3_begin s8 a g p1 p2) fun s10 a11 g12 =>
 f_X3_reads_lp n n s10 a11 g12 
theorem e_X3_reads : yX3_reads.cls = RX3 ∧ yX3_reads.cls ≠ "java/lang/invoke/MethodHandle" ∧ yX3_reads.cls ≠ "java/lang/invoke/VarHandle" ∧ (parseMethodDescriptor yX3_reads.desc).map (fun d => d.parameters.length) = some 2 := by decide +kernel
set_option maxHeartbeats 4000000 in
set_option maxRecDepth 100000 in
theorem c_X3_reads {l : Launch} {D : va_G} {h : Nat} {ad : Nat → Nat} {ca : Nat → ClassId} {n : Nat} {s s9 : q_s} {a a9 : q_a} {g g9 : q_g} {p1 : Int32} {p2 : Int32} (hf : f_X3_reads n s a g p1 p2 = some (s9, a9, g9)) : q_Mv l yX3_reads wsX3_reads ({ frames := 5, cells := 0, slots := 0, locals := 114 }) D (q_tM ca) (q_wM h ad ca) [.ref h, .int p1, .int p2] s a g s9 a9 g9 := by
  unfold f_X3_reads at hf
  refine q_entV (cc := cX3_reads) (maxL := 3) (ret := none) (by decide) rfl (Nat.le_of_ble_eq_true rfl) ?_
  intro p e st m args below meth c A ls C hr hlocks hml hA I hl
  have hl : lv_has ls 3 [(0, .ref h), (1, .int p1), (2, .int p2)] := hl
  have hinX3 : ∀ w ∈ wsX30, w ∈ wsX3_reads := fun _ h => List.mem_cons_of_mem _ (List.mem_append_right _ h)
  have k96 : Cond.fieldLink RX3 96 "ReaderYardModel" "deep" "I" ∈ wsX3_reads := by decide +kernel
  have k99 : Cond.fieldLink RX3 99 "ReaderYardModel" "fault" "I" ∈ wsX3_reads := by decide +kernel
  have lp : ∀ (k : Nat) (s : q_s) (a : q_a) (g : q_g) (H : Heap) (locs : List Loc) (ls : Array Slot), f_X3_reads_lp n k s a g = some (s9, a9, g9) → q_I D A st.heap H locs (q_wM h ad ca s a g) → lv_has ls 3 [(0, .ref h)] → W p l e ({ frames := 5, cells := 0, slots := 0, locals := 114 }) st m args below meth c H locs 0 0 (MQ below (va_Qv (fun u : q_S => u = (s9, a9, g9)) (q_B D (q_tM ca) (q_wM h ad ca) A) A) args st 0 0 A) (F0 m 11 ls []) := by
    intro k
    induction k with
    | zero => intro s a g H locs ls hf; exact absurd hf (by simp [f_X3_reads_lp])
    | succ k ih =>
      intro s a g H locs ls hf I hl
      have hf : f_X3_reads_lb n (f_X3_reads_lp n k) s a g = some (s9, a9, g9) := hf
      unfold f_X3_reads_lb at hf
      refine lv_aload_n C.1 C.2.1 dX3_reads_11 rfl (lv_at hl 0 rfl) ?_
      refine q_get_RX3_96 C hinX3 k96 I dX3_reads_12 ?_
      refine lv_if_le (tgt := 32) C.1 C.2.1 dX3_reads_15 (by decide) (fun c1 => ?_) (fun c1 => ?_)
      · have hf := q_if_t hf c1
        obtain ⟨rfl, rfl, rfl⟩ := q_some3 hf
        exact q_vret C hr hlocks I dX3_reads_32
      · have hf := q_if_f hf c1
        refine lv_aload_n C.1 C.2.1 dX3_reads_18 rfl (lv_at hl 0 rfl) ?_
        refine q_get_RX3_99 C hinX3 k99 I dX3_reads_19 ?_
        refine lv_if_ne (tgt := 32) C.1 C.2.1 dX3_reads_22 (by decide) (fun c2 => ?_) (fun c2 => ?_)
        · have hf := q_if_f hf c2
          obtain ⟨rfl, rfl, rfl⟩ := q_some3 hf
          exact q_vret C hr hlocks I dX3_reads_32
        · have hf := q_if_t hf c2
          refine lv_aload_n C.1 C.2.1 dX3_reads_25 rfl (lv_at hl 0 rfl) ?_
          obtain ⟨s3, a4, g5, h6, hf⟩ := q_cv_some hf
          refine q_callVv (As := []) (rest := []) C hml (c_X3_goesOn h6) (cwV 0 C.2.2.2.1 gX3_reads_X3_goesOn rfl rfl rfl e_X3_goesOn ⟨Nat.le_of_ble_eq_true rfl, Nat.le_of_ble_eq_true rfl⟩) I hA (q0 := 0) (ci := 3) rfl rfl rfl rfl hl.1 rfl (Nat.le_of_ble_eq_true rfl) dX3_reads_26 ⟨Nat.zero_le _, Nat.zero_le _⟩ (fun H locs I => ?_)
          refine lv_goto (tgt := 11) C.1 C.2.1 dX3_reads_29 (by decide) ?_
          exact ih _ _ _ _ _ _ hf I (lv_sub hl [0] rfl)
  refine lv_aload_n C.1 C.2.1 dX3_reads_0 rfl (lv_at hl 0 rfl) ?_
  refine lv_iconst (v := 0) C.1 C.2.1 dX3_reads_1 (by decide) ?_
  obtain ⟨s8, e9, hf⟩ := q_bd_some hf
  refine q_put_RX3_96 C hinX3 k96 e9 I dX3_reads_2 (fun H locs I => ?_)
  refine lv_aload_n C.1 C.2.1 dX3_reads_5 rfl (lv_at hl 0 rfl) ?_
  refine lv_iload_n C.1 C.2.1 dX3_reads_6 rfl (lv_at hl 1 rfl) ?_
  refine lv_iload_n C.1 C.2.1 dX3_reads_7 rfl (lv_at hl 2 rfl) ?_
  obtain ⟨s10, a11, g12, h13, hf⟩ := q_cv_some hf
  refine q_callVv (As := [.int p1, .int p2]) (rest := []) C hml (c_X3_begin h13) (cwV 2 C.2.2.2.1 gX3_reads_X3_begin rfl rfl rfl e_X3_begin ⟨Nat.le_of_ble_eq_true rfl, Nat.le_of_ble_eq_true rfl⟩) I hA (q0 := 0) (ci := 3) rfl rfl rfl rfl hl.1 rfl (Nat.le_of_ble_eq_true rfl) dX3_reads_8 ⟨Nat.zero_le _, Nat.zero_le _⟩ (fun H locs I => ?_)
  exact lp n _ _ _ _ _ _ hf I (lv_sub hl [0] rfl)
def f_X3_faulty (s : q_s) (a : q_a) (g : q_g) : Option (Int32 × q_S) :=
 q_bd (q_us s 34 ((s 34) + 1)) fun s1 =>
 q_bd (q_us s1 35 (s1 30)) fun s3 =>
 some ((-10) - (s3 30), s3, a, g)
theorem e_X3_faulty : yX3_faulty.cls = RX3 ∧ yX3_faulty.cls ≠ "java/lang/invoke/MethodHandle" ∧ yX3_faulty.cls ≠ "java/lang/invoke/VarHandle" ∧ (parseMethodDescriptor yX3_faulty.desc).map (fun d => d.parameters.length) = some 0 := by decide +kernel
set_option maxHeartbeats 4000000 in
set_option maxRecDepth 100000 in
theorem c_X3_faulty {l : Launch} {D : va_G} {h : Nat} {ad : Nat → Nat} {ca : Nat → ClassId} {s s9 : q_s} {a a9 : q_a} {g g9 : q_g} {r9 : Int32} (hf : f_X3_faulty s a g = some (r9, s9, a9, g9)) : q_Mi l yX3_faulty wsX3_faulty ({ frames := 0, cells := 0, slots := 0, locals := 0 }) D (q_tM ca) (q_wM h ad ca) [.ref h] s a g r9 s9 a9 g9 := by
  unfold f_X3_faulty at hf
  refine q_entI (cc := cX3_faulty) (maxL := 1) (ret := (some .int)) (by decide) rfl (Nat.le_of_ble_eq_true rfl) ?_
  intro p e st m args below meth c A ls C hr hlocks hml hA I hl
  have hl : lv_has ls 1 [(0, .ref h)] := hl
  have hinX3 : ∀ w ∈ wsX30, w ∈ wsX3_faulty := fun _ h => List.mem_cons_of_mem _ (List.mem_append_right _ h)
  have k177 : Cond.fieldLink RX3 177 "ReaderYardModel" "faults" "I" ∈ wsX3_faulty := by decide +kernel
  have k99 : Cond.fieldLink RX3 99 "ReaderYardModel" "fault" "I" ∈ wsX3_faulty := by decide +kernel
  have k180 : Cond.fieldLink RX3 180 "ReaderYardModel" "lastFault" "I" ∈ wsX3_faulty := by decide +kernel
  refine lv_aload_n C.1 C.2.1 dX3_faulty_0 rfl (lv_at hl 0 rfl) ?_
  refine lv_dup C.1 C.2.1 dX3_faulty_1 rfl ?_
  refine q_get_RX3_177 C hinX3 k177 I dX3_faulty_2 ?_
  refine lv_iconst (v := 1) C.1 C.2.1 dX3_faulty_5 (by decide) ?_
  refine lv_iadd C.1 C.2.1 dX3_faulty_6 ?_
  obtain ⟨s1, e2, hf⟩ := q_bd_some hf
  refine q_put_RX3_177 C hinX3 k177 e2 I dX3_faulty_7 (fun H locs I => ?_)
  refine lv_aload_n C.1 C.2.1 dX3_faulty_10 rfl (lv_at hl 0 rfl) ?_
  refine lv_aload_n C.1 C.2.1 dX3_faulty_11 rfl (lv_at hl 0 rfl) ?_
  refine q_get_RX3_99 C hinX3 k99 I dX3_faulty_12 ?_
  obtain ⟨s3, e4, hf⟩ := q_bd_some hf
  refine q_put_RX3_180 C hinX3 k180 e4 I dX3_faulty_15 (fun H locs I => ?_)
  refine lv_bipush (v := (-10)) C.1 C.2.1 dX3_faulty_18 (by decide) ?_
  refine lv_aload_n C.1 C.2.1 dX3_faulty_20 rfl (lv_at hl 0 rfl) ?_
  refine q_get_RX3_99 C hinX3 k99 I dX3_faulty_21 ?_
  refine lv_isub C.1 C.2.1 dX3_faulty_24 ?_
  obtain ⟨rfl, rfl, rfl, rfl⟩ := q_some4 hf
  exact q_iret C hr hlocks I dX3_faulty_25
def f_X3_read (n : Nat) (s : q_s) (a : q_a) (g : q_g) (p1 : Int32) (p2 : Int32) : Option (Int32 × q_S) :=
 q_ci (f_X3_isReader s a g p1) fun r5 s1 a2 g3 =>
 if r5 = 0 then
  some ((-2), s1, a2, g3)
 else
  q_ci (f_X3_in s1 a2 g3 p2 0 (s1 1)) fun r11 s7 a8 g9 =>
  if r11 = 0 then
   some ((-2), s7, a8, g9)
  else
   q_cv (f_X3_ready s7 a8 g9) fun s13 a14 g15 =>
   q_cv (f_X3_reads n s13 a14 g15 p1 p2) fun s18 a19 g20 =>
   if s18 30 ≤ 0 then
    some (s18 29, s18, a19, g20)
   else
    q_ci (f_X3_faulty s18 a19 g20) fun r28 s24 a25 g26 =>
    some (r28, s24, a25, g26)
theorem e_X3_read : yX3_read.cls = RX3 ∧ yX3_read.cls ≠ "java/lang/invoke/MethodHandle" ∧ yX3_read.cls ≠ "java/lang/invoke/VarHandle" ∧ (parseMethodDescriptor yX3_read.desc).map (fun d => d.parameters.length) = some 2 := by decide +kernel
set_option maxHeartbeats 4000000 in
set_option maxRecDepth 100000 in
theorem c_X3_read {l : Launch} {D : va_G} {h : Nat} {ad : Nat → Nat} {ca : Nat → ClassId} {n : Nat} {s s9 : q_s} {a a9 : q_a} {g g9 : q_g} {p1 : Int32} {p2 : Int32} {r9 : Int32} (hf : f_X3_read n s a g p1 p2 = some (r9, s9, a9, g9)) : q_Mi l yX3_read wsX3_read ({ frames := 6, cells := 0, slots := 0, locals := 136 }) D (q_tM ca) (q_wM h ad ca) [.ref h, .int p1, .int p2] s a g r9 s9 a9 g9 := by
  unfold f_X3_read at hf
  refine q_entI (cc := cX3_read) (maxL := 3) (ret := (some .int)) (by decide) rfl (Nat.le_of_ble_eq_true rfl) ?_
  intro p e st m args below meth c A ls C hr hlocks hml hA I hl
  have hl : lv_has ls 3 [(0, .ref h), (1, .int p1), (2, .int p2)] := hl
  have hinX3 : ∀ w ∈ wsX30, w ∈ wsX3_read := fun _ h => List.mem_cons_of_mem _ (List.mem_append_right _ h)
  have k89 : Cond.fieldLink RX3 89 "ReaderYardModel" "length" "I" ∈ wsX3_read := by decide +kernel
  have k99 : Cond.fieldLink RX3 99 "ReaderYardModel" "fault" "I" ∈ wsX3_read := by decide +kernel
  have k128 : Cond.fieldLink RX3 128 "ReaderYardModel" "result" "I" ∈ wsX3_read := by decide +kernel
  refine lv_aload_n C.1 C.2.1 dX3_read_0 rfl (lv_at hl 0 rfl) ?_
  refine lv_iload_n C.1 C.2.1 dX3_read_1 rfl (lv_at hl 1 rfl) ?_
  obtain ⟨r5, s1, a2, g3, h4, hf⟩ := q_ci_some hf
  refine q_callVi (As := [.int p1]) (rest := []) C hml (c_X3_isReader h4) (cwV 1 C.2.2.2.1 gX3_read_X3_isReader rfl rfl rfl e_X3_isReader ⟨Nat.le_of_ble_eq_true rfl, Nat.le_of_ble_eq_true rfl⟩) I hA (q0 := 0) (ci := 3) rfl rfl rfl rfl hl.1 rfl (Nat.le_of_ble_eq_true rfl) dX3_read_2 ⟨Nat.zero_le _, Nat.zero_le _⟩ (fun H locs I => ?_)
  refine lv_if_eq (tgt := 20) C.1 C.2.1 dX3_read_5 (by decide) (fun c6 => ?_) (fun c6 => ?_)
  · have hf := q_if_t hf c6
    refine lv_bipush (v := (-2)) C.1 C.2.1 dX3_read_20 (by decide) ?_
    obtain ⟨rfl, rfl, rfl, rfl⟩ := q_some4 hf
    exact q_iret C hr hlocks I dX3_read_22
  · have hf := q_if_f hf c6
    refine lv_iload_n C.1 C.2.1 dX3_read_8 rfl (lv_at hl 2 rfl) ?_
    refine lv_iconst (v := 0) C.1 C.2.1 dX3_read_9 (by decide) ?_
    refine lv_aload_n C.1 C.2.1 dX3_read_10 rfl (lv_at hl 0 rfl) ?_
    refine q_get_RX3_89 C hinX3 k89 I dX3_read_11 ?_
    obtain ⟨r11, s7, a8, g9, h10, hf⟩ := q_ci_some hf
    refine q_callSi (As := [.int p2, .int 0, .int (s1 1)]) (rest := []) C hml (c_X3_in h10) (va_cwS 3 C.2.2.2.1 gX3_read_X3_in rfl rfl rfl e_X3_in ⟨Nat.le_of_ble_eq_true rfl, Nat.le_of_ble_eq_true rfl⟩) I hA rfl hl.1 rfl (Nat.le_of_ble_eq_true rfl) dX3_read_14 ⟨Nat.zero_le _, Nat.zero_le _⟩ (fun H locs I => ?_)
    refine lv_if_ne (tgt := 23) C.1 C.2.1 dX3_read_17 (by decide) (fun c12 => ?_) (fun c12 => ?_)
    · have hf := q_if_f hf c12
      refine lv_aload_n C.1 C.2.1 dX3_read_23 rfl (lv_at hl 0 rfl) ?_
      obtain ⟨s13, a14, g15, h16, hf⟩ := q_cv_some hf
      refine q_callVv (As := []) (rest := []) C hml (c_X3_ready h16) (cwV 0 C.2.2.2.1 gX3_read_X3_ready rfl rfl rfl e_X3_ready ⟨Nat.le_of_ble_eq_true rfl, Nat.le_of_ble_eq_true rfl⟩) I hA (q0 := 0) (ci := 3) rfl rfl rfl rfl hl.1 rfl (Nat.le_of_ble_eq_true rfl) dX3_read_24 ⟨Nat.zero_le _, Nat.zero_le _⟩ (fun H locs I => ?_)
      refine lv_aload_n C.1 C.2.1 dX3_read_27 rfl (lv_at hl 0 rfl) ?_
      refine lv_iload_n C.1 C.2.1 dX3_read_28 rfl (lv_at hl 1 rfl) ?_
      refine lv_iload_n C.1 C.2.1 dX3_read_29 rfl (lv_at hl 2 rfl) ?_
      obtain ⟨s18, a19, g20, h21, hf⟩ := q_cv_some hf
      refine q_callVv (As := [.int p1, .int p2]) (rest := []) C hml (c_X3_reads h21) (cwV 2 C.2.2.2.1 gX3_read_X3_reads rfl rfl rfl e_X3_reads ⟨Nat.le_of_ble_eq_true rfl, Nat.le_of_ble_eq_true rfl⟩) I hA (q0 := 0) (ci := 3) rfl rfl rfl rfl hl.1 rfl (Nat.le_of_ble_eq_true rfl) dX3_read_30 ⟨Nat.zero_le _, Nat.zero_le _⟩ (fun H locs I => ?_)
      refine lv_aload_n C.1 C.2.1 dX3_read_33 rfl (lv_at hl 0 rfl) ?_
      refine q_get_RX3_99 C hinX3 k99 I dX3_read_34 ?_
      refine lv_if_le (tgt := 47) C.1 C.2.1 dX3_read_37 (by decide) (fun c23 => ?_) (fun c23 => ?_)
      · have hf := q_if_t hf c23
        refine lv_aload_n C.1 C.2.1 dX3_read_47 rfl (lv_at hl 0 rfl) ?_
        refine q_get_RX3_128 C hinX3 k128 I dX3_read_48 ?_
        obtain ⟨rfl, rfl, rfl, rfl⟩ := q_some4 hf
        exact q_iret C hr hlocks I dX3_read_51
      · have hf := q_if_f hf c23
        refine lv_aload_n C.1 C.2.1 dX3_read_40 rfl (lv_at hl 0 rfl) ?_
        obtain ⟨r28, s24, a25, g26, h27, hf⟩ := q_ci_some hf
        refine q_callVi (As := []) (rest := []) C hml (c_X3_faulty h27) (cwV 0 C.2.2.2.1 gX3_read_X3_faulty rfl rfl rfl e_X3_faulty ⟨Nat.le_of_ble_eq_true rfl, Nat.le_of_ble_eq_true rfl⟩) I hA (q0 := 0) (ci := 3) rfl rfl rfl rfl hl.1 rfl (Nat.le_of_ble_eq_true rfl) dX3_read_41 ⟨Nat.zero_le _, Nat.zero_le _⟩ (fun H locs I => ?_)
        refine lv_goto (tgt := 51) C.1 C.2.1 dX3_read_44 (by decide) ?_
        obtain ⟨rfl, rfl, rfl, rfl⟩ := q_some4 hf
        exact q_iret C hr hlocks I dX3_read_51
    · have hf := q_if_t hf c12
      refine lv_bipush (v := (-2)) C.1 C.2.1 dX3_read_20 (by decide) ?_
      obtain ⟨rfl, rfl, rfl, rfl⟩ := q_some4 hf
      exact q_iret C hr hlocks I dX3_read_22
def f_X3_all_lb (n : Nat) (F : q_s → q_a → q_g → Int32 → Int32 → Int32 → Int32 → Option (Int32 × q_S)) (s : q_s) (a : q_a) (g : q_g) (x1 : Int32) (x2 : Int32) (x3 : Int32) (x4 : Int32) : Option (Int32 × q_S) :=
 if x4 = 0 then
  some (x3, s, a, g)
 else
  q_cv (f_X3_reads n s a g x1 x2) fun s2 a3 g4 =>
  if s2 30 ≤ 0 then
   if s2 29 ≤ x2 then
    q_bd (q_us s2 12 (s 12)) fun s10 =>
    q_bd (q_us s10 11 (s 11)) fun s12 =>
    q_bd (q_us s12 13 (s 13)) fun s14 =>
     F s14 a3 g4 x1 x2 x3 0
   else
     F s2 a3 g4 x1 (s2 29) (x3 + 1) 1
  else
   q_ci (f_X3_faulty s2 a3 g4) fun r21 s17 a18 g19 =>
   some (r21, s17, a18, g19)
def f_X3_all_lp (n : Nat) (k : Nat) : q_s → q_a → q_g → Int32 → Int32 → Int32 → Int32 → Option (Int32 × q_S) := match k with
  | 0 => fun _ _ _ _ _ _ _ => none
  | k + 1 => fun s a g x1 x2 x3 x4 => f_X3_all_lb n (f_X3_all_lp n k) s a g x1 x2 x3 x4
def f_X3_all (n : Nat) (s : q_s) (a : q_a) (g : q_g) (p1 : Int32) : Option (Int32 × q_S) :=
 q_ci (f_X3_isReader s a g p1) fun r26 s22 a23 g24 =>
 if r26 = 0 then
  some ((-2), s22, a23, g24)
 else
  q_cv (f_X3_ready s22 a23 g24) fun s28 a29 g30 =>
  f_X3_all_lp n n s28 a29 g30 p1 0 0 1
theorem e_X3_all : yX3_all.cls = RX3 ∧ yX3_all.cls ≠ "java/lang/invoke/MethodHandle" ∧ yX3_all.cls ≠ "java/lang/invoke/VarHandle" ∧ (parseMethodDescriptor yX3_all.desc).map (fun d => d.parameters.length) = some 1 := by decide +kernel
set_option maxHeartbeats 4000000 in
set_option maxRecDepth 100000 in
theorem c_X3_all {l : Launch} {D : va_G} {h : Nat} {ad : Nat → Nat} {ca : Nat → ClassId} {n : Nat} {s s9 : q_s} {a a9 : q_a} {g g9 : q_g} {p1 : Int32} {r9 : Int32} (hf : f_X3_all n s a g p1 = some (r9, s9, a9, g9)) : q_Mi l yX3_all wsX3_all ({ frames := 6, cells := 0, slots := 0, locals := 136 }) D (q_tM ca) (q_wM h ad ca) [.ref h, .int p1] s a g r9 s9 a9 g9 := by
  unfold f_X3_all at hf
  refine q_entI (cc := cX3_all) (maxL := 8) (ret := (some .int)) (by decide) rfl (Nat.le_of_ble_eq_true rfl) ?_
  intro p e st m args below meth c A ls C hr hlocks hml hA I hl
  have hl : lv_has ls 8 [(0, .ref h), (1, .int p1)] := hl
  have hinX3 : ∀ w ∈ wsX30, w ∈ wsX3_all := fun _ h => List.mem_cons_of_mem _ (List.mem_append_right _ h)
  have k108 : Cond.fieldLink RX3 108 "ReaderYardModel" "onTop" "I" ∈ wsX3_all := by decide +kernel
  have k111 : Cond.fieldLink RX3 111 "ReaderYardModel" "chain" "I" ∈ wsX3_all := by decide +kernel
  have k114 : Cond.fieldLink RX3 114 "ReaderYardModel" "marks" "I" ∈ wsX3_all := by decide +kernel
  have k99 : Cond.fieldLink RX3 99 "ReaderYardModel" "fault" "I" ∈ wsX3_all := by decide +kernel
  have k128 : Cond.fieldLink RX3 128 "ReaderYardModel" "result" "I" ∈ wsX3_all := by decide +kernel
  have lp : ∀ (k : Nat) (s : q_s) (a : q_a) (g : q_g) (x1 : Int32) (x2 : Int32) (x3 : Int32) (x4 : Int32) (H : Heap) (locs : List Loc) (ls : Array Slot), f_X3_all_lp n k s a g x1 x2 x3 x4 = some (r9, s9, a9, g9) → q_I D A st.heap H locs (q_wM h ad ca s a g) → lv_has ls 8 [(0, .ref h), (1, .int x1), (2, .int x2), (3, .int x3), (4, .int x4)] → W p l e ({ frames := 6, cells := 0, slots := 0, locals := 136 }) st m args below meth c H locs 0 0 (MQ below (va_Qi (fun (r2 : Int32) (u : q_S) => r2 = r9 ∧ u = (s9, a9, g9)) (q_B D (q_tM ca) (q_wM h ad ca) A) A) args st 0 0 A) (F0 m 22 ls []) := by
    intro k
    induction k with
    | zero => intro s a g x1 x2 x3 x4 H locs ls hf; exact absurd hf (by simp [f_X3_all_lp])
    | succ k ih =>
      intro s a g x1 x2 x3 x4 H locs ls hf I hl
      have hf : f_X3_all_lb n (f_X3_all_lp n k) s a g x1 x2 x3 x4 = some (r9, s9, a9, g9) := hf
      unfold f_X3_all_lb at hf
      refine lv_iload C.1 C.2.1 dX3_all_22 (lv_at hl 4 rfl) ?_
      refine lv_if_eq (tgt := 115) C.1 C.2.1 dX3_all_24 (by decide) (fun c1 => ?_) (fun c1 => ?_)
      · have hf := q_if_t hf c1
        refine lv_iload_n C.1 C.2.1 dX3_all_115 rfl (lv_at hl 3 rfl) ?_
        obtain ⟨rfl, rfl, rfl, rfl⟩ := q_some4 hf
        exact q_iret C hr hlocks I dX3_all_116
      · have hf := q_if_f hf c1
        refine lv_aload_n C.1 C.2.1 dX3_all_27 rfl (lv_at hl 0 rfl) ?_
        refine q_get_RX3_108 C hinX3 k108 I dX3_all_28 ?_
        refine lv_istore (lv' := [(5, .int (s 12)), (0, .ref h), (1, .int x1), (2, .int x2), (3, .int x3), (4, .int x4)]) C.1 C.2.1 dX3_all_31 hl (by decide) rfl (fun ls hl => ?_)
        refine lv_aload_n C.1 C.2.1 dX3_all_33 rfl (lv_at hl 1 rfl) ?_
        refine q_get_RX3_111 C hinX3 k111 I dX3_all_34 ?_
        refine lv_istore (lv' := [(6, .int (s 11)), (5, .int (s 12)), (0, .ref h), (1, .int x1), (2, .int x2), (3, .int x3), (4, .int x4)]) C.1 C.2.1 dX3_all_37 hl (by decide) rfl (fun ls hl => ?_)
        refine lv_aload_n C.1 C.2.1 dX3_all_39 rfl (lv_at hl 2 rfl) ?_
        refine q_get_RX3_114 C hinX3 k114 I dX3_all_40 ?_
        refine lv_istore (lv' := [(7, .int (s 13)), (6, .int (s 11)), (5, .int (s 12)), (0, .ref h), (1, .int x1), (2, .int x2), (3, .int x3), (4, .int x4)]) C.1 C.2.1 dX3_all_43 hl (by decide) rfl (fun ls hl => ?_)
        refine lv_aload_n C.1 C.2.1 dX3_all_45 rfl (lv_at hl 3 rfl) ?_
        refine lv_iload_n C.1 C.2.1 dX3_all_46 rfl (lv_at hl 4 rfl) ?_
        refine lv_iload_n C.1 C.2.1 dX3_all_47 rfl (lv_at hl 5 rfl) ?_
        obtain ⟨s2, a3, g4, h5, hf⟩ := q_cv_some hf
        refine q_callVv (As := [.int x1, .int x2]) (rest := []) C hml (c_X3_reads h5) (cwV 2 C.2.2.2.1 gX3_all_X3_reads rfl rfl rfl e_X3_reads ⟨Nat.le_of_ble_eq_true rfl, Nat.le_of_ble_eq_true rfl⟩) I hA (q0 := 0) (ci := 3) rfl rfl rfl rfl hl.1 rfl (Nat.le_of_ble_eq_true rfl) dX3_all_48 ⟨Nat.zero_le _, Nat.zero_le _⟩ (fun H locs I => ?_)
        refine lv_aload_n C.1 C.2.1 dX3_all_51 rfl (lv_at hl 3 rfl) ?_
        refine q_get_RX3_99 C hinX3 k99 I dX3_all_52 ?_
        refine lv_if_le (tgt := 63) C.1 C.2.1 dX3_all_55 (by decide) (fun c7 => ?_) (fun c7 => ?_)
        · have hf := q_if_t hf c7
          refine lv_aload_n C.1 C.2.1 dX3_all_63 rfl (lv_at hl 3 rfl) ?_
          refine q_get_RX3_128 C hinX3 k128 I dX3_all_64 ?_
          refine lv_iload_n C.1 C.2.1 dX3_all_67 rfl (lv_at hl 5 rfl) ?_
          refine lv_icmp_le (tgt := 75) C.1 C.2.1 dX3_all_68 (by decide) (fun c8 => ?_) (fun c8 => ?_)
          · have hf := q_if_t hf c8
            refine lv_iconst (v := 0) C.1 C.2.1 dX3_all_75 (by decide) ?_
            refine lv_istore (lv' := [(4, .int 0), (7, .int (s 13)), (6, .int (s 11)), (5, .int (s 12)), (0, .ref h), (1, .int x1), (2, .int x2), (3, .int x3)]) C.1 C.2.1 dX3_all_76 hl (by decide) rfl (fun ls hl => ?_)
            refine lv_iload C.1 C.2.1 dX3_all_78 (lv_at hl 0 rfl) ?_
            refine lv_if_eq (tgt := 94) C.1 C.2.1 dX3_all_80 (by decide) (fun _ => ?_) (fun c9 => absurd c9 (by decide))
            refine lv_aload_n C.1 C.2.1 dX3_all_94 rfl (lv_at hl 4 rfl) ?_
            refine lv_iload C.1 C.2.1 dX3_all_95 (lv_at hl 3 rfl) ?_
            obtain ⟨s10, e11, hf⟩ := q_bd_some hf
            refine q_put_RX3_108 C hinX3 k108 e11 I dX3_all_97 (fun H locs I => ?_)
            refine lv_aload_n C.1 C.2.1 dX3_all_100 rfl (lv_at hl 4 rfl) ?_
            refine lv_iload C.1 C.2.1 dX3_all_101 (lv_at hl 2 rfl) ?_
            obtain ⟨s12, e13, hf⟩ := q_bd_some hf
            refine q_put_RX3_111 C hinX3 k111 e13 I dX3_all_103 (fun H locs I => ?_)
            refine lv_aload_n C.1 C.2.1 dX3_all_106 rfl (lv_at hl 4 rfl) ?_
            refine lv_iload C.1 C.2.1 dX3_all_107 (lv_at hl 1 rfl) ?_
            obtain ⟨s14, e15, hf⟩ := q_bd_some hf
            refine q_put_RX3_114 C hinX3 k114 e15 I dX3_all_109 (fun H locs I => ?_)
            refine lv_goto (tgt := 22) C.1 C.2.1 dX3_all_112 (by decide) ?_
            exact ih _ _ _ _ _ _ _ _ _ _ hf I (lv_sub hl [4, 5, 6, 7, 0] rfl)
          · have hf := q_if_f hf c8
            refine lv_iconst (v := 1) C.1 C.2.1 dX3_all_71 (by decide) ?_
            refine lv_goto (tgt := 76) C.1 C.2.1 dX3_all_72 (by decide) ?_
            refine lv_istore (lv' := [(4, .int 1), (7, .int (s 13)), (6, .int (s 11)), (5, .int (s 12)), (0, .ref h), (1, .int x1), (2, .int x2), (3, .int x3)]) C.1 C.2.1 dX3_all_76 hl (by decide) rfl (fun ls hl => ?_)
            refine lv_iload C.1 C.2.1 dX3_all_78 (lv_at hl 0 rfl) ?_
            refine lv_if_eq (tgt := 94) C.1 C.2.1 dX3_all_80 (by decide) (fun c16 => absurd c16 (by decide)) (fun _ => ?_)
            refine lv_aload_n C.1 C.2.1 dX3_all_83 rfl (lv_at hl 4 rfl) ?_
            refine q_get_RX3_128 C hinX3 k128 I dX3_all_84 ?_
            refine lv_istore_n (lv' := [(2, .int (s2 29)), (4, .int 1), (7, .int (s 13)), (6, .int (s 11)), (5, .int (s 12)), (0, .ref h), (1, .int x1), (3, .int x3)]) C.1 C.2.1 dX3_all_87 rfl hl (by decide) rfl (fun ls hl => ?_)
            refine lv_iinc (v := x3 + 1) (lv' := [(3, .int (x3 + 1)), (2, .int (s2 29)), (4, .int 1), (7, .int (s 13)), (6, .int (s 11)), (5, .int (s 12)), (0, .ref h), (1, .int x1)]) C.1 C.2.1 dX3_all_88 hl (k := 7) rfl rfl (by decide) rfl (fun ls hl => ?_)
            refine lv_goto (tgt := 112) C.1 C.2.1 dX3_all_91 (by decide) ?_
            refine lv_goto (tgt := 22) C.1 C.2.1 dX3_all_112 (by decide) ?_
            exact ih _ _ _ _ _ _ _ _ _ _ hf I (lv_sub hl [6, 7, 1, 0, 2] rfl)
        · have hf := q_if_f hf c7
          refine lv_aload_n C.1 C.2.1 dX3_all_58 rfl (lv_at hl 3 rfl) ?_
          obtain ⟨r21, s17, a18, g19, h20, hf⟩ := q_ci_some hf
          refine q_callVi (As := []) (rest := []) C hml (c_X3_faulty h20) (cwV 0 C.2.2.2.1 gX3_all_X3_faulty rfl rfl rfl e_X3_faulty ⟨Nat.le_of_ble_eq_true rfl, Nat.le_of_ble_eq_true rfl⟩) I hA (q0 := 0) (ci := 3) rfl rfl rfl rfl hl.1 rfl (Nat.le_of_ble_eq_true rfl) dX3_all_59 ⟨Nat.zero_le _, Nat.zero_le _⟩ (fun H locs I => ?_)
          obtain ⟨rfl, rfl, rfl, rfl⟩ := q_some4 hf
          exact q_iret C hr hlocks I dX3_all_62
  refine lv_aload_n C.1 C.2.1 dX3_all_0 rfl (lv_at hl 0 rfl) ?_
  refine lv_iload_n C.1 C.2.1 dX3_all_1 rfl (lv_at hl 1 rfl) ?_
  obtain ⟨r26, s22, a23, g24, h25, hf⟩ := q_ci_some hf
  refine q_callVi (As := [.int p1]) (rest := []) C hml (c_X3_isReader h25) (cwV 1 C.2.2.2.1 gX3_all_X3_isReader rfl rfl rfl e_X3_isReader ⟨Nat.le_of_ble_eq_true rfl, Nat.le_of_ble_eq_true rfl⟩) I hA (q0 := 0) (ci := 3) rfl rfl rfl rfl hl.1 rfl (Nat.le_of_ble_eq_true rfl) dX3_all_2 ⟨Nat.zero_le _, Nat.zero_le _⟩ (fun H locs I => ?_)
  refine lv_if_ne (tgt := 11) C.1 C.2.1 dX3_all_5 (by decide) (fun c27 => ?_) (fun c27 => ?_)
  · have hf := q_if_f hf c27
    refine lv_aload_n C.1 C.2.1 dX3_all_11 rfl (lv_at hl 0 rfl) ?_
    obtain ⟨s28, a29, g30, h31, hf⟩ := q_cv_some hf
    refine q_callVv (As := []) (rest := []) C hml (c_X3_ready h31) (cwV 0 C.2.2.2.1 gX3_all_X3_ready rfl rfl rfl e_X3_ready ⟨Nat.le_of_ble_eq_true rfl, Nat.le_of_ble_eq_true rfl⟩) I hA (q0 := 0) (ci := 3) rfl rfl rfl rfl hl.1 rfl (Nat.le_of_ble_eq_true rfl) dX3_all_12 ⟨Nat.zero_le _, Nat.zero_le _⟩ (fun H locs I => ?_)
    refine lv_iconst (v := 0) C.1 C.2.1 dX3_all_15 (by decide) ?_
    refine lv_istore_n (lv' := [(2, .int 0), (0, .ref h), (1, .int p1)]) C.1 C.2.1 dX3_all_16 rfl hl (by decide) rfl (fun ls hl => ?_)
    refine lv_iconst (v := 0) C.1 C.2.1 dX3_all_17 (by decide) ?_
    refine lv_istore_n (lv' := [(3, .int 0), (2, .int 0), (0, .ref h), (1, .int p1)]) C.1 C.2.1 dX3_all_18 rfl hl (by decide) rfl (fun ls hl => ?_)
    refine lv_iconst (v := 1) C.1 C.2.1 dX3_all_19 (by decide) ?_
    refine lv_istore (lv' := [(4, .int 1), (3, .int 0), (2, .int 0), (0, .ref h), (1, .int p1)]) C.1 C.2.1 dX3_all_20 hl (by decide) rfl (fun ls hl => ?_)
    exact lp n _ _ _ _ _ _ _ _ _ _ hf I (lv_sub hl [3, 4, 2, 1, 0] rfl)
  · have hf := q_if_t hf c27
    refine lv_bipush (v := (-2)) C.1 C.2.1 dX3_all_8 (by decide) ?_
    obtain ⟨rfl, rfl, rfl, rfl⟩ := q_some4 hf
    exact q_iret C hr hlocks I dX3_all_10
def f_X3_pile_lb (F : q_s → q_a → q_g → Int32 → Int32 → Int32 → Option (Int64 × q_S)) (s : q_s) (a : q_a) (g : q_g) (x1 : Int32) (x2 : Int32) (x3 : Int32) : Option (Int64 × q_S) :=
 if x1 ≤ x3 then
  q_ck x2 3001 <|
  some (g x2.toNatClampNeg, s, a, g)
 else
  q_ck x2 3001 <|
   F s a g x1 (a 9 x2.toNatClampNeg) (x3 + 1)
def f_X3_pile_lp (k : Nat) : q_s → q_a → q_g → Int32 → Int32 → Int32 → Option (Int64 × q_S) := match k with
  | 0 => fun _ _ _ _ _ _ => none
  | k + 1 => fun s a g x1 x2 x3 => f_X3_pile_lb (f_X3_pile_lp k) s a g x1 x2 x3
def f_X3_pile (n : Nat) (s : q_s) (a : q_a) (g : q_g) (p1 : Int32) : Option (Int64 × q_S) :=
 q_ci (f_X3_height s a g) fun r8 s4 a5 g6 =>
 q_ci (f_X3_in s4 a5 g6 p1 0 (r8 - 1)) fun r13 s9 a10 g11 =>
 if r13 = 0 then
  some (0, s9, a10, g11)
 else
  f_X3_pile_lp n s9 a10 g11 p1 (s9 12) 0
theorem e_X3_pile : yX3_pile.cls = RX3 ∧ yX3_pile.cls ≠ "java/lang/invoke/MethodHandle" ∧ yX3_pile.cls ≠ "java/lang/invoke/VarHandle" ∧ (parseMethodDescriptor yX3_pile.desc).map (fun d => d.parameters.length) = some 1 := by decide +kernel
set_option maxHeartbeats 4000000 in
set_option maxRecDepth 100000 in
theorem c_X3_pile {l : Launch} {D : va_G} {h : Nat} {ad : Nat → Nat} {ca : Nat → ClassId} {n : Nat} {s s9 : q_s} {a a9 : q_a} {g g9 : q_g} {p1 : Int32} {r9 : Int64} (hf : f_X3_pile n s a g p1 = some (r9, s9, a9, g9)) : q_Ml l yX3_pile wsX3_pile ({ frames := 1, cells := 0, slots := 0, locals := 22 }) D (q_tM ca) (q_wM h ad ca) [.ref h, .int p1] s a g r9 s9 a9 g9 := by
  unfold f_X3_pile at hf
  refine q_entL (cc := cX3_pile) (maxL := 4) (ret := (some .long)) (by decide) rfl (Nat.le_of_ble_eq_true rfl) ?_
  intro p e st m args below meth c A ls C hr hlocks hml hA I hl
  have hl : lv_has ls 4 [(0, .ref h), (1, .int p1)] := hl
  have hinX3 : ∀ w ∈ wsX30, w ∈ wsX3_pile := fun _ h => List.mem_cons_of_mem _ (List.mem_append_right _ h)
  have k28 : Cond.fieldLink RX3 28 "ReaderYardModel" "laid" "[J" ∈ wsX3_pile := by decide +kernel
  have k32 : Cond.fieldLink RX3 32 "ReaderYardModel" "below" "[I" ∈ wsX3_pile := by decide +kernel
  have k108 : Cond.fieldLink RX3 108 "ReaderYardModel" "onTop" "I" ∈ wsX3_pile := by decide +kernel
  have lp : ∀ (k : Nat) (s : q_s) (a : q_a) (g : q_g) (x1 : Int32) (x2 : Int32) (x3 : Int32) (H : Heap) (locs : List Loc) (ls : Array Slot), f_X3_pile_lp k s a g x1 x2 x3 = some (r9, s9, a9, g9) → q_I D A st.heap H locs (q_wM h ad ca s a g) → lv_has ls 4 [(0, .ref h), (1, .int x1), (2, .int x2), (3, .int x3)] → W p l e ({ frames := 1, cells := 0, slots := 0, locals := 22 }) st m args below meth c H locs 0 0 (MQ below (va_Ql (fun (r2 : Int64) (u : q_S) => r2 = r9 ∧ u = (s9, a9, g9)) (q_B D (q_tM ca) (q_wM h ad ca) A) A) args st 0 0 A) (F0 m 23 ls []) := by
    intro k
    induction k with
    | zero => intro s a g x1 x2 x3 H locs ls hf; exact absurd hf (by simp [f_X3_pile_lp])
    | succ k ih =>
      intro s a g x1 x2 x3 H locs ls hf I hl
      have hf : f_X3_pile_lb (f_X3_pile_lp k) s a g x1 x2 x3 = some (r9, s9, a9, g9) := hf
      unfold f_X3_pile_lb at hf
      refine lv_iload_n C.1 C.2.1 dX3_pile_23 rfl (lv_at hl 3 rfl) ?_
      refine lv_iload_n C.1 C.2.1 dX3_pile_24 rfl (lv_at hl 1 rfl) ?_
      refine lv_icmp_ge (tgt := 41) C.1 C.2.1 dX3_pile_25 (by decide) (fun c1 => ?_) (fun c1 => ?_)
      · have hf := q_if_t hf c1
        refine lv_aload_n C.1 C.2.1 dX3_pile_41 rfl (lv_at hl 0 rfl) ?_
        refine q_get_RX3_28 C hinX3 k28 I dX3_pile_42 ?_
        refine lv_iload_n C.1 C.2.1 dX3_pile_45 rfl (lv_at hl 2 rfl) ?_
        obtain ⟨b2, hf⟩ := q_ck_some hf
        refine q_ld_M_laid C b2 I dX3_pile_46 ?_
        obtain ⟨rfl, rfl, rfl, rfl⟩ := q_some4 hf
        exact q_lret C hr hlocks I dX3_pile_47
      · have hf := q_if_f hf c1
        refine lv_aload_n C.1 C.2.1 dX3_pile_28 rfl (lv_at hl 0 rfl) ?_
        refine q_get_RX3_32 C hinX3 k32 I dX3_pile_29 ?_
        refine lv_iload_n C.1 C.2.1 dX3_pile_32 rfl (lv_at hl 2 rfl) ?_
        obtain ⟨b3, hf⟩ := q_ck_some hf
        refine q_ld_M_below C b3 I dX3_pile_33 ?_
        refine lv_istore_n (lv' := [(2, .int (a 9 x2.toNatClampNeg)), (0, .ref h), (1, .int x1), (3, .int x3)]) C.1 C.2.1 dX3_pile_34 rfl hl (by decide) rfl (fun ls hl => ?_)
        refine lv_iinc (v := x3 + 1) (lv' := [(3, .int (x3 + 1)), (2, .int (a 9 x2.toNatClampNeg)), (0, .ref h), (1, .int x1)]) C.1 C.2.1 dX3_pile_35 hl (k := 3) rfl rfl (by decide) rfl (fun ls hl => ?_)
        refine lv_goto (tgt := 23) C.1 C.2.1 dX3_pile_38 (by decide) ?_
        exact ih _ _ _ _ _ _ _ _ _ hf I (lv_sub hl [2, 3, 1, 0] rfl)
  refine lv_iload_n C.1 C.2.1 dX3_pile_0 rfl (lv_at hl 1 rfl) ?_
  refine lv_iconst (v := 0) C.1 C.2.1 dX3_pile_1 (by decide) ?_
  refine lv_aload_n C.1 C.2.1 dX3_pile_2 rfl (lv_at hl 0 rfl) ?_
  obtain ⟨r8, s4, a5, g6, h7, hf⟩ := q_ci_some hf
  refine q_callVi (As := []) (rest := [.int 0, .int p1]) C hml (c_X3_height h7) (cwV 0 C.2.2.2.1 gX3_pile_X3_height rfl rfl rfl e_X3_height ⟨Nat.le_of_ble_eq_true rfl, Nat.le_of_ble_eq_true rfl⟩) I hA (q0 := 0) (ci := 3) rfl rfl rfl rfl hl.1 rfl (Nat.le_of_ble_eq_true rfl) dX3_pile_3 ⟨Nat.zero_le _, Nat.zero_le _⟩ (fun H locs I => ?_)
  refine lv_iconst (v := 1) C.1 C.2.1 dX3_pile_6 (by decide) ?_
  refine lv_isub C.1 C.2.1 dX3_pile_7 ?_
  obtain ⟨r13, s9, a10, g11, h12, hf⟩ := q_ci_some hf
  refine q_callSi (As := [.int p1, .int 0, .int (r8 - 1)]) (rest := []) C hml (c_X3_in h12) (va_cwS 3 C.2.2.2.1 gX3_pile_X3_in rfl rfl rfl e_X3_in ⟨Nat.le_of_ble_eq_true rfl, Nat.le_of_ble_eq_true rfl⟩) I hA rfl hl.1 rfl (Nat.le_of_ble_eq_true rfl) dX3_pile_8 ⟨Nat.zero_le _, Nat.zero_le _⟩ (fun H locs I => ?_)
  refine lv_if_ne (tgt := 16) C.1 C.2.1 dX3_pile_11 (by decide) (fun c14 => ?_) (fun c14 => ?_)
  · have hf := q_if_f hf c14
    refine lv_aload_n C.1 C.2.1 dX3_pile_16 rfl (lv_at hl 0 rfl) ?_
    refine q_get_RX3_108 C hinX3 k108 I dX3_pile_17 ?_
    refine lv_istore_n (lv' := [(2, .int (s9 12)), (0, .ref h), (1, .int p1)]) C.1 C.2.1 dX3_pile_20 rfl hl (by decide) rfl (fun ls hl => ?_)
    refine lv_iconst (v := 0) C.1 C.2.1 dX3_pile_21 (by decide) ?_
    refine lv_istore_n (lv' := [(3, .int 0), (2, .int (s9 12)), (0, .ref h), (1, .int p1)]) C.1 C.2.1 dX3_pile_22 rfl hl (by decide) rfl (fun ls hl => ?_)
    exact lp n _ _ _ _ _ _ _ _ _ hf I (lv_sub hl [2, 3, 1, 0] rfl)
  · have hf := q_if_t hf c14
    refine lv_lconst (v := 0) C.1 C.2.1 dX3_pile_14 (by decide) ?_
    obtain ⟨rfl, rfl, rfl, rfl⟩ := q_some4 hf
    exact q_lret C hr hlocks I dX3_pile_15
def f_X3_mark (s : q_s) (a : q_a) (g : q_g) (p1 : Int32) (p2 : Int32) : Option (Int32 × q_S) :=
 q_ci (f_X3_in s a g p2 0 2) fun r5 s1 a2 g3 =>
 if r5 = 0 then
  some ((-2), s1, a2, g3)
 else
  q_ci (f_X3_in s1 a2 g3 p1 0 ((s1 13) - 1)) fun r11 s7 a8 g9 =>
  if r11 = 0 then
   some ((-1), s7, a8, g9)
  else
   if p2 = 0 then
    q_ck p1 3001 <|
    some (a8 14 p1.toNatClampNeg, s7, a8, g9)
   else
    if p2 = 1 then
     q_ck p1 3001 <|
     some (a8 15 p1.toNatClampNeg, s7, a8, g9)
    else
     q_ck p1 3001 <|
     some (a8 16 p1.toNatClampNeg, s7, a8, g9)
theorem e_X3_mark : yX3_mark.cls = RX3 ∧ yX3_mark.cls ≠ "java/lang/invoke/MethodHandle" ∧ yX3_mark.cls ≠ "java/lang/invoke/VarHandle" ∧ (parseMethodDescriptor yX3_mark.desc).map (fun d => d.parameters.length) = some 2 := by decide +kernel
set_option maxHeartbeats 4000000 in
set_option maxRecDepth 100000 in
theorem c_X3_mark {l : Launch} {D : va_G} {h : Nat} {ad : Nat → Nat} {ca : Nat → ClassId} {s s9 : q_s} {a a9 : q_a} {g g9 : q_g} {p1 : Int32} {p2 : Int32} {r9 : Int32} (hf : f_X3_mark s a g p1 p2 = some (r9, s9, a9, g9)) : q_Mi l yX3_mark wsX3_mark ({ frames := 1, cells := 0, slots := 0, locals := 22 }) D (q_tM ca) (q_wM h ad ca) [.ref h, .int p1, .int p2] s a g r9 s9 a9 g9 := by
  unfold f_X3_mark at hf
  refine q_entI (cc := cX3_mark) (maxL := 3) (ret := (some .int)) (by decide) rfl (Nat.le_of_ble_eq_true rfl) ?_
  intro p e st m args below meth c A ls C hr hlocks hml hA I hl
  have hl : lv_has ls 3 [(0, .ref h), (1, .int p1), (2, .int p2)] := hl
  have hinX3 : ∀ w ∈ wsX30, w ∈ wsX3_mark := fun _ h => List.mem_cons_of_mem _ (List.mem_append_right _ h)
  have k114 : Cond.fieldLink RX3 114 "ReaderYardModel" "marks" "I" ∈ wsX3_mark := by decide +kernel
  have k44 : Cond.fieldLink RX3 44 "ReaderYardModel" "markTo" "[I" ∈ wsX3_mark := by decide +kernel
  have k41 : Cond.fieldLink RX3 41 "ReaderYardModel" "markFrom" "[I" ∈ wsX3_mark := by decide +kernel
  have k38 : Cond.fieldLink RX3 38 "ReaderYardModel" "markOf" "[I" ∈ wsX3_mark := by decide +kernel
  refine lv_iload_n C.1 C.2.1 dX3_mark_0 rfl (lv_at hl 2 rfl) ?_
  refine lv_iconst (v := 0) C.1 C.2.1 dX3_mark_1 (by decide) ?_
  refine lv_iconst (v := 2) C.1 C.2.1 dX3_mark_2 (by decide) ?_
  obtain ⟨r5, s1, a2, g3, h4, hf⟩ := q_ci_some hf
  refine q_callSi (As := [.int p2, .int 0, .int 2]) (rest := []) C hml (c_X3_in h4) (va_cwS 3 C.2.2.2.1 gX3_mark_X3_in rfl rfl rfl e_X3_in ⟨Nat.le_of_ble_eq_true rfl, Nat.le_of_ble_eq_true rfl⟩) I hA rfl hl.1 rfl (Nat.le_of_ble_eq_true rfl) dX3_mark_3 ⟨Nat.zero_le _, Nat.zero_le _⟩ (fun H locs I => ?_)
  refine lv_if_ne (tgt := 12) C.1 C.2.1 dX3_mark_6 (by decide) (fun c6 => ?_) (fun c6 => ?_)
  · have hf := q_if_f hf c6
    refine lv_iload_n C.1 C.2.1 dX3_mark_12 rfl (lv_at hl 1 rfl) ?_
    refine lv_iconst (v := 0) C.1 C.2.1 dX3_mark_13 (by decide) ?_
    refine lv_aload_n C.1 C.2.1 dX3_mark_14 rfl (lv_at hl 0 rfl) ?_
    refine q_get_RX3_114 C hinX3 k114 I dX3_mark_15 ?_
    refine lv_iconst (v := 1) C.1 C.2.1 dX3_mark_18 (by decide) ?_
    refine lv_isub C.1 C.2.1 dX3_mark_19 ?_
    obtain ⟨r11, s7, a8, g9, h10, hf⟩ := q_ci_some hf
    refine q_callSi (As := [.int p1, .int 0, .int ((s1 13) - 1)]) (rest := []) C hml (c_X3_in h10) (va_cwS 3 C.2.2.2.1 gX3_mark_X3_in rfl rfl rfl e_X3_in ⟨Nat.le_of_ble_eq_true rfl, Nat.le_of_ble_eq_true rfl⟩) I hA rfl hl.1 rfl (Nat.le_of_ble_eq_true rfl) dX3_mark_20 ⟨Nat.zero_le _, Nat.zero_le _⟩ (fun H locs I => ?_)
    refine lv_if_ne (tgt := 28) C.1 C.2.1 dX3_mark_23 (by decide) (fun c12 => ?_) (fun c12 => ?_)
    · have hf := q_if_f hf c12
      refine lv_iload_n C.1 C.2.1 dX3_mark_28 rfl (lv_at hl 2 rfl) ?_
      refine lv_if_ne (tgt := 41) C.1 C.2.1 dX3_mark_29 (by decide) (fun c13 => ?_) (fun c13 => ?_)
      · have hf := q_if_f hf c13
        refine lv_iload_n C.1 C.2.1 dX3_mark_41 rfl (lv_at hl 2 rfl) ?_
        refine lv_iconst (v := 1) C.1 C.2.1 dX3_mark_42 (by decide) ?_
        refine lv_icmp_ne (tgt := 55) C.1 C.2.1 dX3_mark_43 (by decide) (fun c14 => ?_) (fun c14 => ?_)
        · have hf := q_if_f hf c14
          refine lv_aload_n C.1 C.2.1 dX3_mark_55 rfl (lv_at hl 0 rfl) ?_
          refine q_get_RX3_44 C hinX3 k44 I dX3_mark_56 ?_
          refine lv_iload_n C.1 C.2.1 dX3_mark_59 rfl (lv_at hl 1 rfl) ?_
          obtain ⟨b15, hf⟩ := q_ck_some hf
          refine q_ld_M_markTo C b15 I dX3_mark_60 ?_
          obtain ⟨rfl, rfl, rfl, rfl⟩ := q_some4 hf
          exact q_iret C hr hlocks I dX3_mark_61
        · have hf := q_if_t hf c14
          refine lv_aload_n C.1 C.2.1 dX3_mark_46 rfl (lv_at hl 0 rfl) ?_
          refine q_get_RX3_41 C hinX3 k41 I dX3_mark_47 ?_
          refine lv_iload_n C.1 C.2.1 dX3_mark_50 rfl (lv_at hl 1 rfl) ?_
          obtain ⟨b16, hf⟩ := q_ck_some hf
          refine q_ld_M_markFrom C b16 I dX3_mark_51 ?_
          refine lv_goto (tgt := 61) C.1 C.2.1 dX3_mark_52 (by decide) ?_
          obtain ⟨rfl, rfl, rfl, rfl⟩ := q_some4 hf
          exact q_iret C hr hlocks I dX3_mark_61
      · have hf := q_if_t hf c13
        refine lv_aload_n C.1 C.2.1 dX3_mark_32 rfl (lv_at hl 0 rfl) ?_
        refine q_get_RX3_38 C hinX3 k38 I dX3_mark_33 ?_
        refine lv_iload_n C.1 C.2.1 dX3_mark_36 rfl (lv_at hl 1 rfl) ?_
        obtain ⟨b17, hf⟩ := q_ck_some hf
        refine q_ld_M_markOf C b17 I dX3_mark_37 ?_
        refine lv_goto (tgt := 61) C.1 C.2.1 dX3_mark_38 (by decide) ?_
        obtain ⟨rfl, rfl, rfl, rfl⟩ := q_some4 hf
        exact q_iret C hr hlocks I dX3_mark_61
    · have hf := q_if_t hf c12
      refine lv_iconst (v := (-1)) C.1 C.2.1 dX3_mark_26 (by decide) ?_
      obtain ⟨rfl, rfl, rfl, rfl⟩ := q_some4 hf
      exact q_iret C hr hlocks I dX3_mark_27
  · have hf := q_if_t hf c6
    refine lv_bipush (v := (-2)) C.1 C.2.1 dX3_mark_9 (by decide) ?_
    obtain ⟨rfl, rfl, rfl, rfl⟩ := q_some4 hf
    exact q_iret C hr hlocks I dX3_mark_11
def f_X3_count (s : q_s) (a : q_a) (g : q_g) (p1 : Int32) : Option (Int32 × q_S) :=
 if p1 = 0 then
  some (s 1, s, a, g)
 else
  if p1 = 1 then
   some (s 2, s, a, g)
  else
   if p1 = 2 then
    q_ci (f_X3_height s a g) fun r8 s4 a5 g6 =>
    some (r8, s4, a5, g6)
   else
    if p1 = 3 then
     some (s 13, s, a, g)
    else
     if p1 = 4 then
      some (s 31, s, a, g)
     else
      if p1 = 5 then
       some (s 33, s, a, g)
      else
       if p1 = 6 then
        some (s 32, s, a, g)
       else
        if p1 = 7 then
         some (s 34, s, a, g)
        else
         if p1 = 8 then
          some (s 35, s, a, g)
         else
          some ((-2), s, a, g)
theorem e_X3_count : yX3_count.cls = RX3 ∧ yX3_count.cls ≠ "java/lang/invoke/MethodHandle" ∧ yX3_count.cls ≠ "java/lang/invoke/VarHandle" ∧ (parseMethodDescriptor yX3_count.desc).map (fun d => d.parameters.length) = some 1 := by decide +kernel
set_option maxHeartbeats 4000000 in
set_option maxRecDepth 100000 in
theorem c_X3_count {l : Launch} {D : va_G} {h : Nat} {ad : Nat → Nat} {ca : Nat → ClassId} {s s9 : q_s} {a a9 : q_a} {g g9 : q_g} {p1 : Int32} {r9 : Int32} (hf : f_X3_count s a g p1 = some (r9, s9, a9, g9)) : q_Mi l yX3_count wsX3_count ({ frames := 1, cells := 0, slots := 0, locals := 20 }) D (q_tM ca) (q_wM h ad ca) [.ref h, .int p1] s a g r9 s9 a9 g9 := by
  unfold f_X3_count at hf
  refine q_entI (cc := cX3_count) (maxL := 2) (ret := (some .int)) (by decide) rfl (Nat.le_of_ble_eq_true rfl) ?_
  intro p e st m args below meth c A ls C hr hlocks hml hA I hl
  have hl : lv_has ls 2 [(0, .ref h), (1, .int p1)] := hl
  have hinX3 : ∀ w ∈ wsX30, w ∈ wsX3_count := fun _ h => List.mem_cons_of_mem _ (List.mem_append_right _ h)
  have k89 : Cond.fieldLink RX3 89 "ReaderYardModel" "length" "I" ∈ wsX3_count := by decide +kernel
  have k81 : Cond.fieldLink RX3 81 "ReaderYardModel" "many" "I" ∈ wsX3_count := by decide +kernel
  have k114 : Cond.fieldLink RX3 114 "ReaderYardModel" "marks" "I" ∈ wsX3_count := by decide +kernel
  have k102 : Cond.fieldLink RX3 102 "ReaderYardModel" "steps" "I" ∈ wsX3_count := by decide +kernel
  have k117 : Cond.fieldLink RX3 117 "ReaderYardModel" "deepest" "I" ∈ wsX3_count := by decide +kernel
  have k105 : Cond.fieldLink RX3 105 "ReaderYardModel" "allSteps" "I" ∈ wsX3_count := by decide +kernel
  have k177 : Cond.fieldLink RX3 177 "ReaderYardModel" "faults" "I" ∈ wsX3_count := by decide +kernel
  have k180 : Cond.fieldLink RX3 180 "ReaderYardModel" "lastFault" "I" ∈ wsX3_count := by decide +kernel
  refine lv_iload_n C.1 C.2.1 dX3_count_0 rfl (lv_at hl 1 rfl) ?_
  by_cases c1 : p1 = 0
  · have hf := q_if_t hf c1
    refine lv_tableIn (off := 51) (tgt := 52) C.1 C.2.1 dX3_count_1 (by skip <;> rw [c1] <;> decide) (by skip <;> rw [c1] <;> decide) (by skip <;> rw [c1] <;> rfl) (by decide) ?_
    refine lv_aload_n C.1 C.2.1 dX3_count_52 rfl (lv_at hl 0 rfl) ?_
    refine q_get_RX3_89 C hinX3 k89 I dX3_count_53 ?_
    obtain ⟨rfl, rfl, rfl, rfl⟩ := q_some4 hf
    exact q_iret C hr hlocks I dX3_count_56
  have hf := q_if_f hf c1
  by_cases c2 : p1 = 1
  · have hf := q_if_t hf c2
    refine lv_tableIn (off := 56) (tgt := 57) C.1 C.2.1 dX3_count_1 (by skip <;> rw [c2] <;> decide) (by skip <;> rw [c2] <;> decide) (by skip <;> rw [c2] <;> rfl) (by decide) ?_
    refine lv_aload_n C.1 C.2.1 dX3_count_57 rfl (lv_at hl 0 rfl) ?_
    refine q_get_RX3_81 C hinX3 k81 I dX3_count_58 ?_
    obtain ⟨rfl, rfl, rfl, rfl⟩ := q_some4 hf
    exact q_iret C hr hlocks I dX3_count_61
  have hf := q_if_f hf c2
  by_cases c3 : p1 = 2
  · have hf := q_if_t hf c3
    refine lv_tableIn (off := 61) (tgt := 62) C.1 C.2.1 dX3_count_1 (by skip <;> rw [c3] <;> decide) (by skip <;> rw [c3] <;> decide) (by skip <;> rw [c3] <;> rfl) (by decide) ?_
    refine lv_aload_n C.1 C.2.1 dX3_count_62 rfl (lv_at hl 0 rfl) ?_
    obtain ⟨r8, s4, a5, g6, h7, hf⟩ := q_ci_some hf
    refine q_callVi (As := []) (rest := []) C hml (c_X3_height h7) (cwV 0 C.2.2.2.1 gX3_count_X3_height rfl rfl rfl e_X3_height ⟨Nat.le_of_ble_eq_true rfl, Nat.le_of_ble_eq_true rfl⟩) I hA (q0 := 0) (ci := 3) rfl rfl rfl rfl hl.1 rfl (Nat.le_of_ble_eq_true rfl) dX3_count_63 ⟨Nat.zero_le _, Nat.zero_le _⟩ (fun H locs I => ?_)
    obtain ⟨rfl, rfl, rfl, rfl⟩ := q_some4 hf
    exact q_iret C hr hlocks I dX3_count_66
  have hf := q_if_f hf c3
  by_cases c9 : p1 = 3
  · have hf := q_if_t hf c9
    refine lv_tableIn (off := 66) (tgt := 67) C.1 C.2.1 dX3_count_1 (by skip <;> rw [c9] <;> decide) (by skip <;> rw [c9] <;> decide) (by skip <;> rw [c9] <;> rfl) (by decide) ?_
    refine lv_aload_n C.1 C.2.1 dX3_count_67 rfl (lv_at hl 0 rfl) ?_
    refine q_get_RX3_114 C hinX3 k114 I dX3_count_68 ?_
    obtain ⟨rfl, rfl, rfl, rfl⟩ := q_some4 hf
    exact q_iret C hr hlocks I dX3_count_71
  have hf := q_if_f hf c9
  by_cases c10 : p1 = 4
  · have hf := q_if_t hf c10
    refine lv_tableIn (off := 71) (tgt := 72) C.1 C.2.1 dX3_count_1 (by skip <;> rw [c10] <;> decide) (by skip <;> rw [c10] <;> decide) (by skip <;> rw [c10] <;> rfl) (by decide) ?_
    refine lv_aload_n C.1 C.2.1 dX3_count_72 rfl (lv_at hl 0 rfl) ?_
    refine q_get_RX3_102 C hinX3 k102 I dX3_count_73 ?_
    obtain ⟨rfl, rfl, rfl, rfl⟩ := q_some4 hf
    exact q_iret C hr hlocks I dX3_count_76
  have hf := q_if_f hf c10
  by_cases c11 : p1 = 5
  · have hf := q_if_t hf c11
    refine lv_tableIn (off := 76) (tgt := 77) C.1 C.2.1 dX3_count_1 (by skip <;> rw [c11] <;> decide) (by skip <;> rw [c11] <;> decide) (by skip <;> rw [c11] <;> rfl) (by decide) ?_
    refine lv_aload_n C.1 C.2.1 dX3_count_77 rfl (lv_at hl 0 rfl) ?_
    refine q_get_RX3_117 C hinX3 k117 I dX3_count_78 ?_
    obtain ⟨rfl, rfl, rfl, rfl⟩ := q_some4 hf
    exact q_iret C hr hlocks I dX3_count_81
  have hf := q_if_f hf c11
  by_cases c12 : p1 = 6
  · have hf := q_if_t hf c12
    refine lv_tableIn (off := 81) (tgt := 82) C.1 C.2.1 dX3_count_1 (by skip <;> rw [c12] <;> decide) (by skip <;> rw [c12] <;> decide) (by skip <;> rw [c12] <;> rfl) (by decide) ?_
    refine lv_aload_n C.1 C.2.1 dX3_count_82 rfl (lv_at hl 0 rfl) ?_
    refine q_get_RX3_105 C hinX3 k105 I dX3_count_83 ?_
    obtain ⟨rfl, rfl, rfl, rfl⟩ := q_some4 hf
    exact q_iret C hr hlocks I dX3_count_86
  have hf := q_if_f hf c12
  by_cases c13 : p1 = 7
  · have hf := q_if_t hf c13
    refine lv_tableIn (off := 86) (tgt := 87) C.1 C.2.1 dX3_count_1 (by skip <;> rw [c13] <;> decide) (by skip <;> rw [c13] <;> decide) (by skip <;> rw [c13] <;> rfl) (by decide) ?_
    refine lv_aload_n C.1 C.2.1 dX3_count_87 rfl (lv_at hl 0 rfl) ?_
    refine q_get_RX3_177 C hinX3 k177 I dX3_count_88 ?_
    obtain ⟨rfl, rfl, rfl, rfl⟩ := q_some4 hf
    exact q_iret C hr hlocks I dX3_count_91
  have hf := q_if_f hf c13
  by_cases c14 : p1 = 8
  · have hf := q_if_t hf c14
    refine lv_tableIn (off := 91) (tgt := 92) C.1 C.2.1 dX3_count_1 (by skip <;> rw [c14] <;> decide) (by skip <;> rw [c14] <;> decide) (by skip <;> rw [c14] <;> rfl) (by decide) ?_
    refine lv_aload_n C.1 C.2.1 dX3_count_92 rfl (lv_at hl 0 rfl) ?_
    refine q_get_RX3_180 C hinX3 k180 I dX3_count_93 ?_
    obtain ⟨rfl, rfl, rfl, rfl⟩ := q_some4 hf
    exact q_iret C hr hlocks I dX3_count_96
  have hf := q_if_f hf c14
  refine lv_tableOut (tgt := 97) C.1 C.2.1 dX3_count_1 (by
    refine q_out (fun k k1 k2 => ?_)
    have k3 : k = 0 ∨ k = 1 ∨ k = 2 ∨ k = 3 ∨ k = 4 ∨ k = 5 ∨ k = 6 ∨ k = 7 ∨ k = 8 := by omega
    rcases k3 with rfl | rfl | rfl | rfl | rfl | rfl | rfl | rfl | rfl
    · exact fun z => c1 (z)
    · exact fun z => c2 (z)
    · exact fun z => c3 (z)
    · exact fun z => c9 (z)
    · exact fun z => c10 (z)
    · exact fun z => c11 (z)
    · exact fun z => c12 (z)
    · exact fun z => c13 (z)
    · exact fun z => c14 (z)
    ) (by decide) ?_
  refine lv_bipush (v := (-2)) C.1 C.2.1 dX3_count_97 (by decide) ?_
  obtain ⟨rfl, rfl, rfl, rfl⟩ := q_some4 hf
  exact q_iret C hr hlocks I dX3_count_99
def f_X3_began (s : q_s) (a : q_a) (g : q_g) (p1 : Int32) : Option (Int32 × q_S) :=
 q_ci (f_X3_isReader s a g p1) fun r5 s1 a2 g3 =>
 if r5 = 0 then
  some ((-2), s1, a2, g3)
 else
  q_ck p1 50 <|
  some (a2 6 p1.toNatClampNeg, s1, a2, g3)
theorem e_X3_began : yX3_began.cls = RX3 ∧ yX3_began.cls ≠ "java/lang/invoke/MethodHandle" ∧ yX3_began.cls ≠ "java/lang/invoke/VarHandle" ∧ (parseMethodDescriptor yX3_began.desc).map (fun d => d.parameters.length) = some 1 := by decide +kernel
set_option maxHeartbeats 4000000 in
set_option maxRecDepth 100000 in
theorem c_X3_began {l : Launch} {D : va_G} {h : Nat} {ad : Nat → Nat} {ca : Nat → ClassId} {s s9 : q_s} {a a9 : q_a} {g g9 : q_g} {p1 : Int32} {r9 : Int32} (hf : f_X3_began s a g p1 = some (r9, s9, a9, g9)) : q_Mi l yX3_began wsX3_began ({ frames := 2, cells := 0, slots := 0, locals := 43 }) D (q_tM ca) (q_wM h ad ca) [.ref h, .int p1] s a g r9 s9 a9 g9 := by
  unfold f_X3_began at hf
  refine q_entI (cc := cX3_began) (maxL := 2) (ret := (some .int)) (by decide) rfl (Nat.le_of_ble_eq_true rfl) ?_
  intro p e st m args below meth c A ls C hr hlocks hml hA I hl
  have hl : lv_has ls 2 [(0, .ref h), (1, .int p1)] := hl
  have hinX3 : ∀ w ∈ wsX30, w ∈ wsX3_began := fun _ h => List.mem_cons_of_mem _ (List.mem_append_right _ h)
  have k22 : Cond.fieldLink RX3 22 "ReaderYardModel" "begins" "[I" ∈ wsX3_began := by decide +kernel
  refine lv_aload_n C.1 C.2.1 dX3_began_0 rfl (lv_at hl 0 rfl) ?_
  refine lv_iload_n C.1 C.2.1 dX3_began_1 rfl (lv_at hl 1 rfl) ?_
  obtain ⟨r5, s1, a2, g3, h4, hf⟩ := q_ci_some hf
  refine q_callVi (As := [.int p1]) (rest := []) C hml (c_X3_isReader h4) (cwV 1 C.2.2.2.1 gX3_began_X3_isReader rfl rfl rfl e_X3_isReader ⟨Nat.le_of_ble_eq_true rfl, Nat.le_of_ble_eq_true rfl⟩) I hA (q0 := 0) (ci := 3) rfl rfl rfl rfl hl.1 rfl (Nat.le_of_ble_eq_true rfl) dX3_began_2 ⟨Nat.zero_le _, Nat.zero_le _⟩ (fun H locs I => ?_)
  refine lv_if_eq (tgt := 17) C.1 C.2.1 dX3_began_5 (by decide) (fun c6 => ?_) (fun c6 => ?_)
  · have hf := q_if_t hf c6
    refine lv_bipush (v := (-2)) C.1 C.2.1 dX3_began_17 (by decide) ?_
    obtain ⟨rfl, rfl, rfl, rfl⟩ := q_some4 hf
    exact q_iret C hr hlocks I dX3_began_19
  · have hf := q_if_f hf c6
    refine lv_aload_n C.1 C.2.1 dX3_began_8 rfl (lv_at hl 0 rfl) ?_
    refine q_get_RX3_22 C hinX3 k22 I dX3_began_9 ?_
    refine lv_iload_n C.1 C.2.1 dX3_began_12 rfl (lv_at hl 1 rfl) ?_
    obtain ⟨b7, hf⟩ := q_ck_some hf
    refine q_ld_M_begins C b7 I dX3_began_13 ?_
    refine lv_goto (tgt := 19) C.1 C.2.1 dX3_began_14 (by decide) ?_
    obtain ⟨rfl, rfl, rfl, rfl⟩ := q_some4 hf
    exact q_iret C hr hlocks I dX3_began_19

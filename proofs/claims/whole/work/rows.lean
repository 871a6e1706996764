section
-- ===== PART A: goes FIRST, ahead of the names: the tables' words, and 'selects' of the private methods out of them =====
/-- a private method of a class that the tables say can be made, by its rows of tables_1 -/
def lw_okq (q : MethodName × Nat) : Prop := (q.1.cls ≠ "java/lang/invoke/MethodHandle" ∧ q.1.cls ≠ "java/lang/invoke/VarHandle") ∧ Cond.instantiable q.1.cls q.2 ∈ tables_1 ∧ Cond.privateMethod q.1 ∈ tables_1 ∧ Cond.instanceMethod q.1 ∈ tables_1
theorem lw_p0 : lw_okq (⟨"ReaderYard", "addReader", "(III)I"⟩, 16) := ⟨⟨by decide +kernel, by decide +kernel⟩, List.mem_of_getElem? (i := 8) (by decide +kernel), List.mem_of_getElem? (i := 69) (by decide +kernel), List.mem_of_getElem? (i := 70) (by decide +kernel)⟩
theorem lw_p1 : lw_okq (⟨"ReaderYard", "fitsFirst", "(II)Z"⟩, 16) := ⟨⟨by decide +kernel, by decide +kernel⟩, List.mem_of_getElem? (i := 8) (by decide +kernel), List.mem_of_getElem? (i := 135) (by decide +kernel), List.mem_of_getElem? (i := 136) (by decide +kernel)⟩
theorem lw_p2 : lw_okq (⟨"ReaderYard", "isReader", "(I)Z"⟩, 16) := ⟨⟨by decide +kernel, by decide +kernel⟩, List.mem_of_getElem? (i := 8) (by decide +kernel), List.mem_of_getElem? (i := 139) (by decide +kernel), List.mem_of_getElem? (i := 140) (by decide +kernel)⟩
theorem lw_p3 : lw_okq (⟨"ReaderYard", "fitsSecond", "(II)Z"⟩, 16) := ⟨⟨by decide +kernel, by decide +kernel⟩, List.mem_of_getElem? (i := 8) (by decide +kernel), List.mem_of_getElem? (i := 146) (by decide +kernel), List.mem_of_getElem? (i := 147) (by decide +kernel)⟩
theorem lw_p4 : lw_okq (⟨"ReaderYard", "startCall", "()V"⟩, 16) := ⟨⟨by decide +kernel, by decide +kernel⟩, List.mem_of_getElem? (i := 8) (by decide +kernel), List.mem_of_getElem? (i := 158) (by decide +kernel), List.mem_of_getElem? (i := 159) (by decide +kernel)⟩
theorem lw_p5 : lw_okq (⟨"ReaderYard", "follow", "(IIII)I"⟩, 16) := ⟨⟨by decide +kernel, by decide +kernel⟩, List.mem_of_getElem? (i := 8) (by decide +kernel), List.mem_of_getElem? (i := 166) (by decide +kernel), List.mem_of_getElem? (i := 167) (by decide +kernel)⟩
theorem lw_p6 : lw_okq (⟨"ReaderYard", "begin", "(II)I"⟩, 16) := ⟨⟨by decide +kernel, by decide +kernel⟩, List.mem_of_getElem? (i := 8) (by decide +kernel), List.mem_of_getElem? (i := 170) (by decide +kernel), List.mem_of_getElem? (i := 171) (by decide +kernel)⟩
theorem lw_p7 : lw_okq (⟨"ReaderYard", "takeBack", "(II)V"⟩, 16) := ⟨⟨by decide +kernel, by decide +kernel⟩, List.mem_of_getElem? (i := 8) (by decide +kernel), List.mem_of_getElem? (i := 183) (by decide +kernel), List.mem_of_getElem? (i := 184) (by decide +kernel)⟩
theorem lw_p8 : lw_okq (⟨"ReaderYard", "turn", "(IIIII)I"⟩, 16) := ⟨⟨by decide +kernel, by decide +kernel⟩, List.mem_of_getElem? (i := 8) (by decide +kernel), List.mem_of_getElem? (i := 187) (by decide +kernel), List.mem_of_getElem? (i := 188) (by decide +kernel)⟩
theorem lw_p9 : lw_okq (⟨"ReaderYard", "readAlone", "(III)I"⟩, 16) := ⟨⟨by decide +kernel, by decide +kernel⟩, List.mem_of_getElem? (i := 8) (by decide +kernel), List.mem_of_getElem? (i := 195) (by decide +kernel), List.mem_of_getElem? (i := 196) (by decide +kernel)⟩
theorem lw_p10 : lw_okq (⟨"ReaderYard", "passSign", "(III)I"⟩, 16) := ⟨⟨by decide +kernel, by decide +kernel⟩, List.mem_of_getElem? (i := 8) (by decide +kernel), List.mem_of_getElem? (i := 199) (by decide +kernel), List.mem_of_getElem? (i := 200) (by decide +kernel)⟩
theorem lw_p11 : lw_okq (⟨"ReaderYard$Pile", "slotUnder", "(I)I"⟩, 5) := ⟨⟨by decide +kernel, by decide +kernel⟩, List.mem_of_getElem? (i := 16) (by decide +kernel), List.mem_of_getElem? (i := 207) (by decide +kernel), List.mem_of_getElem? (i := 208) (by decide +kernel)⟩
theorem lw_p12 : lw_okq (⟨"ReaderYard", "readFigure", "(I)I"⟩, 16) := ⟨⟨by decide +kernel, by decide +kernel⟩, List.mem_of_getElem? (i := 8) (by decide +kernel), List.mem_of_getElem? (i := 211) (by decide +kernel), List.mem_of_getElem? (i := 212) (by decide +kernel)⟩
theorem lw_p13 : lw_okq (⟨"ReaderYard", "act", "(II)I"⟩, 16) := ⟨⟨by decide +kernel, by decide +kernel⟩, List.mem_of_getElem? (i := 8) (by decide +kernel), List.mem_of_getElem? (i := 226) (by decide +kernel), List.mem_of_getElem? (i := 227) (by decide +kernel)⟩
theorem lw_p14 : lw_okq (⟨"ReaderYard", "noteFault", "(I)V"⟩, 16) := ⟨⟨by decide +kernel, by decide +kernel⟩, List.mem_of_getElem? (i := 8) (by decide +kernel), List.mem_of_getElem? (i := 233) (by decide +kernel), List.mem_of_getElem? (i := 234) (by decide +kernel)⟩
theorem lw_p15 : lw_okq (⟨"ReaderYardModel", "isReader", "(I)Z"⟩, 36) := ⟨⟨by decide +kernel, by decide +kernel⟩, List.mem_of_getElem? (i := 257) (by decide +kernel), List.mem_of_getElem? (i := 387) (by decide +kernel), List.mem_of_getElem? (i := 388) (by decide +kernel)⟩
def lw_privs_1 : List (MethodName × Nat) := [(⟨"ReaderYard", "addReader", "(III)I"⟩, 16), (⟨"ReaderYard", "fitsFirst", "(II)Z"⟩, 16), (⟨"ReaderYard", "isReader", "(I)Z"⟩, 16), (⟨"ReaderYard", "fitsSecond", "(II)Z"⟩, 16), (⟨"ReaderYard", "startCall", "()V"⟩, 16), (⟨"ReaderYard", "follow", "(IIII)I"⟩, 16), (⟨"ReaderYard", "begin", "(II)I"⟩, 16), (⟨"ReaderYard", "takeBack", "(II)V"⟩, 16), (⟨"ReaderYard", "turn", "(IIIII)I"⟩, 16), (⟨"ReaderYard", "readAlone", "(III)I"⟩, 16), (⟨"ReaderYard", "passSign", "(III)I"⟩, 16), (⟨"ReaderYard$Pile", "slotUnder", "(I)I"⟩, 5), (⟨"ReaderYard", "readFigure", "(I)I"⟩, 16), (⟨"ReaderYard", "act", "(II)I"⟩, 16), (⟨"ReaderYard", "noteFault", "(I)V"⟩, 16), (⟨"ReaderYardModel", "isReader", "(I)Z"⟩, 36)]
theorem lw_r1 : ∀ q ∈ lw_privs_1, lw_okq q := List.forall_mem_cons.mpr ⟨lw_p0, List.forall_mem_cons.mpr ⟨lw_p1, List.forall_mem_cons.mpr ⟨lw_p2, List.forall_mem_cons.mpr ⟨lw_p3, List.forall_mem_cons.mpr ⟨lw_p4, List.forall_mem_cons.mpr ⟨lw_p5, List.forall_mem_cons.mpr ⟨lw_p6, List.forall_mem_cons.mpr ⟨lw_p7, List.forall_mem_cons.mpr ⟨lw_p8, List.forall_mem_cons.mpr ⟨lw_p9, List.forall_mem_cons.mpr ⟨lw_p10, List.forall_mem_cons.mpr ⟨lw_p11, List.forall_mem_cons.mpr ⟨lw_p12, List.forall_mem_cons.mpr ⟨lw_p13, List.forall_mem_cons.mpr ⟨lw_p14, List.forall_mem_cons.mpr ⟨lw_p15, fun _ h => absurd h List.not_mem_nil⟩⟩⟩⟩⟩⟩⟩⟩⟩⟩⟩⟩⟩⟩⟩⟩
theorem lw_p16 : lw_okq (⟨"ReaderYardModel", "ready", "()V"⟩, 36) := ⟨⟨by decide +kernel, by decide +kernel⟩, List.mem_of_getElem? (i := 257) (by decide +kernel), List.mem_of_getElem? (i := 399) (by decide +kernel), List.mem_of_getElem? (i := 400) (by decide +kernel)⟩
theorem lw_p17 : lw_okq (⟨"ReaderYardModel", "reads", "(II)V"⟩, 36) := ⟨⟨by decide +kernel, by decide +kernel⟩, List.mem_of_getElem? (i := 257) (by decide +kernel), List.mem_of_getElem? (i := 403) (by decide +kernel), List.mem_of_getElem? (i := 404) (by decide +kernel)⟩
theorem lw_p18 : lw_okq (⟨"ReaderYardModel", "begin", "(II)V"⟩, 36) := ⟨⟨by decide +kernel, by decide +kernel⟩, List.mem_of_getElem? (i := 257) (by decide +kernel), List.mem_of_getElem? (i := 407) (by decide +kernel), List.mem_of_getElem? (i := 408) (by decide +kernel)⟩
theorem lw_p19 : lw_okq (⟨"ReaderYardModel", "goesOn", "()V"⟩, 36) := ⟨⟨by decide +kernel, by decide +kernel⟩, List.mem_of_getElem? (i := 257) (by decide +kernel), List.mem_of_getElem? (i := 411) (by decide +kernel), List.mem_of_getElem? (i := 412) (by decide +kernel)⟩
theorem lw_p20 : lw_okq (⟨"ReaderYardModel", "sign", "(II)V"⟩, 36) := ⟨⟨by decide +kernel, by decide +kernel⟩, List.mem_of_getElem? (i := 257) (by decide +kernel), List.mem_of_getElem? (i := 415) (by decide +kernel), List.mem_of_getElem? (i := 416) (by decide +kernel)⟩
theorem lw_p21 : lw_okq (⟨"ReaderYardModel", "ends", "(I)V"⟩, 36) := ⟨⟨by decide +kernel, by decide +kernel⟩, List.mem_of_getElem? (i := 257) (by decide +kernel), List.mem_of_getElem? (i := 419) (by decide +kernel), List.mem_of_getElem? (i := 420) (by decide +kernel)⟩
theorem lw_p22 : lw_okq (⟨"ReaderYardModel", "takeBack", "(I)V"⟩, 36) := ⟨⟨by decide +kernel, by decide +kernel⟩, List.mem_of_getElem? (i := 257) (by decide +kernel), List.mem_of_getElem? (i := 423) (by decide +kernel), List.mem_of_getElem? (i := 424) (by decide +kernel)⟩
theorem lw_p23 : lw_okq (⟨"ReaderYardModel", "joins", "(II)V"⟩, 36) := ⟨⟨by decide +kernel, by decide +kernel⟩, List.mem_of_getElem? (i := 257) (by decide +kernel), List.mem_of_getElem? (i := 427) (by decide +kernel), List.mem_of_getElem? (i := 428) (by decide +kernel)⟩
theorem lw_p24 : lw_okq (⟨"ReaderYardModel", "keep", "(I)V"⟩, 36) := ⟨⟨by decide +kernel, by decide +kernel⟩, List.mem_of_getElem? (i := 257) (by decide +kernel), List.mem_of_getElem? (i := 431) (by decide +kernel), List.mem_of_getElem? (i := 432) (by decide +kernel)⟩
theorem lw_p25 : lw_okq (⟨"ReaderYardModel", "asks", "(II)V"⟩, 36) := ⟨⟨by decide +kernel, by decide +kernel⟩, List.mem_of_getElem? (i := 257) (by decide +kernel), List.mem_of_getElem? (i := 435) (by decide +kernel), List.mem_of_getElem? (i := 436) (by decide +kernel)⟩
theorem lw_p26 : lw_okq (⟨"ReaderYardModel", "again", "(IIZ)V"⟩, 36) := ⟨⟨by decide +kernel, by decide +kernel⟩, List.mem_of_getElem? (i := 257) (by decide +kernel), List.mem_of_getElem? (i := 439) (by decide +kernel), List.mem_of_getElem? (i := 440) (by decide +kernel)⟩
theorem lw_p27 : lw_okq (⟨"ReaderYardModel", "others", "(II)V"⟩, 36) := ⟨⟨by decide +kernel, by decide +kernel⟩, List.mem_of_getElem? (i := 257) (by decide +kernel), List.mem_of_getElem? (i := 443) (by decide +kernel), List.mem_of_getElem? (i := 444) (by decide +kernel)⟩
theorem lw_p28 : lw_okq (⟨"ReaderYardModel", "bars", "(I)V"⟩, 36) := ⟨⟨by decide +kernel, by decide +kernel⟩, List.mem_of_getElem? (i := 257) (by decide +kernel), List.mem_of_getElem? (i := 447) (by decide +kernel), List.mem_of_getElem? (i := 448) (by decide +kernel)⟩
theorem lw_p29 : lw_okq (⟨"ReaderYardModel", "lay", "(JI)V"⟩, 36) := ⟨⟨by decide +kernel, by decide +kernel⟩, List.mem_of_getElem? (i := 257) (by decide +kernel), List.mem_of_getElem? (i := 451) (by decide +kernel), List.mem_of_getElem? (i := 452) (by decide +kernel)⟩
theorem lw_p30 : lw_okq (⟨"ReaderYardModel", "figure", "(I)V"⟩, 36) := ⟨⟨by decide +kernel, by decide +kernel⟩, List.mem_of_getElem? (i := 257) (by decide +kernel), List.mem_of_getElem? (i := 455) (by decide +kernel), List.mem_of_getElem? (i := 456) (by decide +kernel)⟩
theorem lw_p31 : lw_okq (⟨"ReaderYardModel", "acts", "(II)V"⟩, 36) := ⟨⟨by decide +kernel, by decide +kernel⟩, List.mem_of_getElem? (i := 257) (by decide +kernel), List.mem_of_getElem? (i := 461) (by decide +kernel), List.mem_of_getElem? (i := 462) (by decide +kernel)⟩
def lw_privs_2 : List (MethodName × Nat) := [(⟨"ReaderYardModel", "ready", "()V"⟩, 36), (⟨"ReaderYardModel", "reads", "(II)V"⟩, 36), (⟨"ReaderYardModel", "begin", "(II)V"⟩, 36), (⟨"ReaderYardModel", "goesOn", "()V"⟩, 36), (⟨"ReaderYardModel", "sign", "(II)V"⟩, 36), (⟨"ReaderYardModel", "ends", "(I)V"⟩, 36), (⟨"ReaderYardModel", "takeBack", "(I)V"⟩, 36), (⟨"ReaderYardModel", "joins", "(II)V"⟩, 36), (⟨"ReaderYardModel", "keep", "(I)V"⟩, 36), (⟨"ReaderYardModel", "asks", "(II)V"⟩, 36), (⟨"ReaderYardModel", "again", "(IIZ)V"⟩, 36), (⟨"ReaderYardModel", "others", "(II)V"⟩, 36), (⟨"ReaderYardModel", "bars", "(I)V"⟩, 36), (⟨"ReaderYardModel", "lay", "(JI)V"⟩, 36), (⟨"ReaderYardModel", "figure", "(I)V"⟩, 36), (⟨"ReaderYardModel", "acts", "(II)V"⟩, 36)]
theorem lw_r2 : ∀ q ∈ lw_privs_2, lw_okq q := List.forall_mem_cons.mpr ⟨lw_p16, List.forall_mem_cons.mpr ⟨lw_p17, List.forall_mem_cons.mpr ⟨lw_p18, List.forall_mem_cons.mpr ⟨lw_p19, List.forall_mem_cons.mpr ⟨lw_p20, List.forall_mem_cons.mpr ⟨lw_p21, List.forall_mem_cons.mpr ⟨lw_p22, List.forall_mem_cons.mpr ⟨lw_p23, List.forall_mem_cons.mpr ⟨lw_p24, List.forall_mem_cons.mpr ⟨lw_p25, List.forall_mem_cons.mpr ⟨lw_p26, List.forall_mem_cons.mpr ⟨lw_p27, List.forall_mem_cons.mpr ⟨lw_p28, List.forall_mem_cons.mpr ⟨lw_p29, List.forall_mem_cons.mpr ⟨lw_p30, List.forall_mem_cons.mpr ⟨lw_p31, fun _ h => absurd h List.not_mem_nil⟩⟩⟩⟩⟩⟩⟩⟩⟩⟩⟩⟩⟩⟩⟩⟩
theorem lw_p32 : lw_okq (⟨"ReaderYardModel", "height", "()I"⟩, 36) := ⟨⟨by decide +kernel, by decide +kernel⟩, List.mem_of_getElem? (i := 257) (by decide +kernel), List.mem_of_getElem? (i := 465) (by decide +kernel), List.mem_of_getElem? (i := 466) (by decide +kernel)⟩
theorem lw_p33 : lw_okq (⟨"ReaderYardModel", "faulty", "()I"⟩, 36) := ⟨⟨by decide +kernel, by decide +kernel⟩, List.mem_of_getElem? (i := 257) (by decide +kernel), List.mem_of_getElem? (i := 469) (by decide +kernel), List.mem_of_getElem? (i := 470) (by decide +kernel)⟩
def lw_privs_3 : List (MethodName × Nat) := [(⟨"ReaderYardModel", "height", "()I"⟩, 36), (⟨"ReaderYardModel", "faulty", "()I"⟩, 36)]
theorem lw_r3 : ∀ q ∈ lw_privs_3, lw_okq q := List.forall_mem_cons.mpr ⟨lw_p32, List.forall_mem_cons.mpr ⟨lw_p33, fun _ h => absurd h List.not_mem_nil⟩⟩
def lw_privs : List (MethodName × Nat) := lw_privs_1 ++ (lw_privs_2 ++ (lw_privs_3))
def lw_tbl : List Cond := k2_sels lw_privs ++ tables_1
theorem lw_privs_ok : ∀ q ∈ lw_privs, lw_okq q := by
  show ∀ q ∈ lw_privs_1 ++ (lw_privs_2 ++ (lw_privs_3)), lw_okq q
  exact List.forall_mem_append.mpr ⟨lw_r1, List.forall_mem_append.mpr ⟨lw_r2, lw_r3⟩⟩
-- ===== end of PART A; then your names; then what follows =====
end
section
/-! ===== BEGIN words of one list among another's, by their places ===== -/
theorem goodIn_r {big : List Cond} (ws : List Cond) (ps : List Nat) (hp : ws = ps.filterMap (fun i => big[i]?)) (h : ws.all goodWord = true) : GoodIn big ws := by
  intro w hw
  have h1 := List.all_eq_true.mp h w hw
  rw [hp] at hw
  obtain ⟨i, -, hi⟩ := List.mem_filterMap.mp hw
  have hm : w ∈ big := by first | exact List.mem_of_getElem? hi | exact List.getElem?_mem hi
  exact ⟨hm, good_of_word h1⟩
theorem goodIn_app {big a b : List Cond} (ha : GoodIn big a) (hb : GoodIn big b) : GoodIn big (a ++ b) := fun w h => (List.mem_append.mp h).elim (ha w) (hb w)
theorem goodIn_ca {big a b : List Cond} {c : Cond} (ha : GoodIn big (c :: a)) (hb : GoodIn big b) : GoodIn big (c :: (a ++ b)) := fun w h => (List.mem_cons.mp h).elim (fun e => ha w (List.mem_cons.mpr (Or.inl e))) (fun h => (List.mem_append.mp h).elim (fun h => ha w (List.mem_cons.mpr (Or.inr h))) (hb w))
theorem goodIn_sub {big ws : List Cond} (hm : ∀ w ∈ ws, w ∈ big) (h : ws.all goodWord = true) : GoodIn big ws := fun w hw => ⟨hm w hw, good_of_word (List.all_eq_true.mp h w hw)⟩
/-! ===== END ===== -/

/-! ===== BEGIN printed: names, fields, word lists, decode rows ===== -/
def RX0 : String := "ReaderYard$Marks"
def TX0 : u_T := fun k => match k with
  | 0 => ("ReaderYard$Marks", "labels", "[I", true)
  | 1 => ("ReaderYard$Marks", "froms", "[I", true)
  | 2 => ("ReaderYard$Marks", "tos", "[I", true)
  | _ => ("ReaderYard$Marks", "size", "I", false)
def tyX0 : Nat → FieldType := fun k => match k with
  | 0 => .array .int
  | 1 => .array .int
  | 2 => .array .int
  | _ => .int
abbrev wsX00 : List Cond := u_ws RX0 TX0 4
theorem nmX0 : ∀ a, a < 4 → ∀ b, b < 4 → a ≠ b → (TX0 a).2.1 ≠ (TX0 b).2.1 := by decide +kernel
theorem tyX0_ok : ∀ k, k < 4 → parseFieldDescriptor (TX0 k).2.2.1 = some (tyX0 k) := by decide +kernel
abbrev cX0_init : ByteArray := prog_2_method_1_code
def yX0_init : MethodName := ⟨RX0, "<init>", "()V"⟩
abbrev cX0_add : ByteArray := prog_2_method_2_code
def yX0_add : MethodName := ⟨RX0, "add", "(III)V"⟩
def RX1 : String := "ReaderYard$Pile"
def TX1 : u_T := fun k => match k with
  | 0 => ("ReaderYard$Pile", "values", "[J", true)
  | 1 => ("ReaderYard$Pile", "belows", "[I", true)
  | 2 => ("ReaderYard$Pile", "heights", "[I", true)
  | 3 => ("ReaderYard$Pile", "used", "I", false)
  | _ => ("ReaderYard$Pile", "top", "I", false)
def tyX1 : Nat → FieldType := fun k => match k with
  | 0 => .array .long
  | 1 => .array .int
  | 2 => .array .int
  | 3 => .int
  | _ => .int
abbrev wsX10 : List Cond := u_ws RX1 TX1 5
theorem nmX1 : ∀ a, a < 5 → ∀ b, b < 5 → a ≠ b → (TX1 a).2.1 ≠ (TX1 b).2.1 := by decide +kernel
theorem tyX1_ok : ∀ k, k < 5 → parseFieldDescriptor (TX1 k).2.2.1 = some (tyX1 k) := by decide +kernel
abbrev cX1_init : ByteArray := prog_3_method_1_code
def yX1_init : MethodName := ⟨RX1, "<init>", "()V"⟩
abbrev cX1_makeEmpty : ByteArray := prog_3_method_2_code
def yX1_makeEmpty : MethodName := ⟨RX1, "makeEmpty", "()V"⟩
abbrev cX1_height : ByteArray := prog_3_method_3_code
def yX1_height : MethodName := ⟨RX1, "height", "()I"⟩
abbrev cX1_numberUnder : ByteArray := prog_3_method_4_code
def yX1_numberUnder : MethodName := ⟨RX1, "numberUnder", "(I)J"⟩
abbrev cX1_lay : ByteArray := prog_3_method_5_code
def yX1_lay : MethodName := ⟨RX1, "lay", "(JI)V"⟩
abbrev cX1_slotUnder : ByteArray := prog_3_method_6_code
def yX1_slotUnder : MethodName := ⟨RX1, "slotUnder", "(I)I"⟩
def RX2 : String := "ReaderYard"
def TX2 : u_T := fun k => match k with
  | 0 => ("ReaderYard", "signs", "[B", true)
  | 1 => ("ReaderYard", "signCount", "I", false)
  | 2 => ("ReaderYard", "sorts", "[I", true)
  | 3 => ("ReaderYard", "firsts", "[I", true)
  | 4 => ("ReaderYard", "seconds", "[I", true)
  | 5 => ("ReaderYard", "begun", "[I", true)
  | 6 => ("ReaderYard", "readerCount", "I", false)
  | 7 => ("ReaderYard", "names", "[I", true)
  | 8 => ("ReaderYard", "barred", "[Z", true)
  | 9 => ("ReaderYard", "numbers", "LReaderYard$Pile;", true)
  | 10 => ("ReaderYard", "marks", "LReaderYard$Marks;", true)
  | 11 => ("ReaderYard", "steps", "I", false)
  | 12 => ("ReaderYard", "deepest", "I", false)
  | 13 => ("ReaderYard", "stepsEver", "I", false)
  | 14 => ("ReaderYard", "faultedCalls", "I", false)
  | _ => ("ReaderYard", "latestFault", "I", false)
def tyX2 : Nat → FieldType := fun k => match k with
  | 0 => .array .byte
  | 1 => .int
  | 2 => .array .int
  | 3 => .array .int
  | 4 => .array .int
  | 5 => .array .int
  | 6 => .int
  | 7 => .array .int
  | 8 => .array .boolean
  | 9 => .object "ReaderYard$Pile"
  | 10 => .object "ReaderYard$Marks"
  | 11 => .int
  | 12 => .int
  | 13 => .int
  | 14 => .int
  | _ => .int
abbrev wsX20 : List Cond := u_ws RX2 TX2 16
theorem nmX2 : ∀ a, a < 16 → ∀ b, b < 16 → a ≠ b → (TX2 a).2.1 ≠ (TX2 b).2.1 := by decide +kernel
theorem tyX2_ok : ∀ k, k < 16 → parseFieldDescriptor (TX2 k).2.2.1 = some (tyX2 k) := by decide +kernel
abbrev cX2_init : ByteArray := prog_1_method_1_code
def yX2_init : MethodName := ⟨RX2, "<init>", "()V"⟩
abbrev cX2_text : ByteArray := prog_1_method_2_code
def yX2_text : MethodName := ⟨RX2, "text", "(IJ)I"⟩
abbrev cX2_clear : ByteArray := prog_1_method_3_code
def yX2_clear : MethodName := ⟨RX2, "clear", "()I"⟩
abbrev cX2_reader : ByteArray := prog_1_method_4_code
def yX2_reader : MethodName := ⟨RX2, "reader", "(III)I"⟩
abbrev cX2_name : ByteArray := prog_1_method_5_code
def yX2_name : MethodName := ⟨RX2, "name", "(II)I"⟩
abbrev cX2_read : ByteArray := prog_1_method_6_code
def yX2_read : MethodName := ⟨RX2, "read", "(II)I"⟩
abbrev cX2_all : ByteArray := prog_1_method_7_code
def yX2_all : MethodName := ⟨RX2, "all", "(I)I"⟩
abbrev cX2_pile : ByteArray := prog_1_method_8_code
def yX2_pile : MethodName := ⟨RX2, "pile", "(I)J"⟩
abbrev cX2_mark : ByteArray := prog_1_method_9_code
def yX2_mark : MethodName := ⟨RX2, "mark", "(II)I"⟩
abbrev cX2_count : ByteArray := prog_1_method_10_code
def yX2_count : MethodName := ⟨RX2, "count", "(I)I"⟩
abbrev cX2_began : ByteArray := prog_1_method_11_code
def yX2_began : MethodName := ⟨RX2, "began", "(I)I"⟩
abbrev cX2_isReader : ByteArray := prog_1_method_12_code
def yX2_isReader : MethodName := ⟨RX2, "isReader", "(I)Z"⟩
abbrev cX2_isName : ByteArray := prog_1_method_13_code
def yX2_isName : MethodName := ⟨RX2, "isName", "(I)Z"⟩
abbrev cX2_fitsFirst : ByteArray := prog_1_method_14_code
def yX2_fitsFirst : MethodName := ⟨RX2, "fitsFirst", "(II)Z"⟩
abbrev cX2_fitsSecond : ByteArray := prog_1_method_15_code
def yX2_fitsSecond : MethodName := ⟨RX2, "fitsSecond", "(II)Z"⟩
abbrev cX2_addReader : ByteArray := prog_1_method_16_code
def yX2_addReader : MethodName := ⟨RX2, "addReader", "(III)I"⟩
abbrev cX2_startCall : ByteArray := prog_1_method_17_code
def yX2_startCall : MethodName := ⟨RX2, "startCall", "()V"⟩
abbrev cX2_faultAnswer : ByteArray := prog_1_method_18_code
def yX2_faultAnswer : MethodName := ⟨RX2, "faultAnswer", "(I)I"⟩
abbrev cX2_isFault : ByteArray := prog_1_method_19_code
def yX2_isFault : MethodName := ⟨RX2, "isFault", "(I)Z"⟩
abbrev cX2_noteFault : ByteArray := prog_1_method_20_code
def yX2_noteFault : MethodName := ⟨RX2, "noteFault", "(I)V"⟩
abbrev cX2_takeBack : ByteArray := prog_1_method_21_code
def yX2_takeBack : MethodName := ⟨RX2, "takeBack", "(II)V"⟩
abbrev cX2_follow : ByteArray := prog_1_method_22_code
def yX2_follow : MethodName := ⟨RX2, "follow", "(IIII)I"⟩
abbrev cX2_begin : ByteArray := prog_1_method_23_code
def yX2_begin : MethodName := ⟨RX2, "begin", "(II)I"⟩
abbrev cX2_turn : ByteArray := prog_1_method_24_code
def yX2_turn : MethodName := ⟨RX2, "turn", "(IIIII)I"⟩
abbrev cX2_readAlone : ByteArray := prog_1_method_25_code
def yX2_readAlone : MethodName := ⟨RX2, "readAlone", "(III)I"⟩
abbrev cX2_passSign : ByteArray := prog_1_method_26_code
def yX2_passSign : MethodName := ⟨RX2, "passSign", "(III)I"⟩
abbrev cX2_readFigure : ByteArray := prog_1_method_27_code
def yX2_readFigure : MethodName := ⟨RX2, "readFigure", "(I)I"⟩
abbrev cX2_act : ByteArray := prog_1_method_28_code
def yX2_act : MethodName := ⟨RX2, "act", "(II)I"⟩
abbrev cX2_reckon : ByteArray := prog_1_method_29_code
def yX2_reckon : MethodName := ⟨RX2, "reckon", "(IJJ)J"⟩
def RX3 : String := "ReaderYardModel"
def TX3 : u_T := fun k => match k with
  | 0 => ("ReaderYardModel", "signs", "[I", true)
  | 1 => ("ReaderYardModel", "length", "I", false)
  | 2 => ("ReaderYardModel", "many", "I", false)
  | 3 => ("ReaderYardModel", "sorts", "[I", true)
  | 4 => ("ReaderYardModel", "as", "[I", true)
  | 5 => ("ReaderYardModel", "bs", "[I", true)
  | 6 => ("ReaderYardModel", "begins", "[I", true)
  | 7 => ("ReaderYardModel", "names", "[I", true)
  | 8 => ("ReaderYardModel", "laid", "[J", true)
  | 9 => ("ReaderYardModel", "below", "[I", true)
  | 10 => ("ReaderYardModel", "tall", "[I", true)
  | 11 => ("ReaderYardModel", "chain", "I", false)
  | 12 => ("ReaderYardModel", "onTop", "I", false)
  | 13 => ("ReaderYardModel", "marks", "I", false)
  | 14 => ("ReaderYardModel", "markOf", "[I", true)
  | 15 => ("ReaderYardModel", "markFrom", "[I", true)
  | 16 => ("ReaderYardModel", "markTo", "[I", true)
  | 17 => ("ReaderYardModel", "deep", "I", false)
  | 18 => ("ReaderYardModel", "reader", "[I", true)
  | 19 => ("ReaderYardModel", "phase", "[I", true)
  | 20 => ("ReaderYardModel", "start", "[I", true)
  | 21 => ("ReaderYardModel", "came", "[I", true)
  | 22 => ("ReaderYardModel", "barred", "[Z", true)
  | 23 => ("ReaderYardModel", "keptTop", "[I", true)
  | 24 => ("ReaderYardModel", "keptChain", "[I", true)
  | 25 => ("ReaderYardModel", "keptMarks", "[I", true)
  | 26 => ("ReaderYardModel", "laterTop", "[I", true)
  | 27 => ("ReaderYardModel", "laterChain", "[I", true)
  | 28 => ("ReaderYardModel", "laterMarks", "[I", true)
  | 29 => ("ReaderYardModel", "result", "I", false)
  | 30 => ("ReaderYardModel", "fault", "I", false)
  | 31 => ("ReaderYardModel", "steps", "I", false)
  | 32 => ("ReaderYardModel", "allSteps", "I", false)
  | 33 => ("ReaderYardModel", "deepest", "I", false)
  | 34 => ("ReaderYardModel", "faults", "I", false)
  | _ => ("ReaderYardModel", "lastFault", "I", false)
def tyX3 : Nat → FieldType := fun k => match k with
  | 0 => .array .int
  | 1 => .int
  | 2 => .int
  | 3 => .array .int
  | 4 => .array .int
  | 5 => .array .int
  | 6 => .array .int
  | 7 => .array .int
  | 8 => .array .long
  | 9 => .array .int
  | 10 => .array .int
  | 11 => .int
  | 12 => .int
  | 13 => .int
  | 14 => .array .int
  | 15 => .array .int
  | 16 => .array .int
  | 17 => .int
  | 18 => .array .int
  | 19 => .array .int
  | 20 => .array .int
  | 21 => .array .int
  | 22 => .array .boolean
  | 23 => .array .int
  | 24 => .array .int
  | 25 => .array .int
  | 26 => .array .int
  | 27 => .array .int
  | 28 => .array .int
  | 29 => .int
  | 30 => .int
  | 31 => .int
  | 32 => .int
  | 33 => .int
  | 34 => .int
  | _ => .int
abbrev wsX30 : List Cond := u_ws RX3 TX3 36
theorem nmX3 : ∀ a, a < 36 → ∀ b, b < 36 → a ≠ b → (TX3 a).2.1 ≠ (TX3 b).2.1 := by decide +kernel
theorem tyX3_ok : ∀ k, k < 36 → parseFieldDescriptor (TX3 k).2.2.1 = some (tyX3 k) := by decide +kernel
abbrev cX3_init : ByteArray := prog_5_method_1_code
def yX3_init : MethodName := ⟨RX3, "<init>", "()V"⟩
abbrev cX3_in : ByteArray := prog_5_method_3_code
def yX3_in : MethodName := ⟨RX3, "in", "(III)Z"⟩
abbrev cX3_isReader : ByteArray := prog_5_method_4_code
def yX3_isReader : MethodName := ⟨RX3, "isReader", "(I)Z"⟩
abbrev cX3_text : ByteArray := prog_5_method_5_code
def yX3_text : MethodName := ⟨RX3, "text", "(IJ)I"⟩
abbrev cX3_clear : ByteArray := prog_5_method_6_code
def yX3_clear : MethodName := ⟨RX3, "clear", "()I"⟩
abbrev cX3_reader : ByteArray := prog_5_method_7_code
def yX3_reader : MethodName := ⟨RX3, "reader", "(III)I"⟩
abbrev cX3_name : ByteArray := prog_5_method_8_code
def yX3_name : MethodName := ⟨RX3, "name", "(II)I"⟩
abbrev cX3_begin : ByteArray := prog_5_method_9_code
def yX3_begin : MethodName := ⟨RX3, "begin", "(II)V"⟩
abbrev cX3_asks : ByteArray := prog_5_method_10_code
def yX3_asks : MethodName := ⟨RX3, "asks", "(II)V"⟩
abbrev cX3_takeBack : ByteArray := prog_5_method_11_code
def yX3_takeBack : MethodName := ⟨RX3, "takeBack", "(I)V"⟩
abbrev cX3_keep : ByteArray := prog_5_method_12_code
def yX3_keep : MethodName := ⟨RX3, "keep", "(I)V"⟩
abbrev cX3_ends : ByteArray := prog_5_method_13_code
def yX3_ends : MethodName := ⟨RX3, "ends", "(I)V"⟩
abbrev cX3_lay : ByteArray := prog_5_method_14_code
def yX3_lay : MethodName := ⟨RX3, "lay", "(JI)V"⟩
abbrev cX3_height : ByteArray := prog_5_method_15_code
def yX3_height : MethodName := ⟨RX3, "height", "()I"⟩
abbrev cX3_goesOn : ByteArray := prog_5_method_16_code
def yX3_goesOn : MethodName := ⟨RX3, "goesOn", "()V"⟩
abbrev cX3_sign : ByteArray := prog_5_method_17_code
def yX3_sign : MethodName := ⟨RX3, "sign", "(II)V"⟩
abbrev cX3_joins : ByteArray := prog_5_method_18_code
def yX3_joins : MethodName := ⟨RX3, "joins", "(II)V"⟩
abbrev cX3_again : ByteArray := prog_5_method_19_code
def yX3_again : MethodName := ⟨RX3, "again", "(IIZ)V"⟩
abbrev cX3_others : ByteArray := prog_5_method_20_code
def yX3_others : MethodName := ⟨RX3, "others", "(II)V"⟩
abbrev cX3_bars : ByteArray := prog_5_method_21_code
def yX3_bars : MethodName := ⟨RX3, "bars", "(I)V"⟩
abbrev cX3_figure : ByteArray := prog_5_method_22_code
def yX3_figure : MethodName := ⟨RX3, "figure", "(I)V"⟩
abbrev cX3_acts : ByteArray := prog_5_method_23_code
def yX3_acts : MethodName := ⟨RX3, "acts", "(II)V"⟩
abbrev cX3_ready : ByteArray := prog_5_method_24_code
def yX3_ready : MethodName := ⟨RX3, "ready", "()V"⟩
abbrev cX3_reads : ByteArray := prog_5_method_25_code
def yX3_reads : MethodName := ⟨RX3, "reads", "(II)V"⟩
abbrev cX3_faulty : ByteArray := prog_5_method_26_code
def yX3_faulty : MethodName := ⟨RX3, "faulty", "()I"⟩
abbrev cX3_read : ByteArray := prog_5_method_27_code
def yX3_read : MethodName := ⟨RX3, "read", "(II)I"⟩
abbrev cX3_all : ByteArray := prog_5_method_28_code
def yX3_all : MethodName := ⟨RX3, "all", "(I)I"⟩
abbrev cX3_pile : ByteArray := prog_5_method_29_code
def yX3_pile : MethodName := ⟨RX3, "pile", "(I)J"⟩
abbrev cX3_mark : ByteArray := prog_5_method_30_code
def yX3_mark : MethodName := ⟨RX3, "mark", "(II)I"⟩
abbrev cX3_count : ByteArray := prog_5_method_31_code
def yX3_count : MethodName := ⟨RX3, "count", "(I)I"⟩
abbrev cX3_began : ByteArray := prog_5_method_32_code
def yX3_began : MethodName := ⟨RX3, "began", "(I)I"⟩
def RJ9 : String := "java/lang/Math"
def TJ9 : u_T := fun k => match k with
  | _ => ("", "", "", false)
def tyJ9 : Nat → FieldType := fun k => match k with
  | _ => .int
abbrev wsJ90 : List Cond := u_ws RJ9 TJ9 0
theorem nmJ9 : ∀ a, a < 0 → ∀ b, b < 0 → a ≠ b → (TJ9 a).2.1 ≠ (TJ9 b).2.1 := by decide +kernel
theorem tyJ9_ok : ∀ k, k < 0 → parseFieldDescriptor (TJ9 k).2.2.1 = some (tyJ9 k) := by decide +kernel
abbrev cJ9_max_7cf53 : ByteArray := prog_6_method_65_code
def yJ9_max_7cf53 : MethodName := ⟨RJ9, "max", "(II)I"⟩
def RJ7 : String := "java/util/Arrays"
def TJ7 : u_T := fun k => match k with
  | _ => ("", "", "", false)
def tyJ7 : Nat → FieldType := fun k => match k with
  | _ => .int
abbrev wsJ70 : List Cond := u_ws RJ7 TJ7 0
theorem nmJ7 : ∀ a, a < 0 → ∀ b, b < 0 → a ≠ b → (TJ7 a).2.1 ≠ (TJ7 b).2.1 := by decide +kernel
theorem tyJ7_ok : ∀ k, k < 0 → parseFieldDescriptor (TJ7 k).2.2.1 = some (tyJ7 k) := by decide +kernel
abbrev cJ7_fill_53178 : ByteArray := prog_7_method_103_code
def yJ7_fill_53178 : MethodName := ⟨RJ7, "fill", "([II)V"⟩
def RL : String := "ReaderYardLaw"
abbrev cL_law : ByteArray := code
def yL_law : MethodName := ⟨RL, "law", "([I)Z"⟩
def wsX0_init : List Cond := .code yX0_init cX0_init 1 none :: ([.methodLink RX0 3 objectInit, .instanceMethod objectInit, .code objectInit ⟨#[0xb1]⟩ 1 none, .arrayClass .int, .fieldLink RX0 9 "ReaderYard$Marks" "labels" "[I", .fieldLink RX0 15 "ReaderYard$Marks" "froms" "[I", .fieldLink RX0 18 "ReaderYard$Marks" "tos" "[I"] ++ wsX00)
def wsX0_add : List Cond := .code yX0_add cX0_add 4 none :: ([.fieldLink RX0 21 "ReaderYard$Marks" "size" "I", .fieldLink RX0 9 "ReaderYard$Marks" "labels" "[I", .fieldLink RX0 15 "ReaderYard$Marks" "froms" "[I", .fieldLink RX0 18 "ReaderYard$Marks" "tos" "[I"] ++ wsX00)
def wsX1_init : List Cond := .code yX1_init cX1_init 1 none :: ([.methodLink RX1 3 objectInit, .instanceMethod objectInit, .code objectInit ⟨#[0xb1]⟩ 1 none, .arrayClass .long, .fieldLink RX1 9 "ReaderYard$Pile" "values" "[J", .arrayClass .int, .fieldLink RX1 15 "ReaderYard$Pile" "belows" "[I", .fieldLink RX1 19 "ReaderYard$Pile" "heights" "[I"] ++ wsX10)
def wsX1_makeEmpty : List Cond := .code yX1_makeEmpty cX1_makeEmpty 1 none :: ([.fieldLink RX1 22 "ReaderYard$Pile" "used" "I", .fieldLink RX1 26 "ReaderYard$Pile" "top" "I"] ++ wsX10)
def wsX1_height : List Cond := .code yX1_height cX1_height 1 (some .int) :: ([.fieldLink RX1 19 "ReaderYard$Pile" "heights" "[I", .fieldLink RX1 26 "ReaderYard$Pile" "top" "I"] ++ wsX10)
def wsX1_slotUnder : List Cond := .code yX1_slotUnder cX1_slotUnder 4 (some .int) :: ([.fieldLink RX1 26 "ReaderYard$Pile" "top" "I", .fieldLink RX1 15 "ReaderYard$Pile" "belows" "[I"] ++ wsX10)
def wsX1_numberUnder : List Cond := .code yX1_numberUnder cX1_numberUnder 2 (some .long) :: ([.fieldLink RX1 9 "ReaderYard$Pile" "values" "[J", .methodLink RX1 29 yX1_height, .instanceMethod yX1_height, .selects RX1 yX1_height yX1_height, .initialized RX1, .code yX1_height cX1_height 1 (some .int), .fieldLink RX1 19 "ReaderYard$Pile" "heights" "[I", .fieldLink RX1 26 "ReaderYard$Pile" "top" "I", .methodLink RX1 33 yX1_slotUnder, .instanceMethod yX1_slotUnder, .selects RX1 yX1_slotUnder yX1_slotUnder, .code yX1_slotUnder cX1_slotUnder 4 (some .int), .fieldLink RX1 15 "ReaderYard$Pile" "belows" "[I"] ++ wsX10)
def wsX1_lay : List Cond := .code yX1_lay cX1_lay 5 none :: ([.fieldLink RX1 22 "ReaderYard$Pile" "used" "I", .fieldLink RX1 9 "ReaderYard$Pile" "values" "[J", .fieldLink RX1 15 "ReaderYard$Pile" "belows" "[I", .fieldLink RX1 19 "ReaderYard$Pile" "heights" "[I", .fieldLink RX1 26 "ReaderYard$Pile" "top" "I", .methodLink RX1 33 yX1_slotUnder, .instanceMethod yX1_slotUnder, .selects RX1 yX1_slotUnder yX1_slotUnder, .initialized RX1, .code yX1_slotUnder cX1_slotUnder 4 (some .int)] ++ wsX10)
def wsJ7_fill_53178 : List Cond := .code yJ7_fill_53178 cJ7_fill_53178 4 none :: ([])
def wsX2_addReader : List Cond := .code yX2_addReader cX2_addReader 5 (some .int) :: ([.fieldLink RX2 70 "ReaderYard" "readerCount" "I", .fieldLink RX2 13 "ReaderYard" "sorts" "[I", .fieldLink RX2 17 "ReaderYard" "firsts" "[I", .fieldLink RX2 20 "ReaderYard" "seconds" "[I"] ++ wsX20)
def wsX2_init_r1 : List Cond := [Cond.methodLink RX2 1 objectInit, Cond.instanceMethod objectInit, Cond.code objectInit ⟨#[0xb1]⟩ 1 none, Cond.arrayClass .byte, Cond.fieldLink RX2 9 "ReaderYard" "signs" "[B", Cond.arrayClass .int, Cond.fieldLink RX2 13 "ReaderYard" "sorts" "[I", Cond.fieldLink RX2 17 "ReaderYard" "firsts" "[I", Cond.fieldLink RX2 20 "ReaderYard" "seconds" "[I", Cond.fieldLink RX2 23 "ReaderYard" "begun" "[I", Cond.fieldLink RX2 26 "ReaderYard" "names" "[I", Cond.arrayClass .boolean, Cond.fieldLink RX2 29 "ReaderYard" "barred" "[Z", Cond.classLink RX2 33 RX1, Cond.instantiable RX1 5, Cond.initialized RX1, Cond.fieldLink RX2 36 "ReaderYard" "numbers" "LReaderYard$Pile;", Cond.classLink RX2 40 RX0, Cond.instantiable RX0 4, Cond.initialized RX0, Cond.fieldLink RX2 43 "ReaderYard" "marks" "LReaderYard$Marks;", Cond.instanceMethod yX1_init, Cond.code yX1_init cX1_init 1 none, Cond.methodLink RX1 3 objectInit]
def wsX2_init_r2 : List Cond := [Cond.arrayClass .long, Cond.fieldLink RX1 9 "ReaderYard$Pile" "values" "[J", Cond.fieldLink RX1 15 "ReaderYard$Pile" "belows" "[I", Cond.fieldLink RX1 19 "ReaderYard$Pile" "heights" "[I", Cond.instanceMethod yX0_init, Cond.code yX0_init cX0_init 1 none, Cond.methodLink RX0 3 objectInit, Cond.fieldLink RX0 9 "ReaderYard$Marks" "labels" "[I", Cond.fieldLink RX0 15 "ReaderYard$Marks" "froms" "[I", Cond.fieldLink RX0 18 "ReaderYard$Marks" "tos" "[I", Cond.methodLink RX2 47 yJ7_fill_53178, Cond.static yJ7_fill_53178, Cond.initialized RJ7, Cond.code yJ7_fill_53178 cJ7_fill_53178 4 none, Cond.methodLink RX2 53 yX2_addReader, Cond.instanceMethod yX2_addReader, Cond.selects RX2 yX2_addReader yX2_addReader, Cond.initialized RX2, Cond.code yX2_addReader cX2_addReader 5 (some .int), Cond.fieldLink RX2 70 "ReaderYard" "readerCount" "I"]
def wsX2_init : List Cond := .code yX2_init cX2_init 1 none :: ((wsX2_init_r1 ++ wsX2_init_r2) ++ wsX20 ++ wsX10 ++ wsX00)
def wsX2_text : List Cond := .code yX2_text cX2_text 5 (some .int) :: ([.fieldLink RX2 57 "ReaderYard" "signCount" "I", .fieldLink RX2 9 "ReaderYard" "signs" "[B", .constantLong RX2 61 (127)] ++ wsX20)
def wsX2_clear : List Cond := .code yX2_clear cX2_clear 2 (some .int) :: ([.fieldLink RX2 57 "ReaderYard" "signCount" "I"] ++ wsX20)
def wsX2_isReader : List Cond := .code yX2_isReader cX2_isReader 2 (some .boolean) :: ([.fieldLink RX2 70 "ReaderYard" "readerCount" "I"] ++ wsX20)
def wsX2_isName : List Cond := .code yX2_isName cX2_isName 1 (some .boolean) :: ([])
def wsX2_fitsFirst : List Cond := .code yX2_fitsFirst cX2_fitsFirst 3 (some .boolean) :: ([.methodLink RX2 77 yX2_isReader, .instanceMethod yX2_isReader, .selects RX2 yX2_isReader yX2_isReader, .initialized RX2, .code yX2_isReader cX2_isReader 2 (some .boolean), .fieldLink RX2 70 "ReaderYard" "readerCount" "I", .methodLink RX2 73 yX2_isName, .static yX2_isName, .code yX2_isName cX2_isName 1 (some .boolean)] ++ wsX20)
def wsX2_fitsSecond : List Cond := .code yX2_fitsSecond cX2_fitsSecond 3 (some .boolean) :: ([.methodLink RX2 77 yX2_isReader, .instanceMethod yX2_isReader, .selects RX2 yX2_isReader yX2_isReader, .initialized RX2, .code yX2_isReader cX2_isReader 2 (some .boolean), .fieldLink RX2 70 "ReaderYard" "readerCount" "I"] ++ wsX20)
def wsX2_reader : List Cond := .code yX2_reader cX2_reader 4 (some .int) :: ([.fieldLink RX2 70 "ReaderYard" "readerCount" "I", .methodLink RX2 63 yX2_fitsFirst, .instanceMethod yX2_fitsFirst, .selects RX2 yX2_fitsFirst yX2_fitsFirst, .initialized RX2, .code yX2_fitsFirst cX2_fitsFirst 3 (some .boolean), .methodLink RX2 77 yX2_isReader, .instanceMethod yX2_isReader, .selects RX2 yX2_isReader yX2_isReader, .code yX2_isReader cX2_isReader 2 (some .boolean), .methodLink RX2 73 yX2_isName, .static yX2_isName, .code yX2_isName cX2_isName 1 (some .boolean), .methodLink RX2 67 yX2_fitsSecond, .instanceMethod yX2_fitsSecond, .selects RX2 yX2_fitsSecond yX2_fitsSecond, .code yX2_fitsSecond cX2_fitsSecond 3 (some .boolean), .methodLink RX2 53 yX2_addReader, .instanceMethod yX2_addReader, .selects RX2 yX2_addReader yX2_addReader, .code yX2_addReader cX2_addReader 5 (some .int), .fieldLink RX2 13 "ReaderYard" "sorts" "[I", .fieldLink RX2 17 "ReaderYard" "firsts" "[I", .fieldLink RX2 20 "ReaderYard" "seconds" "[I"] ++ wsX20)
def wsX2_name : List Cond := .code yX2_name cX2_name 4 (some .int) :: ([.fieldLink RX2 26 "ReaderYard" "names" "[I", .methodLink RX2 73 yX2_isName, .static yX2_isName, .initialized RX2, .code yX2_isName cX2_isName 1 (some .boolean), .methodLink RX2 77 yX2_isReader, .instanceMethod yX2_isReader, .selects RX2 yX2_isReader yX2_isReader, .code yX2_isReader cX2_isReader 2 (some .boolean), .fieldLink RX2 70 "ReaderYard" "readerCount" "I"] ++ wsX20)
def wsX2_startCall : List Cond := .code yX2_startCall cX2_startCall 1 none :: ([.fieldLink RX2 36 "ReaderYard" "numbers" "LReaderYard$Pile;", .fieldLink RX2 43 "ReaderYard" "marks" "LReaderYard$Marks;", .fieldLink RX2 97 "ReaderYard$Marks" "size" "I", .fieldLink RX2 121 "ReaderYard" "steps" "I", .fieldLink RX2 124 "ReaderYard" "deepest" "I", .methodLink RX2 136 yX1_makeEmpty, .instanceMethod yX1_makeEmpty, .selects RX1 yX1_makeEmpty yX1_makeEmpty, .initialized RX1, .code yX1_makeEmpty cX1_makeEmpty 1 none, .fieldLink RX1 22 "ReaderYard$Pile" "used" "I", .fieldLink RX1 26 "ReaderYard$Pile" "top" "I"] ++ wsX20 ++ wsX00 ++ wsX10)
def wsX2_faultAnswer : List Cond := .code yX2_faultAnswer cX2_faultAnswer 1 (some .int) :: ([])
def wsX2_begin : List Cond := .code yX2_begin cX2_begin 3 (some .int) :: ([.fieldLink RX2 121 "ReaderYard" "steps" "I", .fieldLink RX2 127 "ReaderYard" "stepsEver" "I", .fieldLink RX2 23 "ReaderYard" "begun" "[I", .fieldLink RX2 124 "ReaderYard" "deepest" "I", .methodLink RX2 154 Lib.Math.max.name, .static Lib.Math.max.name, .initialized "java/lang/Math", .code Lib.Math.max.name Lib.Math.max.code 2 (some .int), .methodLink RX2 143 yX2_faultAnswer, .static yX2_faultAnswer, .initialized RX2, .code yX2_faultAnswer cX2_faultAnswer 1 (some .int)] ++ wsX20)
def wsX2_isFault : List Cond := .code yX2_isFault cX2_isFault 1 (some .boolean) :: ([])
def wsX2_takeBack : List Cond := .code yX2_takeBack cX2_takeBack 3 none :: ([.fieldLink RX2 36 "ReaderYard" "numbers" "LReaderYard$Pile;", .fieldLink RX2 94 "ReaderYard$Pile" "top" "I", .fieldLink RX2 43 "ReaderYard" "marks" "LReaderYard$Marks;", .fieldLink RX2 97 "ReaderYard$Marks" "size" "I"] ++ wsX20 ++ wsX10 ++ wsX00)
def wsX2_turn : List Cond := .code yX2_turn cX2_turn 6 (some .int) :: ([.fieldLink RX2 13 "ReaderYard" "sorts" "[I", .fieldLink RX2 43 "ReaderYard" "marks" "LReaderYard$Marks;", .fieldLink RX2 20 "ReaderYard" "seconds" "[I", .methodLink RX2 87 yX2_isFault, .static yX2_isFault, .initialized RX2, .code yX2_isFault cX2_isFault 1 (some .boolean), .methodLink RX2 100 yX2_takeBack, .instanceMethod yX2_takeBack, .selects RX2 yX2_takeBack yX2_takeBack, .code yX2_takeBack cX2_takeBack 3 none, .fieldLink RX2 36 "ReaderYard" "numbers" "LReaderYard$Pile;", .fieldLink RX2 94 "ReaderYard$Pile" "top" "I", .fieldLink RX2 97 "ReaderYard$Marks" "size" "I", .methodLink RX2 159 yX0_add, .instanceMethod yX0_add, .selects RX0 yX0_add yX0_add, .initialized RX0, .code yX0_add cX0_add 4 none, .fieldLink RX0 21 "ReaderYard$Marks" "size" "I", .fieldLink RX0 9 "ReaderYard$Marks" "labels" "[I", .fieldLink RX0 15 "ReaderYard$Marks" "froms" "[I", .fieldLink RX0 18 "ReaderYard$Marks" "tos" "[I"] ++ wsX20 ++ wsX10 ++ wsX00)
def wsX2_passSign : List Cond := .code yX2_passSign cX2_passSign 5 (some .int) :: ([.fieldLink RX2 57 "ReaderYard" "signCount" "I", .fieldLink RX2 9 "ReaderYard" "signs" "[B"] ++ wsX20)
def wsX2_readFigure_r1 : List Cond := [Cond.fieldLink RX2 36 "ReaderYard" "numbers" "LReaderYard$Pile;", Cond.constantLong RX2 176 (10), Cond.fieldLink RX2 9 "ReaderYard" "signs" "[B", Cond.constantLong RX2 178 (48), Cond.methodLink RX2 163 yX2_passSign, Cond.instanceMethod yX2_passSign, Cond.selects RX2 yX2_passSign yX2_passSign, Cond.initialized RX2, Cond.code yX2_passSign cX2_passSign 5 (some .int), Cond.fieldLink RX2 57 "ReaderYard" "signCount" "I", Cond.methodLink RX2 117 yX1_height, Cond.instanceMethod yX1_height, Cond.selects RX1 yX1_height yX1_height, Cond.initialized RX1, Cond.code yX1_height cX1_height 1 (some .int), Cond.fieldLink RX1 19 "ReaderYard$Pile" "heights" "[I", Cond.fieldLink RX1 26 "ReaderYard$Pile" "top" "I", Cond.methodLink RX2 143 yX2_faultAnswer, Cond.static yX2_faultAnswer, Cond.code yX2_faultAnswer cX2_faultAnswer 1 (some .int), Cond.methodLink RX2 104 yX1_numberUnder, Cond.instanceMethod yX1_numberUnder, Cond.selects RX1 yX1_numberUnder yX1_numberUnder, Cond.code yX1_numberUnder cX1_numberUnder 2 (some .long)]
def wsX2_readFigure_r2 : List Cond := [Cond.fieldLink RX1 9 "ReaderYard$Pile" "values" "[J", Cond.methodLink RX1 29 yX1_height, Cond.methodLink RX1 33 yX1_slotUnder, Cond.instanceMethod yX1_slotUnder, Cond.selects RX1 yX1_slotUnder yX1_slotUnder, Cond.code yX1_slotUnder cX1_slotUnder 4 (some .int), Cond.fieldLink RX1 15 "ReaderYard$Pile" "belows" "[I", Cond.methodLink RX2 166 yX1_lay, Cond.instanceMethod yX1_lay, Cond.selects RX1 yX1_lay yX1_lay, Cond.code yX1_lay cX1_lay 5 none, Cond.fieldLink RX1 22 "ReaderYard$Pile" "used" "I"]
def wsX2_readFigure : List Cond := .code yX2_readFigure cX2_readFigure 3 (some .int) :: ((wsX2_readFigure_r1 ++ wsX2_readFigure_r2) ++ wsX20 ++ wsX10)
def wsX2_reckon : List Cond := .code yX2_reckon cX2_reckon 5 (some .long) :: ([])
def wsX2_act_r1 : List Cond := [Cond.fieldLink RX2 36 "ReaderYard" "numbers" "LReaderYard$Pile;", Cond.methodLink RX2 117 yX1_height, Cond.instanceMethod yX1_height, Cond.selects RX1 yX1_height yX1_height, Cond.initialized RX1, Cond.code yX1_height cX1_height 1 (some .int), Cond.fieldLink RX1 19 "ReaderYard$Pile" "heights" "[I", Cond.fieldLink RX1 26 "ReaderYard$Pile" "top" "I", Cond.methodLink RX2 143 yX2_faultAnswer, Cond.static yX2_faultAnswer, Cond.initialized RX2, Cond.code yX2_faultAnswer cX2_faultAnswer 1 (some .int), Cond.methodLink RX2 104 yX1_numberUnder, Cond.instanceMethod yX1_numberUnder, Cond.selects RX1 yX1_numberUnder yX1_numberUnder, Cond.code yX1_numberUnder cX1_numberUnder 2 (some .long), Cond.fieldLink RX1 9 "ReaderYard$Pile" "values" "[J", Cond.methodLink RX1 29 yX1_height, Cond.methodLink RX1 33 yX1_slotUnder, Cond.instanceMethod yX1_slotUnder, Cond.selects RX1 yX1_slotUnder yX1_slotUnder, Cond.code yX1_slotUnder cX1_slotUnder 4 (some .int), Cond.fieldLink RX1 15 "ReaderYard$Pile" "belows" "[I", Cond.methodLink RX2 180 yX2_reckon]
def wsX2_act_r2 : List Cond := [Cond.static yX2_reckon, Cond.code yX2_reckon cX2_reckon 5 (some .long), Cond.methodLink RX2 166 yX1_lay, Cond.instanceMethod yX1_lay, Cond.selects RX1 yX1_lay yX1_lay, Cond.code yX1_lay cX1_lay 5 none, Cond.fieldLink RX1 22 "ReaderYard$Pile" "used" "I"]
def wsX2_act : List Cond := .code yX2_act cX2_act 7 (some .int) :: ((wsX2_act_r1 ++ wsX2_act_r2) ++ wsX20 ++ wsX10)
def wsX2_readAlone_r1 : List Cond := [Cond.fieldLink RX2 17 "ReaderYard" "firsts" "[I", Cond.fieldLink RX2 13 "ReaderYard" "sorts" "[I", Cond.fieldLink RX2 20 "ReaderYard" "seconds" "[I", Cond.fieldLink RX2 57 "ReaderYard" "signCount" "I", Cond.fieldLink RX2 29 "ReaderYard" "barred" "[Z", Cond.fieldLink RX2 36 "ReaderYard" "numbers" "LReaderYard$Pile;", Cond.methodLink RX2 163 yX2_passSign, Cond.instanceMethod yX2_passSign, Cond.selects RX2 yX2_passSign yX2_passSign, Cond.initialized RX2, Cond.code yX2_passSign cX2_passSign 5 (some .int), Cond.fieldLink RX2 9 "ReaderYard" "signs" "[B", Cond.methodLink RX2 166 yX1_lay, Cond.instanceMethod yX1_lay, Cond.selects RX1 yX1_lay yX1_lay, Cond.initialized RX1, Cond.code yX1_lay cX1_lay 5 none, Cond.fieldLink RX1 22 "ReaderYard$Pile" "used" "I", Cond.fieldLink RX1 9 "ReaderYard$Pile" "values" "[J", Cond.fieldLink RX1 15 "ReaderYard$Pile" "belows" "[I", Cond.fieldLink RX1 19 "ReaderYard$Pile" "heights" "[I", Cond.fieldLink RX1 26 "ReaderYard$Pile" "top" "I", Cond.methodLink RX1 33 yX1_slotUnder, Cond.instanceMethod yX1_slotUnder]
def wsX2_readAlone_r2 : List Cond := [Cond.selects RX1 yX1_slotUnder yX1_slotUnder, Cond.code yX1_slotUnder cX1_slotUnder 4 (some .int), Cond.methodLink RX2 170 yX2_readFigure, Cond.instanceMethod yX2_readFigure, Cond.selects RX2 yX2_readFigure yX2_readFigure, Cond.code yX2_readFigure cX2_readFigure 3 (some .int), Cond.constantLong RX2 176 (10), Cond.constantLong RX2 178 (48), Cond.methodLink RX2 117 yX1_height, Cond.instanceMethod yX1_height, Cond.selects RX1 yX1_height yX1_height, Cond.code yX1_height cX1_height 1 (some .int), Cond.methodLink RX2 143 yX2_faultAnswer, Cond.static yX2_faultAnswer, Cond.code yX2_faultAnswer cX2_faultAnswer 1 (some .int), Cond.methodLink RX2 104 yX1_numberUnder, Cond.instanceMethod yX1_numberUnder, Cond.selects RX1 yX1_numberUnder yX1_numberUnder, Cond.code yX1_numberUnder cX1_numberUnder 2 (some .long), Cond.methodLink RX1 29 yX1_height, Cond.methodLink RX2 173 yX2_act, Cond.instanceMethod yX2_act, Cond.selects RX2 yX2_act yX2_act, Cond.code yX2_act cX2_act 7 (some .int)]
def wsX2_readAlone_r3 : List Cond := [Cond.methodLink RX2 180 yX2_reckon, Cond.static yX2_reckon, Cond.code yX2_reckon cX2_reckon 5 (some .long)]
def wsX2_readAlone : List Cond := .code yX2_readAlone cX2_readAlone 5 (some .int) :: ((wsX2_readAlone_r1 ++ (wsX2_readAlone_r2 ++ wsX2_readAlone_r3)) ++ wsX20 ++ wsX10)
def wsX2_follow_r1 : List Cond := [Cond.fieldLink RX2 36 "ReaderYard" "numbers" "LReaderYard$Pile;", Cond.fieldLink RX2 94 "ReaderYard$Pile" "top" "I", Cond.fieldLink RX2 43 "ReaderYard" "marks" "LReaderYard$Marks;", Cond.fieldLink RX2 97 "ReaderYard$Marks" "size" "I", Cond.fieldLink RX2 17 "ReaderYard" "firsts" "[I", Cond.fieldLink RX2 13 "ReaderYard" "sorts" "[I", Cond.fieldLink RX2 20 "ReaderYard" "seconds" "[I", Cond.fieldLink RX2 29 "ReaderYard" "barred" "[Z", Cond.fieldLink RX2 26 "ReaderYard" "names" "[I", Cond.methodLink RX2 139 yX2_begin, Cond.instanceMethod yX2_begin, Cond.selects RX2 yX2_begin yX2_begin, Cond.initialized RX2, Cond.code yX2_begin cX2_begin 3 (some .int), Cond.fieldLink RX2 121 "ReaderYard" "steps" "I", Cond.fieldLink RX2 127 "ReaderYard" "stepsEver" "I", Cond.fieldLink RX2 23 "ReaderYard" "begun" "[I", Cond.fieldLink RX2 124 "ReaderYard" "deepest" "I", Cond.methodLink RX2 154 Lib.Math.max.name, Cond.static Lib.Math.max.name, Cond.initialized "java/lang/Math", Cond.code Lib.Math.max.name Lib.Math.max.code 2 (some .int), Cond.methodLink RX2 143 yX2_faultAnswer, Cond.static yX2_faultAnswer]
def wsX2_follow_r2 : List Cond := [Cond.code yX2_faultAnswer cX2_faultAnswer 1 (some .int), Cond.methodLink RX2 83 yX2_follow, Cond.instanceMethod yX2_follow, Cond.selects RX2 yX2_follow yX2_follow, Cond.methodLink RX2 87 yX2_isFault, Cond.static yX2_isFault, Cond.code yX2_isFault cX2_isFault 1 (some .boolean), Cond.methodLink RX2 100 yX2_takeBack, Cond.instanceMethod yX2_takeBack, Cond.selects RX2 yX2_takeBack yX2_takeBack, Cond.code yX2_takeBack cX2_takeBack 3 none, Cond.methodLink RX2 147 yX2_turn, Cond.instanceMethod yX2_turn, Cond.selects RX2 yX2_turn yX2_turn, Cond.code yX2_turn cX2_turn 6 (some .int), Cond.methodLink RX2 159 yX0_add, Cond.instanceMethod yX0_add, Cond.selects RX0 yX0_add yX0_add, Cond.initialized RX0, Cond.code yX0_add cX0_add 4 none, Cond.fieldLink RX0 21 "ReaderYard$Marks" "size" "I", Cond.fieldLink RX0 9 "ReaderYard$Marks" "labels" "[I", Cond.fieldLink RX0 15 "ReaderYard$Marks" "froms" "[I", Cond.fieldLink RX0 18 "ReaderYard$Marks" "tos" "[I"]
def wsX2_follow_r3 : List Cond := [Cond.methodLink RX2 151 yX2_readAlone, Cond.instanceMethod yX2_readAlone, Cond.selects RX2 yX2_readAlone yX2_readAlone, Cond.code yX2_readAlone cX2_readAlone 5 (some .int), Cond.fieldLink RX2 57 "ReaderYard" "signCount" "I", Cond.methodLink RX2 163 yX2_passSign, Cond.instanceMethod yX2_passSign, Cond.selects RX2 yX2_passSign yX2_passSign, Cond.code yX2_passSign cX2_passSign 5 (some .int), Cond.fieldLink RX2 9 "ReaderYard" "signs" "[B", Cond.methodLink RX2 166 yX1_lay, Cond.instanceMethod yX1_lay, Cond.selects RX1 yX1_lay yX1_lay, Cond.initialized RX1, Cond.code yX1_lay cX1_lay 5 none, Cond.fieldLink RX1 22 "ReaderYard$Pile" "used" "I", Cond.fieldLink RX1 9 "ReaderYard$Pile" "values" "[J", Cond.fieldLink RX1 15 "ReaderYard$Pile" "belows" "[I", Cond.fieldLink RX1 19 "ReaderYard$Pile" "heights" "[I", Cond.fieldLink RX1 26 "ReaderYard$Pile" "top" "I", Cond.methodLink RX1 33 yX1_slotUnder, Cond.instanceMethod yX1_slotUnder, Cond.selects RX1 yX1_slotUnder yX1_slotUnder, Cond.code yX1_slotUnder cX1_slotUnder 4 (some .int)]
def wsX2_follow_r4 : List Cond := [Cond.methodLink RX2 170 yX2_readFigure, Cond.instanceMethod yX2_readFigure, Cond.selects RX2 yX2_readFigure yX2_readFigure, Cond.code yX2_readFigure cX2_readFigure 3 (some .int), Cond.constantLong RX2 176 (10), Cond.constantLong RX2 178 (48), Cond.methodLink RX2 117 yX1_height, Cond.instanceMethod yX1_height, Cond.selects RX1 yX1_height yX1_height, Cond.code yX1_height cX1_height 1 (some .int), Cond.methodLink RX2 104 yX1_numberUnder, Cond.instanceMethod yX1_numberUnder, Cond.selects RX1 yX1_numberUnder yX1_numberUnder, Cond.code yX1_numberUnder cX1_numberUnder 2 (some .long), Cond.methodLink RX1 29 yX1_height, Cond.methodLink RX2 173 yX2_act, Cond.instanceMethod yX2_act, Cond.selects RX2 yX2_act yX2_act, Cond.code yX2_act cX2_act 7 (some .int), Cond.methodLink RX2 180 yX2_reckon, Cond.static yX2_reckon, Cond.code yX2_reckon cX2_reckon 5 (some .long)]
def wsX2_follow : List Cond := .code yX2_follow cX2_follow 12 (some .int) :: ((wsX2_follow_r1 ++ (wsX2_follow_r2 ++ (wsX2_follow_r3 ++ wsX2_follow_r4))) ++ wsX20 ++ wsX10 ++ wsX00)
def wsX2_noteFault : List Cond := .code yX2_noteFault cX2_noteFault 2 none :: ([.fieldLink RX2 130 "ReaderYard" "faultedCalls" "I", .fieldLink RX2 133 "ReaderYard" "latestFault" "I"] ++ wsX20)
def wsX2_read_r1 : List Cond := [Cond.fieldLink RX2 57 "ReaderYard" "signCount" "I", Cond.methodLink RX2 77 yX2_isReader, Cond.instanceMethod yX2_isReader, Cond.selects RX2 yX2_isReader yX2_isReader, Cond.initialized RX2, Cond.code yX2_isReader cX2_isReader 2 (some .boolean), Cond.fieldLink RX2 70 "ReaderYard" "readerCount" "I", Cond.methodLink RX2 80 yX2_startCall, Cond.instanceMethod yX2_startCall, Cond.selects RX2 yX2_startCall yX2_startCall, Cond.code yX2_startCall cX2_startCall 1 none, Cond.fieldLink RX2 36 "ReaderYard" "numbers" "LReaderYard$Pile;", Cond.fieldLink RX2 43 "ReaderYard" "marks" "LReaderYard$Marks;", Cond.fieldLink RX2 97 "ReaderYard$Marks" "size" "I", Cond.fieldLink RX2 121 "ReaderYard" "steps" "I", Cond.fieldLink RX2 124 "ReaderYard" "deepest" "I", Cond.methodLink RX2 136 yX1_makeEmpty, Cond.instanceMethod yX1_makeEmpty, Cond.selects RX1 yX1_makeEmpty yX1_makeEmpty, Cond.initialized RX1, Cond.code yX1_makeEmpty cX1_makeEmpty 1 none, Cond.fieldLink RX1 22 "ReaderYard$Pile" "used" "I", Cond.fieldLink RX1 26 "ReaderYard$Pile" "top" "I", Cond.methodLink RX2 83 yX2_follow]
def wsX2_read_r2 : List Cond := [Cond.instanceMethod yX2_follow, Cond.selects RX2 yX2_follow yX2_follow, Cond.code yX2_follow cX2_follow 12 (some .int), Cond.fieldLink RX2 94 "ReaderYard$Pile" "top" "I", Cond.fieldLink RX2 17 "ReaderYard" "firsts" "[I", Cond.fieldLink RX2 13 "ReaderYard" "sorts" "[I", Cond.fieldLink RX2 20 "ReaderYard" "seconds" "[I", Cond.fieldLink RX2 29 "ReaderYard" "barred" "[Z", Cond.fieldLink RX2 26 "ReaderYard" "names" "[I", Cond.methodLink RX2 139 yX2_begin, Cond.instanceMethod yX2_begin, Cond.selects RX2 yX2_begin yX2_begin, Cond.code yX2_begin cX2_begin 3 (some .int), Cond.fieldLink RX2 127 "ReaderYard" "stepsEver" "I", Cond.fieldLink RX2 23 "ReaderYard" "begun" "[I", Cond.methodLink RX2 154 Lib.Math.max.name, Cond.static Lib.Math.max.name, Cond.initialized "java/lang/Math", Cond.code Lib.Math.max.name Lib.Math.max.code 2 (some .int), Cond.methodLink RX2 143 yX2_faultAnswer, Cond.static yX2_faultAnswer, Cond.code yX2_faultAnswer cX2_faultAnswer 1 (some .int), Cond.methodLink RX2 87 yX2_isFault, Cond.static yX2_isFault]
def wsX2_read_r3 : List Cond := [Cond.code yX2_isFault cX2_isFault 1 (some .boolean), Cond.methodLink RX2 100 yX2_takeBack, Cond.instanceMethod yX2_takeBack, Cond.selects RX2 yX2_takeBack yX2_takeBack, Cond.code yX2_takeBack cX2_takeBack 3 none, Cond.methodLink RX2 147 yX2_turn, Cond.instanceMethod yX2_turn, Cond.selects RX2 yX2_turn yX2_turn, Cond.code yX2_turn cX2_turn 6 (some .int), Cond.methodLink RX2 159 yX0_add, Cond.instanceMethod yX0_add, Cond.selects RX0 yX0_add yX0_add, Cond.initialized RX0, Cond.code yX0_add cX0_add 4 none, Cond.fieldLink RX0 21 "ReaderYard$Marks" "size" "I", Cond.fieldLink RX0 9 "ReaderYard$Marks" "labels" "[I", Cond.fieldLink RX0 15 "ReaderYard$Marks" "froms" "[I", Cond.fieldLink RX0 18 "ReaderYard$Marks" "tos" "[I", Cond.methodLink RX2 151 yX2_readAlone, Cond.instanceMethod yX2_readAlone, Cond.selects RX2 yX2_readAlone yX2_readAlone, Cond.code yX2_readAlone cX2_readAlone 5 (some .int), Cond.methodLink RX2 163 yX2_passSign, Cond.instanceMethod yX2_passSign]
def wsX2_read_r4 : List Cond := [Cond.selects RX2 yX2_passSign yX2_passSign, Cond.code yX2_passSign cX2_passSign 5 (some .int), Cond.fieldLink RX2 9 "ReaderYard" "signs" "[B", Cond.methodLink RX2 166 yX1_lay, Cond.instanceMethod yX1_lay, Cond.selects RX1 yX1_lay yX1_lay, Cond.code yX1_lay cX1_lay 5 none, Cond.fieldLink RX1 9 "ReaderYard$Pile" "values" "[J", Cond.fieldLink RX1 15 "ReaderYard$Pile" "belows" "[I", Cond.fieldLink RX1 19 "ReaderYard$Pile" "heights" "[I", Cond.methodLink RX1 33 yX1_slotUnder, Cond.instanceMethod yX1_slotUnder, Cond.selects RX1 yX1_slotUnder yX1_slotUnder, Cond.code yX1_slotUnder cX1_slotUnder 4 (some .int), Cond.methodLink RX2 170 yX2_readFigure, Cond.instanceMethod yX2_readFigure, Cond.selects RX2 yX2_readFigure yX2_readFigure, Cond.code yX2_readFigure cX2_readFigure 3 (some .int), Cond.constantLong RX2 176 (10), Cond.constantLong RX2 178 (48), Cond.methodLink RX2 117 yX1_height, Cond.instanceMethod yX1_height, Cond.selects RX1 yX1_height yX1_height, Cond.code yX1_height cX1_height 1 (some .int)]
def wsX2_read_r5 : List Cond := [Cond.methodLink RX2 104 yX1_numberUnder, Cond.instanceMethod yX1_numberUnder, Cond.selects RX1 yX1_numberUnder yX1_numberUnder, Cond.code yX1_numberUnder cX1_numberUnder 2 (some .long), Cond.methodLink RX1 29 yX1_height, Cond.methodLink RX2 173 yX2_act, Cond.instanceMethod yX2_act, Cond.selects RX2 yX2_act yX2_act, Cond.code yX2_act cX2_act 7 (some .int), Cond.methodLink RX2 180 yX2_reckon, Cond.static yX2_reckon, Cond.code yX2_reckon cX2_reckon 5 (some .long), Cond.methodLink RX2 90 yX2_noteFault, Cond.instanceMethod yX2_noteFault, Cond.selects RX2 yX2_noteFault yX2_noteFault, Cond.code yX2_noteFault cX2_noteFault 2 none, Cond.fieldLink RX2 130 "ReaderYard" "faultedCalls" "I", Cond.fieldLink RX2 133 "ReaderYard" "latestFault" "I"]
def wsX2_read : List Cond := .code yX2_read cX2_read 4 (some .int) :: ((wsX2_read_r1 ++ (wsX2_read_r2 ++ (wsX2_read_r3 ++ (wsX2_read_r4 ++ wsX2_read_r5)))) ++ wsX20 ++ wsX00 ++ wsX10)
def wsX2_all_r1 : List Cond := [Cond.fieldLink RX2 36 "ReaderYard" "numbers" "LReaderYard$Pile;", Cond.fieldLink RX2 94 "ReaderYard$Pile" "top" "I", Cond.fieldLink RX2 43 "ReaderYard" "marks" "LReaderYard$Marks;", Cond.fieldLink RX2 97 "ReaderYard$Marks" "size" "I", Cond.methodLink RX2 77 yX2_isReader, Cond.instanceMethod yX2_isReader, Cond.selects RX2 yX2_isReader yX2_isReader, Cond.initialized RX2, Cond.code yX2_isReader cX2_isReader 2 (some .boolean), Cond.fieldLink RX2 70 "ReaderYard" "readerCount" "I", Cond.methodLink RX2 80 yX2_startCall, Cond.instanceMethod yX2_startCall, Cond.selects RX2 yX2_startCall yX2_startCall, Cond.code yX2_startCall cX2_startCall 1 none, Cond.fieldLink RX2 121 "ReaderYard" "steps" "I", Cond.fieldLink RX2 124 "ReaderYard" "deepest" "I", Cond.methodLink RX2 136 yX1_makeEmpty, Cond.instanceMethod yX1_makeEmpty, Cond.selects RX1 yX1_makeEmpty yX1_makeEmpty, Cond.initialized RX1, Cond.code yX1_makeEmpty cX1_makeEmpty 1 none, Cond.fieldLink RX1 22 "ReaderYard$Pile" "used" "I", Cond.fieldLink RX1 26 "ReaderYard$Pile" "top" "I", Cond.methodLink RX2 83 yX2_follow]
def wsX2_all_r2 : List Cond := [Cond.instanceMethod yX2_follow, Cond.selects RX2 yX2_follow yX2_follow, Cond.code yX2_follow cX2_follow 12 (some .int), Cond.fieldLink RX2 17 "ReaderYard" "firsts" "[I", Cond.fieldLink RX2 13 "ReaderYard" "sorts" "[I", Cond.fieldLink RX2 20 "ReaderYard" "seconds" "[I", Cond.fieldLink RX2 29 "ReaderYard" "barred" "[Z", Cond.fieldLink RX2 26 "ReaderYard" "names" "[I", Cond.methodLink RX2 139 yX2_begin, Cond.instanceMethod yX2_begin, Cond.selects RX2 yX2_begin yX2_begin, Cond.code yX2_begin cX2_begin 3 (some .int), Cond.fieldLink RX2 127 "ReaderYard" "stepsEver" "I", Cond.fieldLink RX2 23 "ReaderYard" "begun" "[I", Cond.methodLink RX2 154 Lib.Math.max.name, Cond.static Lib.Math.max.name, Cond.initialized "java/lang/Math", Cond.code Lib.Math.max.name Lib.Math.max.code 2 (some .int), Cond.methodLink RX2 143 yX2_faultAnswer, Cond.static yX2_faultAnswer, Cond.code yX2_faultAnswer cX2_faultAnswer 1 (some .int), Cond.methodLink RX2 87 yX2_isFault, Cond.static yX2_isFault, Cond.code yX2_isFault cX2_isFault 1 (some .boolean)]
def wsX2_all_r3 : List Cond := [Cond.methodLink RX2 100 yX2_takeBack, Cond.instanceMethod yX2_takeBack, Cond.selects RX2 yX2_takeBack yX2_takeBack, Cond.code yX2_takeBack cX2_takeBack 3 none, Cond.methodLink RX2 147 yX2_turn, Cond.instanceMethod yX2_turn, Cond.selects RX2 yX2_turn yX2_turn, Cond.code yX2_turn cX2_turn 6 (some .int), Cond.methodLink RX2 159 yX0_add, Cond.instanceMethod yX0_add, Cond.selects RX0 yX0_add yX0_add, Cond.initialized RX0, Cond.code yX0_add cX0_add 4 none, Cond.fieldLink RX0 21 "ReaderYard$Marks" "size" "I", Cond.fieldLink RX0 9 "ReaderYard$Marks" "labels" "[I", Cond.fieldLink RX0 15 "ReaderYard$Marks" "froms" "[I", Cond.fieldLink RX0 18 "ReaderYard$Marks" "tos" "[I", Cond.methodLink RX2 151 yX2_readAlone, Cond.instanceMethod yX2_readAlone, Cond.selects RX2 yX2_readAlone yX2_readAlone, Cond.code yX2_readAlone cX2_readAlone 5 (some .int), Cond.fieldLink RX2 57 "ReaderYard" "signCount" "I", Cond.methodLink RX2 163 yX2_passSign, Cond.instanceMethod yX2_passSign]
def wsX2_all_r4 : List Cond := [Cond.selects RX2 yX2_passSign yX2_passSign, Cond.code yX2_passSign cX2_passSign 5 (some .int), Cond.fieldLink RX2 9 "ReaderYard" "signs" "[B", Cond.methodLink RX2 166 yX1_lay, Cond.instanceMethod yX1_lay, Cond.selects RX1 yX1_lay yX1_lay, Cond.code yX1_lay cX1_lay 5 none, Cond.fieldLink RX1 9 "ReaderYard$Pile" "values" "[J", Cond.fieldLink RX1 15 "ReaderYard$Pile" "belows" "[I", Cond.fieldLink RX1 19 "ReaderYard$Pile" "heights" "[I", Cond.methodLink RX1 33 yX1_slotUnder, Cond.instanceMethod yX1_slotUnder, Cond.selects RX1 yX1_slotUnder yX1_slotUnder, Cond.code yX1_slotUnder cX1_slotUnder 4 (some .int), Cond.methodLink RX2 170 yX2_readFigure, Cond.instanceMethod yX2_readFigure, Cond.selects RX2 yX2_readFigure yX2_readFigure, Cond.code yX2_readFigure cX2_readFigure 3 (some .int), Cond.constantLong RX2 176 (10), Cond.constantLong RX2 178 (48), Cond.methodLink RX2 117 yX1_height, Cond.instanceMethod yX1_height, Cond.selects RX1 yX1_height yX1_height, Cond.code yX1_height cX1_height 1 (some .int)]
def wsX2_all_r5 : List Cond := [Cond.methodLink RX2 104 yX1_numberUnder, Cond.instanceMethod yX1_numberUnder, Cond.selects RX1 yX1_numberUnder yX1_numberUnder, Cond.code yX1_numberUnder cX1_numberUnder 2 (some .long), Cond.methodLink RX1 29 yX1_height, Cond.methodLink RX2 173 yX2_act, Cond.instanceMethod yX2_act, Cond.selects RX2 yX2_act yX2_act, Cond.code yX2_act cX2_act 7 (some .int), Cond.methodLink RX2 180 yX2_reckon, Cond.static yX2_reckon, Cond.code yX2_reckon cX2_reckon 5 (some .long), Cond.methodLink RX2 90 yX2_noteFault, Cond.instanceMethod yX2_noteFault, Cond.selects RX2 yX2_noteFault yX2_noteFault, Cond.code yX2_noteFault cX2_noteFault 2 none, Cond.fieldLink RX2 130 "ReaderYard" "faultedCalls" "I", Cond.fieldLink RX2 133 "ReaderYard" "latestFault" "I"]
def wsX2_all : List Cond := .code yX2_all cX2_all 8 (some .int) :: ((wsX2_all_r1 ++ (wsX2_all_r2 ++ (wsX2_all_r3 ++ (wsX2_all_r4 ++ wsX2_all_r5)))) ++ wsX20 ++ wsX10 ++ wsX00)
def wsX2_pile : List Cond := .code yX2_pile cX2_pile 2 (some .long) :: ([.fieldLink RX2 36 "ReaderYard" "numbers" "LReaderYard$Pile;", .methodLink RX2 104 yX1_numberUnder, .instanceMethod yX1_numberUnder, .selects RX1 yX1_numberUnder yX1_numberUnder, .initialized RX1, .code yX1_numberUnder cX1_numberUnder 2 (some .long), .fieldLink RX1 9 "ReaderYard$Pile" "values" "[J", .methodLink RX1 29 yX1_height, .instanceMethod yX1_height, .selects RX1 yX1_height yX1_height, .code yX1_height cX1_height 1 (some .int), .fieldLink RX1 19 "ReaderYard$Pile" "heights" "[I", .fieldLink RX1 26 "ReaderYard$Pile" "top" "I", .methodLink RX1 33 yX1_slotUnder, .instanceMethod yX1_slotUnder, .selects RX1 yX1_slotUnder yX1_slotUnder, .code yX1_slotUnder cX1_slotUnder 4 (some .int), .fieldLink RX1 15 "ReaderYard$Pile" "belows" "[I"] ++ wsX20 ++ wsX10)
def wsX2_mark : List Cond := .code yX2_mark cX2_mark 3 (some .int) :: ([.fieldLink RX2 43 "ReaderYard" "marks" "LReaderYard$Marks;", .fieldLink RX2 97 "ReaderYard$Marks" "size" "I", .fieldLink RX2 108 "ReaderYard$Marks" "labels" "[I", .fieldLink RX2 111 "ReaderYard$Marks" "froms" "[I", .fieldLink RX2 114 "ReaderYard$Marks" "tos" "[I"] ++ wsX20 ++ wsX00)
def wsX2_count : List Cond := .code yX2_count cX2_count 2 (some .int) :: ([.fieldLink RX2 57 "ReaderYard" "signCount" "I", .fieldLink RX2 70 "ReaderYard" "readerCount" "I", .fieldLink RX2 36 "ReaderYard" "numbers" "LReaderYard$Pile;", .fieldLink RX2 43 "ReaderYard" "marks" "LReaderYard$Marks;", .fieldLink RX2 97 "ReaderYard$Marks" "size" "I", .fieldLink RX2 121 "ReaderYard" "steps" "I", .fieldLink RX2 124 "ReaderYard" "deepest" "I", .fieldLink RX2 127 "ReaderYard" "stepsEver" "I", .fieldLink RX2 130 "ReaderYard" "faultedCalls" "I", .fieldLink RX2 133 "ReaderYard" "latestFault" "I", .methodLink RX2 117 yX1_height, .instanceMethod yX1_height, .selects RX1 yX1_height yX1_height, .initialized RX1, .code yX1_height cX1_height 1 (some .int), .fieldLink RX1 19 "ReaderYard$Pile" "heights" "[I", .fieldLink RX1 26 "ReaderYard$Pile" "top" "I"] ++ wsX20 ++ wsX00 ++ wsX10)
def wsX2_began : List Cond := .code yX2_began cX2_began 2 (some .int) :: ([.fieldLink RX2 23 "ReaderYard" "begun" "[I", .methodLink RX2 77 yX2_isReader, .instanceMethod yX2_isReader, .selects RX2 yX2_isReader yX2_isReader, .initialized RX2, .code yX2_isReader cX2_isReader 2 (some .boolean), .fieldLink RX2 70 "ReaderYard" "readerCount" "I"] ++ wsX20)
def wsX3_init_r1 : List Cond := [Cond.methodLink RX3 1 objectInit, Cond.instanceMethod objectInit, Cond.code objectInit ⟨#[0xb1]⟩ 1 none, Cond.arrayClass .int, Cond.fieldLink RX3 7 "ReaderYardModel" "signs" "[I", Cond.fieldLink RX3 13 "ReaderYardModel" "sorts" "[I", Cond.fieldLink RX3 16 "ReaderYardModel" "as" "[I", Cond.fieldLink RX3 19 "ReaderYardModel" "bs" "[I", Cond.fieldLink RX3 22 "ReaderYardModel" "begins" "[I", Cond.fieldLink RX3 25 "ReaderYardModel" "names" "[I", Cond.arrayClass .long, Cond.fieldLink RX3 28 "ReaderYardModel" "laid" "[J", Cond.fieldLink RX3 32 "ReaderYardModel" "below" "[I", Cond.fieldLink RX3 35 "ReaderYardModel" "tall" "[I", Cond.fieldLink RX3 38 "ReaderYardModel" "markOf" "[I", Cond.fieldLink RX3 41 "ReaderYardModel" "markFrom" "[I", Cond.fieldLink RX3 44 "ReaderYardModel" "markTo" "[I", Cond.fieldLink RX3 47 "ReaderYardModel" "reader" "[I", Cond.fieldLink RX3 50 "ReaderYardModel" "phase" "[I", Cond.fieldLink RX3 53 "ReaderYardModel" "start" "[I", Cond.fieldLink RX3 56 "ReaderYardModel" "came" "[I", Cond.arrayClass .boolean, Cond.fieldLink RX3 59 "ReaderYardModel" "barred" "[Z", Cond.fieldLink RX3 63 "ReaderYardModel" "keptTop" "[I"]
def wsX3_init_r2 : List Cond := [Cond.fieldLink RX3 66 "ReaderYardModel" "keptChain" "[I", Cond.fieldLink RX3 69 "ReaderYardModel" "keptMarks" "[I", Cond.fieldLink RX3 72 "ReaderYardModel" "laterTop" "[I", Cond.fieldLink RX3 75 "ReaderYardModel" "laterChain" "[I", Cond.fieldLink RX3 78 "ReaderYardModel" "laterMarks" "[I", Cond.fieldLink RX3 81 "ReaderYardModel" "many" "I"]
def wsX3_init : List Cond := .code yX3_init cX3_init 2 none :: ((wsX3_init_r1 ++ wsX3_init_r2) ++ wsX30)
def wsX3_in : List Cond := .code yX3_in cX3_in 3 (some .boolean) :: ([])
def wsX3_isReader : List Cond := .code yX3_isReader cX3_isReader 2 (some .boolean) :: ([.fieldLink RX3 81 "ReaderYardModel" "many" "I", .methodLink RX3 85 yX3_in, .static yX3_in, .initialized RX3, .code yX3_in cX3_in 3 (some .boolean)] ++ wsX30)
def wsX3_text : List Cond := .code yX3_text cX3_text 5 (some .int) :: ([.fieldLink RX3 89 "ReaderYardModel" "length" "I", .fieldLink RX3 7 "ReaderYardModel" "signs" "[I", .methodLink RX3 85 yX3_in, .static yX3_in, .initialized RX3, .code yX3_in cX3_in 3 (some .boolean)] ++ wsX30)
def wsX3_clear : List Cond := .code yX3_clear cX3_clear 2 (some .int) :: ([.fieldLink RX3 89 "ReaderYardModel" "length" "I"] ++ wsX30)
def wsX3_reader : List Cond := .code yX3_reader cX3_reader 5 (some .int) :: ([.fieldLink RX3 81 "ReaderYardModel" "many" "I", .fieldLink RX3 13 "ReaderYardModel" "sorts" "[I", .fieldLink RX3 16 "ReaderYardModel" "as" "[I", .fieldLink RX3 19 "ReaderYardModel" "bs" "[I", .methodLink RX3 85 yX3_in, .static yX3_in, .initialized RX3, .code yX3_in cX3_in 3 (some .boolean), .methodLink RX3 92 yX3_isReader, .instanceMethod yX3_isReader, .selects RX3 yX3_isReader yX3_isReader, .code yX3_isReader cX3_isReader 2 (some .boolean)] ++ wsX30)
def wsX3_name : List Cond := .code yX3_name cX3_name 4 (some .int) :: ([.fieldLink RX3 25 "ReaderYardModel" "names" "[I", .methodLink RX3 85 yX3_in, .static yX3_in, .initialized RX3, .code yX3_in cX3_in 3 (some .boolean), .methodLink RX3 92 yX3_isReader, .instanceMethod yX3_isReader, .selects RX3 yX3_isReader yX3_isReader, .code yX3_isReader cX3_isReader 2 (some .boolean), .fieldLink RX3 81 "ReaderYardModel" "many" "I"] ++ wsX30)
def wsX3_begin : List Cond := .code yX3_begin cX3_begin 3 none :: ([.fieldLink RX3 96 "ReaderYardModel" "deep" "I", .fieldLink RX3 99 "ReaderYardModel" "fault" "I", .fieldLink RX3 102 "ReaderYardModel" "steps" "I", .fieldLink RX3 105 "ReaderYardModel" "allSteps" "I", .fieldLink RX3 22 "ReaderYardModel" "begins" "[I", .fieldLink RX3 47 "ReaderYardModel" "reader" "[I", .fieldLink RX3 50 "ReaderYardModel" "phase" "[I", .fieldLink RX3 53 "ReaderYardModel" "start" "[I", .fieldLink RX3 56 "ReaderYardModel" "came" "[I", .fieldLink RX3 59 "ReaderYardModel" "barred" "[Z", .fieldLink RX3 63 "ReaderYardModel" "keptTop" "[I", .fieldLink RX3 108 "ReaderYardModel" "onTop" "I", .fieldLink RX3 66 "ReaderYardModel" "keptChain" "[I", .fieldLink RX3 111 "ReaderYardModel" "chain" "I", .fieldLink RX3 69 "ReaderYardModel" "keptMarks" "[I", .fieldLink RX3 114 "ReaderYardModel" "marks" "I", .fieldLink RX3 117 "ReaderYardModel" "deepest" "I"] ++ wsX30)
def wsX3_asks : List Cond := .code yX3_asks cX3_asks 3 none :: ([.fieldLink RX3 50 "ReaderYardModel" "phase" "[I", .fieldLink RX3 96 "ReaderYardModel" "deep" "I", .methodLink RX3 120 yX3_begin, .instanceMethod yX3_begin, .selects RX3 yX3_begin yX3_begin, .initialized RX3, .code yX3_begin cX3_begin 3 none, .fieldLink RX3 99 "ReaderYardModel" "fault" "I", .fieldLink RX3 102 "ReaderYardModel" "steps" "I", .fieldLink RX3 105 "ReaderYardModel" "allSteps" "I", .fieldLink RX3 22 "ReaderYardModel" "begins" "[I", .fieldLink RX3 47 "ReaderYardModel" "reader" "[I", .fieldLink RX3 53 "ReaderYardModel" "start" "[I", .fieldLink RX3 56 "ReaderYardModel" "came" "[I", .fieldLink RX3 59 "ReaderYardModel" "barred" "[Z", .fieldLink RX3 63 "ReaderYardModel" "keptTop" "[I", .fieldLink RX3 108 "ReaderYardModel" "onTop" "I", .fieldLink RX3 66 "ReaderYardModel" "keptChain" "[I", .fieldLink RX3 111 "ReaderYardModel" "chain" "I", .fieldLink RX3 69 "ReaderYardModel" "keptMarks" "[I", .fieldLink RX3 114 "ReaderYardModel" "marks" "I", .fieldLink RX3 117 "ReaderYardModel" "deepest" "I"] ++ wsX30)
def wsX3_takeBack : List Cond := .code yX3_takeBack cX3_takeBack 2 none :: ([.fieldLink RX3 63 "ReaderYardModel" "keptTop" "[I", .fieldLink RX3 108 "ReaderYardModel" "onTop" "I", .fieldLink RX3 66 "ReaderYardModel" "keptChain" "[I", .fieldLink RX3 111 "ReaderYardModel" "chain" "I", .fieldLink RX3 69 "ReaderYardModel" "keptMarks" "[I", .fieldLink RX3 114 "ReaderYardModel" "marks" "I"] ++ wsX30)
def wsX3_keep : List Cond := .code yX3_keep cX3_keep 2 none :: ([.fieldLink RX3 72 "ReaderYardModel" "laterTop" "[I", .fieldLink RX3 108 "ReaderYardModel" "onTop" "I", .fieldLink RX3 75 "ReaderYardModel" "laterChain" "[I", .fieldLink RX3 111 "ReaderYardModel" "chain" "I", .fieldLink RX3 78 "ReaderYardModel" "laterMarks" "[I", .fieldLink RX3 114 "ReaderYardModel" "marks" "I"] ++ wsX30)
def wsX3_ends : List Cond := .code yX3_ends cX3_ends 2 none :: ([.fieldLink RX3 96 "ReaderYardModel" "deep" "I", .fieldLink RX3 128 "ReaderYardModel" "result" "I", .methodLink RX3 124 yX3_takeBack, .instanceMethod yX3_takeBack, .selects RX3 yX3_takeBack yX3_takeBack, .initialized RX3, .code yX3_takeBack cX3_takeBack 2 none, .fieldLink RX3 63 "ReaderYardModel" "keptTop" "[I", .fieldLink RX3 108 "ReaderYardModel" "onTop" "I", .fieldLink RX3 66 "ReaderYardModel" "keptChain" "[I", .fieldLink RX3 111 "ReaderYardModel" "chain" "I", .fieldLink RX3 69 "ReaderYardModel" "keptMarks" "[I", .fieldLink RX3 114 "ReaderYardModel" "marks" "I"] ++ wsX30)
def wsX3_lay : List Cond := .code yX3_lay cX3_lay 4 none :: ([.fieldLink RX3 111 "ReaderYardModel" "chain" "I", .fieldLink RX3 28 "ReaderYardModel" "laid" "[J", .fieldLink RX3 32 "ReaderYardModel" "below" "[I", .fieldLink RX3 35 "ReaderYardModel" "tall" "[I", .fieldLink RX3 108 "ReaderYardModel" "onTop" "I"] ++ wsX30)
def wsX3_height : List Cond := .code yX3_height cX3_height 1 (some .int) :: ([.fieldLink RX3 108 "ReaderYardModel" "onTop" "I", .fieldLink RX3 35 "ReaderYardModel" "tall" "[I"] ++ wsX30)
def wsX3_sign_r1 : List Cond := [Cond.fieldLink RX3 53 "ReaderYardModel" "start" "[I", Cond.fieldLink RX3 89 "ReaderYardModel" "length" "I", Cond.fieldLink RX3 7 "ReaderYardModel" "signs" "[I", Cond.fieldLink RX3 13 "ReaderYardModel" "sorts" "[I", Cond.fieldLink RX3 16 "ReaderYardModel" "as" "[I", Cond.fieldLink RX3 19 "ReaderYardModel" "bs" "[I", Cond.methodLink RX3 140 yX3_ends, Cond.instanceMethod yX3_ends, Cond.selects RX3 yX3_ends yX3_ends, Cond.initialized RX3, Cond.code yX3_ends cX3_ends 2 none, Cond.fieldLink RX3 96 "ReaderYardModel" "deep" "I", Cond.fieldLink RX3 128 "ReaderYardModel" "result" "I", Cond.methodLink RX3 124 yX3_takeBack, Cond.instanceMethod yX3_takeBack, Cond.selects RX3 yX3_takeBack yX3_takeBack, Cond.code yX3_takeBack cX3_takeBack 2 none, Cond.fieldLink RX3 63 "ReaderYardModel" "keptTop" "[I", Cond.fieldLink RX3 108 "ReaderYardModel" "onTop" "I", Cond.fieldLink RX3 66 "ReaderYardModel" "keptChain" "[I", Cond.fieldLink RX3 111 "ReaderYardModel" "chain" "I", Cond.fieldLink RX3 69 "ReaderYardModel" "keptMarks" "[I", Cond.fieldLink RX3 114 "ReaderYardModel" "marks" "I", Cond.methodLink RX3 85 yX3_in]
def wsX3_sign_r2 : List Cond := [Cond.static yX3_in, Cond.code yX3_in cX3_in 3 (some .boolean)]
def wsX3_sign : List Cond := .code yX3_sign cX3_sign 6 none :: ((wsX3_sign_r1 ++ wsX3_sign_r2) ++ wsX30)
def wsX3_again_r1 : List Cond := [Cond.fieldLink RX3 128 "ReaderYardModel" "result" "I", Cond.fieldLink RX3 56 "ReaderYardModel" "came" "[I", Cond.fieldLink RX3 16 "ReaderYardModel" "as" "[I", Cond.fieldLink RX3 72 "ReaderYardModel" "laterTop" "[I", Cond.fieldLink RX3 108 "ReaderYardModel" "onTop" "I", Cond.fieldLink RX3 75 "ReaderYardModel" "laterChain" "[I", Cond.fieldLink RX3 111 "ReaderYardModel" "chain" "I", Cond.fieldLink RX3 78 "ReaderYardModel" "laterMarks" "[I", Cond.fieldLink RX3 114 "ReaderYardModel" "marks" "I", Cond.methodLink RX3 143 yX3_keep, Cond.instanceMethod yX3_keep, Cond.selects RX3 yX3_keep yX3_keep, Cond.initialized RX3, Cond.code yX3_keep cX3_keep 2 none, Cond.methodLink RX3 146 yX3_asks, Cond.instanceMethod yX3_asks, Cond.selects RX3 yX3_asks yX3_asks, Cond.code yX3_asks cX3_asks 3 none, Cond.fieldLink RX3 50 "ReaderYardModel" "phase" "[I", Cond.fieldLink RX3 96 "ReaderYardModel" "deep" "I", Cond.methodLink RX3 120 yX3_begin, Cond.instanceMethod yX3_begin, Cond.selects RX3 yX3_begin yX3_begin, Cond.code yX3_begin cX3_begin 3 none]
def wsX3_again_r2 : List Cond := [Cond.fieldLink RX3 99 "ReaderYardModel" "fault" "I", Cond.fieldLink RX3 102 "ReaderYardModel" "steps" "I", Cond.fieldLink RX3 105 "ReaderYardModel" "allSteps" "I", Cond.fieldLink RX3 22 "ReaderYardModel" "begins" "[I", Cond.fieldLink RX3 47 "ReaderYardModel" "reader" "[I", Cond.fieldLink RX3 53 "ReaderYardModel" "start" "[I", Cond.fieldLink RX3 59 "ReaderYardModel" "barred" "[Z", Cond.fieldLink RX3 63 "ReaderYardModel" "keptTop" "[I", Cond.fieldLink RX3 66 "ReaderYardModel" "keptChain" "[I", Cond.fieldLink RX3 69 "ReaderYardModel" "keptMarks" "[I", Cond.fieldLink RX3 117 "ReaderYardModel" "deepest" "I", Cond.methodLink RX3 140 yX3_ends, Cond.instanceMethod yX3_ends, Cond.selects RX3 yX3_ends yX3_ends, Cond.code yX3_ends cX3_ends 2 none, Cond.methodLink RX3 124 yX3_takeBack, Cond.instanceMethod yX3_takeBack, Cond.selects RX3 yX3_takeBack yX3_takeBack, Cond.code yX3_takeBack cX3_takeBack 2 none]
def wsX3_again : List Cond := .code yX3_again cX3_again 4 none :: ((wsX3_again_r1 ++ wsX3_again_r2) ++ wsX30)
def wsX3_joins_r1 : List Cond := [Cond.fieldLink RX3 53 "ReaderYardModel" "start" "[I", Cond.fieldLink RX3 50 "ReaderYardModel" "phase" "[I", Cond.fieldLink RX3 13 "ReaderYardModel" "sorts" "[I", Cond.fieldLink RX3 16 "ReaderYardModel" "as" "[I", Cond.fieldLink RX3 128 "ReaderYardModel" "result" "I", Cond.fieldLink RX3 19 "ReaderYardModel" "bs" "[I", Cond.fieldLink RX3 59 "ReaderYardModel" "barred" "[Z", Cond.methodLink RX3 143 yX3_keep, Cond.instanceMethod yX3_keep, Cond.selects RX3 yX3_keep yX3_keep, Cond.initialized RX3, Cond.code yX3_keep cX3_keep 2 none, Cond.fieldLink RX3 72 "ReaderYardModel" "laterTop" "[I", Cond.fieldLink RX3 108 "ReaderYardModel" "onTop" "I", Cond.fieldLink RX3 75 "ReaderYardModel" "laterChain" "[I", Cond.fieldLink RX3 111 "ReaderYardModel" "chain" "I", Cond.fieldLink RX3 78 "ReaderYardModel" "laterMarks" "[I", Cond.fieldLink RX3 114 "ReaderYardModel" "marks" "I", Cond.methodLink RX3 146 yX3_asks, Cond.instanceMethod yX3_asks, Cond.selects RX3 yX3_asks yX3_asks, Cond.code yX3_asks cX3_asks 3 none, Cond.fieldLink RX3 96 "ReaderYardModel" "deep" "I", Cond.methodLink RX3 120 yX3_begin]
def wsX3_joins_r2 : List Cond := [Cond.instanceMethod yX3_begin, Cond.selects RX3 yX3_begin yX3_begin, Cond.code yX3_begin cX3_begin 3 none, Cond.fieldLink RX3 99 "ReaderYardModel" "fault" "I", Cond.fieldLink RX3 102 "ReaderYardModel" "steps" "I", Cond.fieldLink RX3 105 "ReaderYardModel" "allSteps" "I", Cond.fieldLink RX3 22 "ReaderYardModel" "begins" "[I", Cond.fieldLink RX3 47 "ReaderYardModel" "reader" "[I", Cond.fieldLink RX3 56 "ReaderYardModel" "came" "[I", Cond.fieldLink RX3 63 "ReaderYardModel" "keptTop" "[I", Cond.fieldLink RX3 66 "ReaderYardModel" "keptChain" "[I", Cond.fieldLink RX3 69 "ReaderYardModel" "keptMarks" "[I", Cond.fieldLink RX3 117 "ReaderYardModel" "deepest" "I", Cond.methodLink RX3 140 yX3_ends, Cond.instanceMethod yX3_ends, Cond.selects RX3 yX3_ends yX3_ends, Cond.code yX3_ends cX3_ends 2 none, Cond.methodLink RX3 124 yX3_takeBack, Cond.instanceMethod yX3_takeBack, Cond.selects RX3 yX3_takeBack yX3_takeBack, Cond.code yX3_takeBack cX3_takeBack 2 none, Cond.methodLink RX3 149 yX3_again, Cond.instanceMethod yX3_again, Cond.selects RX3 yX3_again yX3_again]
def wsX3_joins_r3 : List Cond := [Cond.code yX3_again cX3_again 4 none]
def wsX3_joins : List Cond := .code yX3_joins cX3_joins 5 none :: ((wsX3_joins_r1 ++ (wsX3_joins_r2 ++ wsX3_joins_r3)) ++ wsX30)
def wsX3_bars : List Cond := .code yX3_bars cX3_bars 3 none :: ([.fieldLink RX3 13 "ReaderYardModel" "sorts" "[I", .fieldLink RX3 47 "ReaderYardModel" "reader" "[I", .fieldLink RX3 50 "ReaderYardModel" "phase" "[I", .fieldLink RX3 59 "ReaderYardModel" "barred" "[Z"] ++ wsX30)
def wsX3_figure_r1 : List Cond := [Cond.fieldLink RX3 89 "ReaderYardModel" "length" "I", Cond.fieldLink RX3 7 "ReaderYardModel" "signs" "[I", Cond.fieldLink RX3 108 "ReaderYardModel" "onTop" "I", Cond.fieldLink RX3 99 "ReaderYardModel" "fault" "I", Cond.constantLong RX3 166 (10), Cond.fieldLink RX3 28 "ReaderYardModel" "laid" "[J", Cond.constantLong RX3 168 (48), Cond.fieldLink RX3 32 "ReaderYardModel" "below" "[I", Cond.methodLink RX3 85 yX3_in, Cond.static yX3_in, Cond.initialized RX3, Cond.code yX3_in cX3_in 3 (some .boolean), Cond.methodLink RX3 140 yX3_ends, Cond.instanceMethod yX3_ends, Cond.selects RX3 yX3_ends yX3_ends, Cond.code yX3_ends cX3_ends 2 none, Cond.fieldLink RX3 96 "ReaderYardModel" "deep" "I", Cond.fieldLink RX3 128 "ReaderYardModel" "result" "I", Cond.methodLink RX3 124 yX3_takeBack, Cond.instanceMethod yX3_takeBack, Cond.selects RX3 yX3_takeBack yX3_takeBack, Cond.code yX3_takeBack cX3_takeBack 2 none, Cond.fieldLink RX3 63 "ReaderYardModel" "keptTop" "[I", Cond.fieldLink RX3 66 "ReaderYardModel" "keptChain" "[I"]
def wsX3_figure_r2 : List Cond := [Cond.fieldLink RX3 111 "ReaderYardModel" "chain" "I", Cond.fieldLink RX3 69 "ReaderYardModel" "keptMarks" "[I", Cond.fieldLink RX3 114 "ReaderYardModel" "marks" "I", Cond.methodLink RX3 156 yX3_lay, Cond.instanceMethod yX3_lay, Cond.selects RX3 yX3_lay yX3_lay, Cond.code yX3_lay cX3_lay 4 none, Cond.fieldLink RX3 35 "ReaderYardModel" "tall" "[I"]
def wsX3_figure : List Cond := .code yX3_figure cX3_figure 2 none :: ((wsX3_figure_r1 ++ wsX3_figure_r2) ++ wsX30)
def wsX3_acts_r1 : List Cond := [Cond.fieldLink RX3 99 "ReaderYardModel" "fault" "I", Cond.fieldLink RX3 28 "ReaderYardModel" "laid" "[J", Cond.fieldLink RX3 108 "ReaderYardModel" "onTop" "I", Cond.fieldLink RX3 32 "ReaderYardModel" "below" "[I", Cond.methodLink RX3 170 yX3_height, Cond.instanceMethod yX3_height, Cond.selects RX3 yX3_height yX3_height, Cond.initialized RX3, Cond.code yX3_height cX3_height 1 (some .int), Cond.fieldLink RX3 35 "ReaderYardModel" "tall" "[I", Cond.methodLink RX3 156 yX3_lay, Cond.instanceMethod yX3_lay, Cond.selects RX3 yX3_lay yX3_lay, Cond.code yX3_lay cX3_lay 4 none, Cond.fieldLink RX3 111 "ReaderYardModel" "chain" "I", Cond.methodLink RX3 140 yX3_ends, Cond.instanceMethod yX3_ends, Cond.selects RX3 yX3_ends yX3_ends, Cond.code yX3_ends cX3_ends 2 none, Cond.fieldLink RX3 96 "ReaderYardModel" "deep" "I", Cond.fieldLink RX3 128 "ReaderYardModel" "result" "I", Cond.methodLink RX3 124 yX3_takeBack, Cond.instanceMethod yX3_takeBack, Cond.selects RX3 yX3_takeBack yX3_takeBack]
def wsX3_acts_r2 : List Cond := [Cond.code yX3_takeBack cX3_takeBack 2 none, Cond.fieldLink RX3 63 "ReaderYardModel" "keptTop" "[I", Cond.fieldLink RX3 66 "ReaderYardModel" "keptChain" "[I", Cond.fieldLink RX3 69 "ReaderYardModel" "keptMarks" "[I", Cond.fieldLink RX3 114 "ReaderYardModel" "marks" "I"]
def wsX3_acts : List Cond := .code yX3_acts cX3_acts 7 none :: ((wsX3_acts_r1 ++ wsX3_acts_r2) ++ wsX30)
def wsX3_others_r1 : List Cond := [Cond.fieldLink RX3 53 "ReaderYardModel" "start" "[I", Cond.fieldLink RX3 13 "ReaderYardModel" "sorts" "[I", Cond.fieldLink RX3 50 "ReaderYardModel" "phase" "[I", Cond.fieldLink RX3 128 "ReaderYardModel" "result" "I", Cond.fieldLink RX3 25 "ReaderYardModel" "names" "[I", Cond.fieldLink RX3 16 "ReaderYardModel" "as" "[I", Cond.fieldLink RX3 99 "ReaderYardModel" "fault" "I", Cond.fieldLink RX3 38 "ReaderYardModel" "markOf" "[I", Cond.fieldLink RX3 114 "ReaderYardModel" "marks" "I", Cond.fieldLink RX3 19 "ReaderYardModel" "bs" "[I", Cond.fieldLink RX3 41 "ReaderYardModel" "markFrom" "[I", Cond.fieldLink RX3 44 "ReaderYardModel" "markTo" "[I", Cond.fieldLink RX3 108 "ReaderYardModel" "onTop" "I", Cond.methodLink RX3 140 yX3_ends, Cond.instanceMethod yX3_ends, Cond.selects RX3 yX3_ends yX3_ends, Cond.initialized RX3, Cond.code yX3_ends cX3_ends 2 none, Cond.fieldLink RX3 96 "ReaderYardModel" "deep" "I", Cond.methodLink RX3 124 yX3_takeBack, Cond.instanceMethod yX3_takeBack, Cond.selects RX3 yX3_takeBack yX3_takeBack, Cond.code yX3_takeBack cX3_takeBack 2 none, Cond.fieldLink RX3 63 "ReaderYardModel" "keptTop" "[I"]
def wsX3_others_r2 : List Cond := [Cond.fieldLink RX3 66 "ReaderYardModel" "keptChain" "[I", Cond.fieldLink RX3 111 "ReaderYardModel" "chain" "I", Cond.fieldLink RX3 69 "ReaderYardModel" "keptMarks" "[I", Cond.methodLink RX3 146 yX3_asks, Cond.instanceMethod yX3_asks, Cond.selects RX3 yX3_asks yX3_asks, Cond.code yX3_asks cX3_asks 3 none, Cond.methodLink RX3 120 yX3_begin, Cond.instanceMethod yX3_begin, Cond.selects RX3 yX3_begin yX3_begin, Cond.code yX3_begin cX3_begin 3 none, Cond.fieldLink RX3 102 "ReaderYardModel" "steps" "I", Cond.fieldLink RX3 105 "ReaderYardModel" "allSteps" "I", Cond.fieldLink RX3 22 "ReaderYardModel" "begins" "[I", Cond.fieldLink RX3 47 "ReaderYardModel" "reader" "[I", Cond.fieldLink RX3 56 "ReaderYardModel" "came" "[I", Cond.fieldLink RX3 59 "ReaderYardModel" "barred" "[Z", Cond.fieldLink RX3 117 "ReaderYardModel" "deepest" "I", Cond.methodLink RX3 153 yX3_bars, Cond.instanceMethod yX3_bars, Cond.selects RX3 yX3_bars yX3_bars, Cond.code yX3_bars cX3_bars 3 none, Cond.methodLink RX3 156 yX3_lay, Cond.instanceMethod yX3_lay]
def wsX3_others_r3 : List Cond := [Cond.selects RX3 yX3_lay yX3_lay, Cond.code yX3_lay cX3_lay 4 none, Cond.fieldLink RX3 28 "ReaderYardModel" "laid" "[J", Cond.fieldLink RX3 32 "ReaderYardModel" "below" "[I", Cond.fieldLink RX3 35 "ReaderYardModel" "tall" "[I", Cond.methodLink RX3 160 yX3_figure, Cond.instanceMethod yX3_figure, Cond.selects RX3 yX3_figure yX3_figure, Cond.code yX3_figure cX3_figure 2 none, Cond.fieldLink RX3 89 "ReaderYardModel" "length" "I", Cond.fieldLink RX3 7 "ReaderYardModel" "signs" "[I", Cond.constantLong RX3 166 (10), Cond.constantLong RX3 168 (48), Cond.methodLink RX3 85 yX3_in, Cond.static yX3_in, Cond.code yX3_in cX3_in 3 (some .boolean), Cond.methodLink RX3 163 yX3_acts, Cond.instanceMethod yX3_acts, Cond.selects RX3 yX3_acts yX3_acts, Cond.code yX3_acts cX3_acts 7 none, Cond.methodLink RX3 170 yX3_height, Cond.instanceMethod yX3_height, Cond.selects RX3 yX3_height yX3_height, Cond.code yX3_height cX3_height 1 (some .int)]
def wsX3_others : List Cond := .code yX3_others cX3_others 4 none :: ((wsX3_others_r1 ++ (wsX3_others_r2 ++ wsX3_others_r3)) ++ wsX30)
def wsX3_goesOn_r1 : List Cond := [Cond.fieldLink RX3 96 "ReaderYardModel" "deep" "I", Cond.fieldLink RX3 47 "ReaderYardModel" "reader" "[I", Cond.fieldLink RX3 13 "ReaderYardModel" "sorts" "[I", Cond.methodLink RX3 131 yX3_sign, Cond.instanceMethod yX3_sign, Cond.selects RX3 yX3_sign yX3_sign, Cond.initialized RX3, Cond.code yX3_sign cX3_sign 6 none, Cond.fieldLink RX3 53 "ReaderYardModel" "start" "[I", Cond.fieldLink RX3 89 "ReaderYardModel" "length" "I", Cond.fieldLink RX3 7 "ReaderYardModel" "signs" "[I", Cond.fieldLink RX3 16 "ReaderYardModel" "as" "[I", Cond.fieldLink RX3 19 "ReaderYardModel" "bs" "[I", Cond.methodLink RX3 140 yX3_ends, Cond.instanceMethod yX3_ends, Cond.selects RX3 yX3_ends yX3_ends, Cond.code yX3_ends cX3_ends 2 none, Cond.fieldLink RX3 128 "ReaderYardModel" "result" "I", Cond.methodLink RX3 124 yX3_takeBack, Cond.instanceMethod yX3_takeBack, Cond.selects RX3 yX3_takeBack yX3_takeBack, Cond.code yX3_takeBack cX3_takeBack 2 none, Cond.fieldLink RX3 63 "ReaderYardModel" "keptTop" "[I", Cond.fieldLink RX3 108 "ReaderYardModel" "onTop" "I"]
def wsX3_goesOn_r2 : List Cond := [Cond.fieldLink RX3 66 "ReaderYardModel" "keptChain" "[I", Cond.fieldLink RX3 111 "ReaderYardModel" "chain" "I", Cond.fieldLink RX3 69 "ReaderYardModel" "keptMarks" "[I", Cond.fieldLink RX3 114 "ReaderYardModel" "marks" "I", Cond.methodLink RX3 85 yX3_in, Cond.static yX3_in, Cond.code yX3_in cX3_in 3 (some .boolean), Cond.methodLink RX3 134 yX3_joins, Cond.instanceMethod yX3_joins, Cond.selects RX3 yX3_joins yX3_joins, Cond.code yX3_joins cX3_joins 5 none, Cond.fieldLink RX3 50 "ReaderYardModel" "phase" "[I", Cond.fieldLink RX3 59 "ReaderYardModel" "barred" "[Z", Cond.methodLink RX3 143 yX3_keep, Cond.instanceMethod yX3_keep, Cond.selects RX3 yX3_keep yX3_keep, Cond.code yX3_keep cX3_keep 2 none, Cond.fieldLink RX3 72 "ReaderYardModel" "laterTop" "[I", Cond.fieldLink RX3 75 "ReaderYardModel" "laterChain" "[I", Cond.fieldLink RX3 78 "ReaderYardModel" "laterMarks" "[I", Cond.methodLink RX3 146 yX3_asks, Cond.instanceMethod yX3_asks, Cond.selects RX3 yX3_asks yX3_asks, Cond.code yX3_asks cX3_asks 3 none]
def wsX3_goesOn_r3 : List Cond := [Cond.methodLink RX3 120 yX3_begin, Cond.instanceMethod yX3_begin, Cond.selects RX3 yX3_begin yX3_begin, Cond.code yX3_begin cX3_begin 3 none, Cond.fieldLink RX3 99 "ReaderYardModel" "fault" "I", Cond.fieldLink RX3 102 "ReaderYardModel" "steps" "I", Cond.fieldLink RX3 105 "ReaderYardModel" "allSteps" "I", Cond.fieldLink RX3 22 "ReaderYardModel" "begins" "[I", Cond.fieldLink RX3 56 "ReaderYardModel" "came" "[I", Cond.fieldLink RX3 117 "ReaderYardModel" "deepest" "I", Cond.methodLink RX3 149 yX3_again, Cond.instanceMethod yX3_again, Cond.selects RX3 yX3_again yX3_again, Cond.code yX3_again cX3_again 4 none, Cond.methodLink RX3 137 yX3_others, Cond.instanceMethod yX3_others, Cond.selects RX3 yX3_others yX3_others, Cond.code yX3_others cX3_others 4 none, Cond.fieldLink RX3 25 "ReaderYardModel" "names" "[I", Cond.fieldLink RX3 38 "ReaderYardModel" "markOf" "[I", Cond.fieldLink RX3 41 "ReaderYardModel" "markFrom" "[I", Cond.fieldLink RX3 44 "ReaderYardModel" "markTo" "[I", Cond.methodLink RX3 153 yX3_bars, Cond.instanceMethod yX3_bars]
def wsX3_goesOn_r4 : List Cond := [Cond.selects RX3 yX3_bars yX3_bars, Cond.code yX3_bars cX3_bars 3 none, Cond.methodLink RX3 156 yX3_lay, Cond.instanceMethod yX3_lay, Cond.selects RX3 yX3_lay yX3_lay, Cond.code yX3_lay cX3_lay 4 none, Cond.fieldLink RX3 28 "ReaderYardModel" "laid" "[J", Cond.fieldLink RX3 32 "ReaderYardModel" "below" "[I", Cond.fieldLink RX3 35 "ReaderYardModel" "tall" "[I", Cond.methodLink RX3 160 yX3_figure, Cond.instanceMethod yX3_figure, Cond.selects RX3 yX3_figure yX3_figure, Cond.code yX3_figure cX3_figure 2 none, Cond.constantLong RX3 166 (10), Cond.constantLong RX3 168 (48), Cond.methodLink RX3 163 yX3_acts, Cond.instanceMethod yX3_acts, Cond.selects RX3 yX3_acts yX3_acts, Cond.code yX3_acts cX3_acts 7 none, Cond.methodLink RX3 170 yX3_height, Cond.instanceMethod yX3_height, Cond.selects RX3 yX3_height yX3_height, Cond.code yX3_height cX3_height 1 (some .int)]
def wsX3_goesOn : List Cond := .code yX3_goesOn cX3_goesOn 4 none :: ((wsX3_goesOn_r1 ++ (wsX3_goesOn_r2 ++ (wsX3_goesOn_r3 ++ wsX3_goesOn_r4))) ++ wsX30)
def wsX3_ready : List Cond := .code yX3_ready cX3_ready 1 none :: ([.fieldLink RX3 111 "ReaderYardModel" "chain" "I", .fieldLink RX3 108 "ReaderYardModel" "onTop" "I", .fieldLink RX3 114 "ReaderYardModel" "marks" "I", .fieldLink RX3 99 "ReaderYardModel" "fault" "I", .fieldLink RX3 102 "ReaderYardModel" "steps" "I", .fieldLink RX3 96 "ReaderYardModel" "deep" "I", .fieldLink RX3 117 "ReaderYardModel" "deepest" "I"] ++ wsX30)
def wsX3_reads_r1 : List Cond := [Cond.fieldLink RX3 96 "ReaderYardModel" "deep" "I", Cond.fieldLink RX3 99 "ReaderYardModel" "fault" "I", Cond.methodLink RX3 120 yX3_begin, Cond.instanceMethod yX3_begin, Cond.selects RX3 yX3_begin yX3_begin, Cond.initialized RX3, Cond.code yX3_begin cX3_begin 3 none, Cond.fieldLink RX3 102 "ReaderYardModel" "steps" "I", Cond.fieldLink RX3 105 "ReaderYardModel" "allSteps" "I", Cond.fieldLink RX3 22 "ReaderYardModel" "begins" "[I", Cond.fieldLink RX3 47 "ReaderYardModel" "reader" "[I", Cond.fieldLink RX3 50 "ReaderYardModel" "phase" "[I", Cond.fieldLink RX3 53 "ReaderYardModel" "start" "[I", Cond.fieldLink RX3 56 "ReaderYardModel" "came" "[I", Cond.fieldLink RX3 59 "ReaderYardModel" "barred" "[Z", Cond.fieldLink RX3 63 "ReaderYardModel" "keptTop" "[I", Cond.fieldLink RX3 108 "ReaderYardModel" "onTop" "I", Cond.fieldLink RX3 66 "ReaderYardModel" "keptChain" "[I", Cond.fieldLink RX3 111 "ReaderYardModel" "chain" "I", Cond.fieldLink RX3 69 "ReaderYardModel" "keptMarks" "[I", Cond.fieldLink RX3 114 "ReaderYardModel" "marks" "I", Cond.fieldLink RX3 117 "ReaderYardModel" "deepest" "I", Cond.methodLink RX3 174 yX3_goesOn, Cond.instanceMethod yX3_goesOn]
def wsX3_reads_r2 : List Cond := [Cond.selects RX3 yX3_goesOn yX3_goesOn, Cond.code yX3_goesOn cX3_goesOn 4 none, Cond.fieldLink RX3 13 "ReaderYardModel" "sorts" "[I", Cond.methodLink RX3 131 yX3_sign, Cond.instanceMethod yX3_sign, Cond.selects RX3 yX3_sign yX3_sign, Cond.code yX3_sign cX3_sign 6 none, Cond.fieldLink RX3 89 "ReaderYardModel" "length" "I", Cond.fieldLink RX3 7 "ReaderYardModel" "signs" "[I", Cond.fieldLink RX3 16 "ReaderYardModel" "as" "[I", Cond.fieldLink RX3 19 "ReaderYardModel" "bs" "[I", Cond.methodLink RX3 140 yX3_ends, Cond.instanceMethod yX3_ends, Cond.selects RX3 yX3_ends yX3_ends, Cond.code yX3_ends cX3_ends 2 none, Cond.fieldLink RX3 128 "ReaderYardModel" "result" "I", Cond.methodLink RX3 124 yX3_takeBack, Cond.instanceMethod yX3_takeBack, Cond.selects RX3 yX3_takeBack yX3_takeBack, Cond.code yX3_takeBack cX3_takeBack 2 none, Cond.methodLink RX3 85 yX3_in, Cond.static yX3_in, Cond.code yX3_in cX3_in 3 (some .boolean), Cond.methodLink RX3 134 yX3_joins]
def wsX3_reads_r3 : List Cond := [Cond.instanceMethod yX3_joins, Cond.selects RX3 yX3_joins yX3_joins, Cond.code yX3_joins cX3_joins 5 none, Cond.methodLink RX3 143 yX3_keep, Cond.instanceMethod yX3_keep, Cond.selects RX3 yX3_keep yX3_keep, Cond.code yX3_keep cX3_keep 2 none, Cond.fieldLink RX3 72 "ReaderYardModel" "laterTop" "[I", Cond.fieldLink RX3 75 "ReaderYardModel" "laterChain" "[I", Cond.fieldLink RX3 78 "ReaderYardModel" "laterMarks" "[I", Cond.methodLink RX3 146 yX3_asks, Cond.instanceMethod yX3_asks, Cond.selects RX3 yX3_asks yX3_asks, Cond.code yX3_asks cX3_asks 3 none, Cond.methodLink RX3 149 yX3_again, Cond.instanceMethod yX3_again, Cond.selects RX3 yX3_again yX3_again, Cond.code yX3_again cX3_again 4 none, Cond.methodLink RX3 137 yX3_others, Cond.instanceMethod yX3_others, Cond.selects RX3 yX3_others yX3_others, Cond.code yX3_others cX3_others 4 none, Cond.fieldLink RX3 25 "ReaderYardModel" "names" "[I", Cond.fieldLink RX3 38 "ReaderYardModel" "markOf" "[I"]
def wsX3_reads_r4 : List Cond := [Cond.fieldLink RX3 41 "ReaderYardModel" "markFrom" "[I", Cond.fieldLink RX3 44 "ReaderYardModel" "markTo" "[I", Cond.methodLink RX3 153 yX3_bars, Cond.instanceMethod yX3_bars, Cond.selects RX3 yX3_bars yX3_bars, Cond.code yX3_bars cX3_bars 3 none, Cond.methodLink RX3 156 yX3_lay, Cond.instanceMethod yX3_lay, Cond.selects RX3 yX3_lay yX3_lay, Cond.code yX3_lay cX3_lay 4 none, Cond.fieldLink RX3 28 "ReaderYardModel" "laid" "[J", Cond.fieldLink RX3 32 "ReaderYardModel" "below" "[I", Cond.fieldLink RX3 35 "ReaderYardModel" "tall" "[I", Cond.methodLink RX3 160 yX3_figure, Cond.instanceMethod yX3_figure, Cond.selects RX3 yX3_figure yX3_figure, Cond.code yX3_figure cX3_figure 2 none, Cond.constantLong RX3 166 (10), Cond.constantLong RX3 168 (48), Cond.methodLink RX3 163 yX3_acts, Cond.instanceMethod yX3_acts, Cond.selects RX3 yX3_acts yX3_acts, Cond.code yX3_acts cX3_acts 7 none, Cond.methodLink RX3 170 yX3_height]
def wsX3_reads_r5 : List Cond := [Cond.instanceMethod yX3_height, Cond.selects RX3 yX3_height yX3_height, Cond.code yX3_height cX3_height 1 (some .int)]
def wsX3_reads : List Cond := .code yX3_reads cX3_reads 3 none :: ((wsX3_reads_r1 ++ (wsX3_reads_r2 ++ (wsX3_reads_r3 ++ (wsX3_reads_r4 ++ wsX3_reads_r5)))) ++ wsX30)
def wsX3_faulty : List Cond := .code yX3_faulty cX3_faulty 1 (some .int) :: ([.fieldLink RX3 177 "ReaderYardModel" "faults" "I", .fieldLink RX3 99 "ReaderYardModel" "fault" "I", .fieldLink RX3 180 "ReaderYardModel" "lastFault" "I"] ++ wsX30)
def wsX3_read_r1 : List Cond := [Cond.fieldLink RX3 89 "ReaderYardModel" "length" "I", Cond.fieldLink RX3 99 "ReaderYardModel" "fault" "I", Cond.fieldLink RX3 128 "ReaderYardModel" "result" "I", Cond.methodLink RX3 92 yX3_isReader, Cond.instanceMethod yX3_isReader, Cond.selects RX3 yX3_isReader yX3_isReader, Cond.initialized RX3, Cond.code yX3_isReader cX3_isReader 2 (some .boolean), Cond.fieldLink RX3 81 "ReaderYardModel" "many" "I", Cond.methodLink RX3 85 yX3_in, Cond.static yX3_in, Cond.code yX3_in cX3_in 3 (some .boolean), Cond.methodLink RX3 183 yX3_ready, Cond.instanceMethod yX3_ready, Cond.selects RX3 yX3_ready yX3_ready, Cond.code yX3_ready cX3_ready 1 none, Cond.fieldLink RX3 111 "ReaderYardModel" "chain" "I", Cond.fieldLink RX3 108 "ReaderYardModel" "onTop" "I", Cond.fieldLink RX3 114 "ReaderYardModel" "marks" "I", Cond.fieldLink RX3 102 "ReaderYardModel" "steps" "I", Cond.fieldLink RX3 96 "ReaderYardModel" "deep" "I", Cond.fieldLink RX3 117 "ReaderYardModel" "deepest" "I", Cond.methodLink RX3 186 yX3_reads, Cond.instanceMethod yX3_reads]
def wsX3_read_r2 : List Cond := [Cond.selects RX3 yX3_reads yX3_reads, Cond.code yX3_reads cX3_reads 3 none, Cond.methodLink RX3 120 yX3_begin, Cond.instanceMethod yX3_begin, Cond.selects RX3 yX3_begin yX3_begin, Cond.code yX3_begin cX3_begin 3 none, Cond.fieldLink RX3 105 "ReaderYardModel" "allSteps" "I", Cond.fieldLink RX3 22 "ReaderYardModel" "begins" "[I", Cond.fieldLink RX3 47 "ReaderYardModel" "reader" "[I", Cond.fieldLink RX3 50 "ReaderYardModel" "phase" "[I", Cond.fieldLink RX3 53 "ReaderYardModel" "start" "[I", Cond.fieldLink RX3 56 "ReaderYardModel" "came" "[I", Cond.fieldLink RX3 59 "ReaderYardModel" "barred" "[Z", Cond.fieldLink RX3 63 "ReaderYardModel" "keptTop" "[I", Cond.fieldLink RX3 66 "ReaderYardModel" "keptChain" "[I", Cond.fieldLink RX3 69 "ReaderYardModel" "keptMarks" "[I", Cond.methodLink RX3 174 yX3_goesOn, Cond.instanceMethod yX3_goesOn, Cond.selects RX3 yX3_goesOn yX3_goesOn, Cond.code yX3_goesOn cX3_goesOn 4 none, Cond.fieldLink RX3 13 "ReaderYardModel" "sorts" "[I", Cond.methodLink RX3 131 yX3_sign, Cond.instanceMethod yX3_sign, Cond.selects RX3 yX3_sign yX3_sign]
def wsX3_read_r3 : List Cond := [Cond.code yX3_sign cX3_sign 6 none, Cond.fieldLink RX3 7 "ReaderYardModel" "signs" "[I", Cond.fieldLink RX3 16 "ReaderYardModel" "as" "[I", Cond.fieldLink RX3 19 "ReaderYardModel" "bs" "[I", Cond.methodLink RX3 140 yX3_ends, Cond.instanceMethod yX3_ends, Cond.selects RX3 yX3_ends yX3_ends, Cond.code yX3_ends cX3_ends 2 none, Cond.methodLink RX3 124 yX3_takeBack, Cond.instanceMethod yX3_takeBack, Cond.selects RX3 yX3_takeBack yX3_takeBack, Cond.code yX3_takeBack cX3_takeBack 2 none, Cond.methodLink RX3 134 yX3_joins, Cond.instanceMethod yX3_joins, Cond.selects RX3 yX3_joins yX3_joins, Cond.code yX3_joins cX3_joins 5 none, Cond.methodLink RX3 143 yX3_keep, Cond.instanceMethod yX3_keep, Cond.selects RX3 yX3_keep yX3_keep, Cond.code yX3_keep cX3_keep 2 none, Cond.fieldLink RX3 72 "ReaderYardModel" "laterTop" "[I", Cond.fieldLink RX3 75 "ReaderYardModel" "laterChain" "[I", Cond.fieldLink RX3 78 "ReaderYardModel" "laterMarks" "[I", Cond.methodLink RX3 146 yX3_asks]
def wsX3_read_r4 : List Cond := [Cond.instanceMethod yX3_asks, Cond.selects RX3 yX3_asks yX3_asks, Cond.code yX3_asks cX3_asks 3 none, Cond.methodLink RX3 149 yX3_again, Cond.instanceMethod yX3_again, Cond.selects RX3 yX3_again yX3_again, Cond.code yX3_again cX3_again 4 none, Cond.methodLink RX3 137 yX3_others, Cond.instanceMethod yX3_others, Cond.selects RX3 yX3_others yX3_others, Cond.code yX3_others cX3_others 4 none, Cond.fieldLink RX3 25 "ReaderYardModel" "names" "[I", Cond.fieldLink RX3 38 "ReaderYardModel" "markOf" "[I", Cond.fieldLink RX3 41 "ReaderYardModel" "markFrom" "[I", Cond.fieldLink RX3 44 "ReaderYardModel" "markTo" "[I", Cond.methodLink RX3 153 yX3_bars, Cond.instanceMethod yX3_bars, Cond.selects RX3 yX3_bars yX3_bars, Cond.code yX3_bars cX3_bars 3 none, Cond.methodLink RX3 156 yX3_lay, Cond.instanceMethod yX3_lay, Cond.selects RX3 yX3_lay yX3_lay, Cond.code yX3_lay cX3_lay 4 none, Cond.fieldLink RX3 28 "ReaderYardModel" "laid" "[J"]
def wsX3_read_r5 : List Cond := [Cond.fieldLink RX3 32 "ReaderYardModel" "below" "[I", Cond.fieldLink RX3 35 "ReaderYardModel" "tall" "[I", Cond.methodLink RX3 160 yX3_figure, Cond.instanceMethod yX3_figure, Cond.selects RX3 yX3_figure yX3_figure, Cond.code yX3_figure cX3_figure 2 none, Cond.constantLong RX3 166 (10), Cond.constantLong RX3 168 (48), Cond.methodLink RX3 163 yX3_acts, Cond.instanceMethod yX3_acts, Cond.selects RX3 yX3_acts yX3_acts, Cond.code yX3_acts cX3_acts 7 none, Cond.methodLink RX3 170 yX3_height, Cond.instanceMethod yX3_height, Cond.selects RX3 yX3_height yX3_height, Cond.code yX3_height cX3_height 1 (some .int), Cond.methodLink RX3 189 yX3_faulty, Cond.instanceMethod yX3_faulty, Cond.selects RX3 yX3_faulty yX3_faulty, Cond.code yX3_faulty cX3_faulty 1 (some .int), Cond.fieldLink RX3 177 "ReaderYardModel" "faults" "I", Cond.fieldLink RX3 180 "ReaderYardModel" "lastFault" "I"]
def wsX3_read : List Cond := .code yX3_read cX3_read 3 (some .int) :: ((wsX3_read_r1 ++ (wsX3_read_r2 ++ (wsX3_read_r3 ++ (wsX3_read_r4 ++ wsX3_read_r5)))) ++ wsX30)
def wsX3_all_r1 : List Cond := [Cond.fieldLink RX3 108 "ReaderYardModel" "onTop" "I", Cond.fieldLink RX3 111 "ReaderYardModel" "chain" "I", Cond.fieldLink RX3 114 "ReaderYardModel" "marks" "I", Cond.fieldLink RX3 99 "ReaderYardModel" "fault" "I", Cond.fieldLink RX3 128 "ReaderYardModel" "result" "I", Cond.methodLink RX3 92 yX3_isReader, Cond.instanceMethod yX3_isReader, Cond.selects RX3 yX3_isReader yX3_isReader, Cond.initialized RX3, Cond.code yX3_isReader cX3_isReader 2 (some .boolean), Cond.fieldLink RX3 81 "ReaderYardModel" "many" "I", Cond.methodLink RX3 85 yX3_in, Cond.static yX3_in, Cond.code yX3_in cX3_in 3 (some .boolean), Cond.methodLink RX3 183 yX3_ready, Cond.instanceMethod yX3_ready, Cond.selects RX3 yX3_ready yX3_ready, Cond.code yX3_ready cX3_ready 1 none, Cond.fieldLink RX3 102 "ReaderYardModel" "steps" "I", Cond.fieldLink RX3 96 "ReaderYardModel" "deep" "I", Cond.fieldLink RX3 117 "ReaderYardModel" "deepest" "I", Cond.methodLink RX3 186 yX3_reads, Cond.instanceMethod yX3_reads, Cond.selects RX3 yX3_reads yX3_reads]
def wsX3_all_r2 : List Cond := [Cond.code yX3_reads cX3_reads 3 none, Cond.methodLink RX3 120 yX3_begin, Cond.instanceMethod yX3_begin, Cond.selects RX3 yX3_begin yX3_begin, Cond.code yX3_begin cX3_begin 3 none, Cond.fieldLink RX3 105 "ReaderYardModel" "allSteps" "I", Cond.fieldLink RX3 22 "ReaderYardModel" "begins" "[I", Cond.fieldLink RX3 47 "ReaderYardModel" "reader" "[I", Cond.fieldLink RX3 50 "ReaderYardModel" "phase" "[I", Cond.fieldLink RX3 53 "ReaderYardModel" "start" "[I", Cond.fieldLink RX3 56 "ReaderYardModel" "came" "[I", Cond.fieldLink RX3 59 "ReaderYardModel" "barred" "[Z", Cond.fieldLink RX3 63 "ReaderYardModel" "keptTop" "[I", Cond.fieldLink RX3 66 "ReaderYardModel" "keptChain" "[I", Cond.fieldLink RX3 69 "ReaderYardModel" "keptMarks" "[I", Cond.methodLink RX3 174 yX3_goesOn, Cond.instanceMethod yX3_goesOn, Cond.selects RX3 yX3_goesOn yX3_goesOn, Cond.code yX3_goesOn cX3_goesOn 4 none, Cond.fieldLink RX3 13 "ReaderYardModel" "sorts" "[I", Cond.methodLink RX3 131 yX3_sign, Cond.instanceMethod yX3_sign, Cond.selects RX3 yX3_sign yX3_sign, Cond.code yX3_sign cX3_sign 6 none]
def wsX3_all_r3 : List Cond := [Cond.fieldLink RX3 89 "ReaderYardModel" "length" "I", Cond.fieldLink RX3 7 "ReaderYardModel" "signs" "[I", Cond.fieldLink RX3 16 "ReaderYardModel" "as" "[I", Cond.fieldLink RX3 19 "ReaderYardModel" "bs" "[I", Cond.methodLink RX3 140 yX3_ends, Cond.instanceMethod yX3_ends, Cond.selects RX3 yX3_ends yX3_ends, Cond.code yX3_ends cX3_ends 2 none, Cond.methodLink RX3 124 yX3_takeBack, Cond.instanceMethod yX3_takeBack, Cond.selects RX3 yX3_takeBack yX3_takeBack, Cond.code yX3_takeBack cX3_takeBack 2 none, Cond.methodLink RX3 134 yX3_joins, Cond.instanceMethod yX3_joins, Cond.selects RX3 yX3_joins yX3_joins, Cond.code yX3_joins cX3_joins 5 none, Cond.methodLink RX3 143 yX3_keep, Cond.instanceMethod yX3_keep, Cond.selects RX3 yX3_keep yX3_keep, Cond.code yX3_keep cX3_keep 2 none, Cond.fieldLink RX3 72 "ReaderYardModel" "laterTop" "[I", Cond.fieldLink RX3 75 "ReaderYardModel" "laterChain" "[I", Cond.fieldLink RX3 78 "ReaderYardModel" "laterMarks" "[I", Cond.methodLink RX3 146 yX3_asks]
def wsX3_all_r4 : List Cond := [Cond.instanceMethod yX3_asks, Cond.selects RX3 yX3_asks yX3_asks, Cond.code yX3_asks cX3_asks 3 none, Cond.methodLink RX3 149 yX3_again, Cond.instanceMethod yX3_again, Cond.selects RX3 yX3_again yX3_again, Cond.code yX3_again cX3_again 4 none, Cond.methodLink RX3 137 yX3_others, Cond.instanceMethod yX3_others, Cond.selects RX3 yX3_others yX3_others, Cond.code yX3_others cX3_others 4 none, Cond.fieldLink RX3 25 "ReaderYardModel" "names" "[I", Cond.fieldLink RX3 38 "ReaderYardModel" "markOf" "[I", Cond.fieldLink RX3 41 "ReaderYardModel" "markFrom" "[I", Cond.fieldLink RX3 44 "ReaderYardModel" "markTo" "[I", Cond.methodLink RX3 153 yX3_bars, Cond.instanceMethod yX3_bars, Cond.selects RX3 yX3_bars yX3_bars, Cond.code yX3_bars cX3_bars 3 none, Cond.methodLink RX3 156 yX3_lay, Cond.instanceMethod yX3_lay, Cond.selects RX3 yX3_lay yX3_lay, Cond.code yX3_lay cX3_lay 4 none, Cond.fieldLink RX3 28 "ReaderYardModel" "laid" "[J"]
def wsX3_all_r5 : List Cond := [Cond.fieldLink RX3 32 "ReaderYardModel" "below" "[I", Cond.fieldLink RX3 35 "ReaderYardModel" "tall" "[I", Cond.methodLink RX3 160 yX3_figure, Cond.instanceMethod yX3_figure, Cond.selects RX3 yX3_figure yX3_figure, Cond.code yX3_figure cX3_figure 2 none, Cond.constantLong RX3 166 (10), Cond.constantLong RX3 168 (48), Cond.methodLink RX3 163 yX3_acts, Cond.instanceMethod yX3_acts, Cond.selects RX3 yX3_acts yX3_acts, Cond.code yX3_acts cX3_acts 7 none, Cond.methodLink RX3 170 yX3_height, Cond.instanceMethod yX3_height, Cond.selects RX3 yX3_height yX3_height, Cond.code yX3_height cX3_height 1 (some .int), Cond.methodLink RX3 189 yX3_faulty, Cond.instanceMethod yX3_faulty, Cond.selects RX3 yX3_faulty yX3_faulty, Cond.code yX3_faulty cX3_faulty 1 (some .int), Cond.fieldLink RX3 177 "ReaderYardModel" "faults" "I", Cond.fieldLink RX3 180 "ReaderYardModel" "lastFault" "I"]
def wsX3_all : List Cond := .code yX3_all cX3_all 8 (some .int) :: ((wsX3_all_r1 ++ (wsX3_all_r2 ++ (wsX3_all_r3 ++ (wsX3_all_r4 ++ wsX3_all_r5)))) ++ wsX30)
def wsX3_pile : List Cond := .code yX3_pile cX3_pile 4 (some .long) :: ([.fieldLink RX3 108 "ReaderYardModel" "onTop" "I", .fieldLink RX3 32 "ReaderYardModel" "below" "[I", .fieldLink RX3 28 "ReaderYardModel" "laid" "[J", .methodLink RX3 170 yX3_height, .instanceMethod yX3_height, .selects RX3 yX3_height yX3_height, .initialized RX3, .code yX3_height cX3_height 1 (some .int), .fieldLink RX3 35 "ReaderYardModel" "tall" "[I", .methodLink RX3 85 yX3_in, .static yX3_in, .code yX3_in cX3_in 3 (some .boolean)] ++ wsX30)
def wsX3_mark : List Cond := .code yX3_mark cX3_mark 3 (some .int) :: ([.fieldLink RX3 114 "ReaderYardModel" "marks" "I", .fieldLink RX3 38 "ReaderYardModel" "markOf" "[I", .fieldLink RX3 41 "ReaderYardModel" "markFrom" "[I", .fieldLink RX3 44 "ReaderYardModel" "markTo" "[I", .methodLink RX3 85 yX3_in, .static yX3_in, .initialized RX3, .code yX3_in cX3_in 3 (some .boolean)] ++ wsX30)
def wsX3_count : List Cond := .code yX3_count cX3_count 2 (some .int) :: ([.fieldLink RX3 89 "ReaderYardModel" "length" "I", .fieldLink RX3 81 "ReaderYardModel" "many" "I", .fieldLink RX3 114 "ReaderYardModel" "marks" "I", .fieldLink RX3 102 "ReaderYardModel" "steps" "I", .fieldLink RX3 117 "ReaderYardModel" "deepest" "I", .fieldLink RX3 105 "ReaderYardModel" "allSteps" "I", .fieldLink RX3 177 "ReaderYardModel" "faults" "I", .fieldLink RX3 180 "ReaderYardModel" "lastFault" "I", .methodLink RX3 170 yX3_height, .instanceMethod yX3_height, .selects RX3 yX3_height yX3_height, .initialized RX3, .code yX3_height cX3_height 1 (some .int), .fieldLink RX3 108 "ReaderYardModel" "onTop" "I", .fieldLink RX3 35 "ReaderYardModel" "tall" "[I"] ++ wsX30)
def wsX3_began : List Cond := .code yX3_began cX3_began 2 (some .int) :: ([.fieldLink RX3 22 "ReaderYardModel" "begins" "[I", .methodLink RX3 92 yX3_isReader, .instanceMethod yX3_isReader, .selects RX3 yX3_isReader yX3_isReader, .initialized RX3, .code yX3_isReader cX3_isReader 2 (some .boolean), .fieldLink RX3 81 "ReaderYardModel" "many" "I", .methodLink RX3 85 yX3_in, .static yX3_in, .code yX3_in cX3_in 3 (some .boolean)] ++ wsX30)
def wsJ9_max_7cf53 : List Cond := .code yJ9_max_7cf53 cJ9_max_7cf53 2 (some .int) :: ([])
def wsL_law_r1 : List Cond := [Cond.classLink RL 7 RX2, Cond.instantiable RX2 16, Cond.initialized RX2, Cond.classLink RL 10 RX3, Cond.instantiable RX3 36, Cond.initialized RX3, Cond.constantLong RL 13 (4294967295), Cond.methodLink RL 9 yX2_init, Cond.instanceMethod yX2_init, Cond.code yX2_init cX2_init 1 none, Cond.methodLink RX2 1 objectInit, Cond.instanceMethod objectInit, Cond.code objectInit ⟨#[0xb1]⟩ 1 none, Cond.arrayClass .byte, Cond.fieldLink RX2 9 "ReaderYard" "signs" "[B", Cond.arrayClass .int, Cond.fieldLink RX2 13 "ReaderYard" "sorts" "[I", Cond.fieldLink RX2 17 "ReaderYard" "firsts" "[I", Cond.fieldLink RX2 20 "ReaderYard" "seconds" "[I", Cond.fieldLink RX2 23 "ReaderYard" "begun" "[I", Cond.fieldLink RX2 26 "ReaderYard" "names" "[I", Cond.arrayClass .boolean, Cond.fieldLink RX2 29 "ReaderYard" "barred" "[Z", Cond.classLink RX2 33 RX1]
def wsL_law_r2 : List Cond := [Cond.instantiable RX1 5, Cond.initialized RX1, Cond.fieldLink RX2 36 "ReaderYard" "numbers" "LReaderYard$Pile;", Cond.classLink RX2 40 RX0, Cond.instantiable RX0 4, Cond.initialized RX0, Cond.fieldLink RX2 43 "ReaderYard" "marks" "LReaderYard$Marks;", Cond.instanceMethod yX1_init, Cond.code yX1_init cX1_init 1 none, Cond.methodLink RX1 3 objectInit, Cond.arrayClass .long, Cond.fieldLink RX1 9 "ReaderYard$Pile" "values" "[J", Cond.fieldLink RX1 15 "ReaderYard$Pile" "belows" "[I", Cond.fieldLink RX1 19 "ReaderYard$Pile" "heights" "[I", Cond.instanceMethod yX0_init, Cond.code yX0_init cX0_init 1 none, Cond.methodLink RX0 3 objectInit, Cond.fieldLink RX0 9 "ReaderYard$Marks" "labels" "[I", Cond.fieldLink RX0 15 "ReaderYard$Marks" "froms" "[I", Cond.fieldLink RX0 18 "ReaderYard$Marks" "tos" "[I", Cond.methodLink RX2 47 yJ7_fill_53178, Cond.static yJ7_fill_53178, Cond.initialized RJ7, Cond.code yJ7_fill_53178 cJ7_fill_53178 4 none]
def wsL_law_r3 : List Cond := [Cond.methodLink RX2 53 yX2_addReader, Cond.instanceMethod yX2_addReader, Cond.selects RX2 yX2_addReader yX2_addReader, Cond.code yX2_addReader cX2_addReader 5 (some .int), Cond.fieldLink RX2 70 "ReaderYard" "readerCount" "I", Cond.methodLink RL 12 yX3_init, Cond.instanceMethod yX3_init, Cond.code yX3_init cX3_init 2 none, Cond.methodLink RX3 1 objectInit, Cond.fieldLink RX3 7 "ReaderYardModel" "signs" "[I", Cond.fieldLink RX3 13 "ReaderYardModel" "sorts" "[I", Cond.fieldLink RX3 16 "ReaderYardModel" "as" "[I", Cond.fieldLink RX3 19 "ReaderYardModel" "bs" "[I", Cond.fieldLink RX3 22 "ReaderYardModel" "begins" "[I", Cond.fieldLink RX3 25 "ReaderYardModel" "names" "[I", Cond.fieldLink RX3 28 "ReaderYardModel" "laid" "[J", Cond.fieldLink RX3 32 "ReaderYardModel" "below" "[I", Cond.fieldLink RX3 35 "ReaderYardModel" "tall" "[I", Cond.fieldLink RX3 38 "ReaderYardModel" "markOf" "[I", Cond.fieldLink RX3 41 "ReaderYardModel" "markFrom" "[I", Cond.fieldLink RX3 44 "ReaderYardModel" "markTo" "[I", Cond.fieldLink RX3 47 "ReaderYardModel" "reader" "[I", Cond.fieldLink RX3 50 "ReaderYardModel" "phase" "[I", Cond.fieldLink RX3 53 "ReaderYardModel" "start" "[I"]
def wsL_law_r4 : List Cond := [Cond.fieldLink RX3 56 "ReaderYardModel" "came" "[I", Cond.fieldLink RX3 59 "ReaderYardModel" "barred" "[Z", Cond.fieldLink RX3 63 "ReaderYardModel" "keptTop" "[I", Cond.fieldLink RX3 66 "ReaderYardModel" "keptChain" "[I", Cond.fieldLink RX3 69 "ReaderYardModel" "keptMarks" "[I", Cond.fieldLink RX3 72 "ReaderYardModel" "laterTop" "[I", Cond.fieldLink RX3 75 "ReaderYardModel" "laterChain" "[I", Cond.fieldLink RX3 78 "ReaderYardModel" "laterMarks" "[I", Cond.fieldLink RX3 81 "ReaderYardModel" "many" "I", Cond.methodLink RL 15 yX2_text, Cond.instanceMethod yX2_text, Cond.selects RX2 yX2_text yX2_text, Cond.code yX2_text cX2_text 5 (some .int), Cond.fieldLink RX2 57 "ReaderYard" "signCount" "I", Cond.constantLong RX2 61 (127), Cond.methodLink RL 19 yX3_text, Cond.instanceMethod yX3_text, Cond.selects RX3 yX3_text yX3_text, Cond.code yX3_text cX3_text 5 (some .int), Cond.fieldLink RX3 89 "ReaderYardModel" "length" "I", Cond.methodLink RX3 85 yX3_in, Cond.static yX3_in, Cond.code yX3_in cX3_in 3 (some .boolean), Cond.methodLink RL 20 yX2_clear]
def wsL_law_r5 : List Cond := [Cond.instanceMethod yX2_clear, Cond.selects RX2 yX2_clear yX2_clear, Cond.code yX2_clear cX2_clear 2 (some .int), Cond.methodLink RL 24 yX3_clear, Cond.instanceMethod yX3_clear, Cond.selects RX3 yX3_clear yX3_clear, Cond.code yX3_clear cX3_clear 2 (some .int), Cond.methodLink RL 25 yX2_reader, Cond.instanceMethod yX2_reader, Cond.selects RX2 yX2_reader yX2_reader, Cond.code yX2_reader cX2_reader 4 (some .int), Cond.methodLink RX2 63 yX2_fitsFirst, Cond.instanceMethod yX2_fitsFirst, Cond.selects RX2 yX2_fitsFirst yX2_fitsFirst, Cond.code yX2_fitsFirst cX2_fitsFirst 3 (some .boolean), Cond.methodLink RX2 77 yX2_isReader, Cond.instanceMethod yX2_isReader, Cond.selects RX2 yX2_isReader yX2_isReader, Cond.code yX2_isReader cX2_isReader 2 (some .boolean), Cond.methodLink RX2 73 yX2_isName, Cond.static yX2_isName, Cond.code yX2_isName cX2_isName 1 (some .boolean), Cond.methodLink RX2 67 yX2_fitsSecond, Cond.instanceMethod yX2_fitsSecond]
def wsL_law_r6 : List Cond := [Cond.selects RX2 yX2_fitsSecond yX2_fitsSecond, Cond.code yX2_fitsSecond cX2_fitsSecond 3 (some .boolean), Cond.methodLink RL 29 yX3_reader, Cond.instanceMethod yX3_reader, Cond.selects RX3 yX3_reader yX3_reader, Cond.code yX3_reader cX3_reader 5 (some .int), Cond.methodLink RX3 92 yX3_isReader, Cond.instanceMethod yX3_isReader, Cond.selects RX3 yX3_isReader yX3_isReader, Cond.code yX3_isReader cX3_isReader 2 (some .boolean), Cond.methodLink RL 30 yX2_name, Cond.instanceMethod yX2_name, Cond.selects RX2 yX2_name yX2_name, Cond.code yX2_name cX2_name 4 (some .int), Cond.methodLink RL 34 yX3_name, Cond.instanceMethod yX3_name, Cond.selects RX3 yX3_name yX3_name, Cond.code yX3_name cX3_name 4 (some .int), Cond.methodLink RL 35 yX2_read, Cond.instanceMethod yX2_read, Cond.selects RX2 yX2_read yX2_read, Cond.code yX2_read cX2_read 4 (some .int), Cond.methodLink RX2 80 yX2_startCall, Cond.instanceMethod yX2_startCall]
def wsL_law_r7 : List Cond := [Cond.selects RX2 yX2_startCall yX2_startCall, Cond.code yX2_startCall cX2_startCall 1 none, Cond.fieldLink RX2 97 "ReaderYard$Marks" "size" "I", Cond.fieldLink RX2 121 "ReaderYard" "steps" "I", Cond.fieldLink RX2 124 "ReaderYard" "deepest" "I", Cond.methodLink RX2 136 yX1_makeEmpty, Cond.instanceMethod yX1_makeEmpty, Cond.selects RX1 yX1_makeEmpty yX1_makeEmpty, Cond.code yX1_makeEmpty cX1_makeEmpty 1 none, Cond.fieldLink RX1 22 "ReaderYard$Pile" "used" "I", Cond.fieldLink RX1 26 "ReaderYard$Pile" "top" "I", Cond.methodLink RX2 83 yX2_follow, Cond.instanceMethod yX2_follow, Cond.selects RX2 yX2_follow yX2_follow, Cond.code yX2_follow cX2_follow 12 (some .int), Cond.fieldLink RX2 94 "ReaderYard$Pile" "top" "I", Cond.methodLink RX2 139 yX2_begin, Cond.instanceMethod yX2_begin, Cond.selects RX2 yX2_begin yX2_begin, Cond.code yX2_begin cX2_begin 3 (some .int), Cond.fieldLink RX2 127 "ReaderYard" "stepsEver" "I", Cond.methodLink RX2 154 Lib.Math.max.name, Cond.static Lib.Math.max.name, Cond.initialized "java/lang/Math"]
def wsL_law_r8 : List Cond := [Cond.code Lib.Math.max.name Lib.Math.max.code 2 (some .int), Cond.methodLink RX2 143 yX2_faultAnswer, Cond.static yX2_faultAnswer, Cond.code yX2_faultAnswer cX2_faultAnswer 1 (some .int), Cond.methodLink RX2 87 yX2_isFault, Cond.static yX2_isFault, Cond.code yX2_isFault cX2_isFault 1 (some .boolean), Cond.methodLink RX2 100 yX2_takeBack, Cond.instanceMethod yX2_takeBack, Cond.selects RX2 yX2_takeBack yX2_takeBack, Cond.code yX2_takeBack cX2_takeBack 3 none, Cond.methodLink RX2 147 yX2_turn, Cond.instanceMethod yX2_turn, Cond.selects RX2 yX2_turn yX2_turn, Cond.code yX2_turn cX2_turn 6 (some .int), Cond.methodLink RX2 159 yX0_add, Cond.instanceMethod yX0_add, Cond.selects RX0 yX0_add yX0_add, Cond.code yX0_add cX0_add 4 none, Cond.fieldLink RX0 21 "ReaderYard$Marks" "size" "I", Cond.methodLink RX2 151 yX2_readAlone, Cond.instanceMethod yX2_readAlone, Cond.selects RX2 yX2_readAlone yX2_readAlone, Cond.code yX2_readAlone cX2_readAlone 5 (some .int)]
def wsL_law_r9 : List Cond := [Cond.methodLink RX2 163 yX2_passSign, Cond.instanceMethod yX2_passSign, Cond.selects RX2 yX2_passSign yX2_passSign, Cond.code yX2_passSign cX2_passSign 5 (some .int), Cond.methodLink RX2 166 yX1_lay, Cond.instanceMethod yX1_lay, Cond.selects RX1 yX1_lay yX1_lay, Cond.code yX1_lay cX1_lay 5 none, Cond.methodLink RX1 33 yX1_slotUnder, Cond.instanceMethod yX1_slotUnder, Cond.selects RX1 yX1_slotUnder yX1_slotUnder, Cond.code yX1_slotUnder cX1_slotUnder 4 (some .int), Cond.methodLink RX2 170 yX2_readFigure, Cond.instanceMethod yX2_readFigure, Cond.selects RX2 yX2_readFigure yX2_readFigure, Cond.code yX2_readFigure cX2_readFigure 3 (some .int), Cond.constantLong RX2 176 (10), Cond.constantLong RX2 178 (48), Cond.methodLink RX2 117 yX1_height, Cond.instanceMethod yX1_height, Cond.selects RX1 yX1_height yX1_height, Cond.code yX1_height cX1_height 1 (some .int), Cond.methodLink RX2 104 yX1_numberUnder, Cond.instanceMethod yX1_numberUnder]
def wsL_law_r10 : List Cond := [Cond.selects RX1 yX1_numberUnder yX1_numberUnder, Cond.code yX1_numberUnder cX1_numberUnder 2 (some .long), Cond.methodLink RX1 29 yX1_height, Cond.methodLink RX2 173 yX2_act, Cond.instanceMethod yX2_act, Cond.selects RX2 yX2_act yX2_act, Cond.code yX2_act cX2_act 7 (some .int), Cond.methodLink RX2 180 yX2_reckon, Cond.static yX2_reckon, Cond.code yX2_reckon cX2_reckon 5 (some .long), Cond.methodLink RX2 90 yX2_noteFault, Cond.instanceMethod yX2_noteFault, Cond.selects RX2 yX2_noteFault yX2_noteFault, Cond.code yX2_noteFault cX2_noteFault 2 none, Cond.fieldLink RX2 130 "ReaderYard" "faultedCalls" "I", Cond.fieldLink RX2 133 "ReaderYard" "latestFault" "I", Cond.methodLink RL 38 yX3_read, Cond.instanceMethod yX3_read, Cond.selects RX3 yX3_read yX3_read, Cond.code yX3_read cX3_read 3 (some .int), Cond.fieldLink RX3 99 "ReaderYardModel" "fault" "I", Cond.fieldLink RX3 128 "ReaderYardModel" "result" "I", Cond.methodLink RX3 183 yX3_ready, Cond.instanceMethod yX3_ready]
def wsL_law_r11 : List Cond := [Cond.selects RX3 yX3_ready yX3_ready, Cond.code yX3_ready cX3_ready 1 none, Cond.fieldLink RX3 111 "ReaderYardModel" "chain" "I", Cond.fieldLink RX3 108 "ReaderYardModel" "onTop" "I", Cond.fieldLink RX3 114 "ReaderYardModel" "marks" "I", Cond.fieldLink RX3 102 "ReaderYardModel" "steps" "I", Cond.fieldLink RX3 96 "ReaderYardModel" "deep" "I", Cond.fieldLink RX3 117 "ReaderYardModel" "deepest" "I", Cond.methodLink RX3 186 yX3_reads, Cond.instanceMethod yX3_reads, Cond.selects RX3 yX3_reads yX3_reads, Cond.code yX3_reads cX3_reads 3 none, Cond.methodLink RX3 120 yX3_begin, Cond.instanceMethod yX3_begin, Cond.selects RX3 yX3_begin yX3_begin, Cond.code yX3_begin cX3_begin 3 none, Cond.fieldLink RX3 105 "ReaderYardModel" "allSteps" "I", Cond.methodLink RX3 174 yX3_goesOn, Cond.instanceMethod yX3_goesOn, Cond.selects RX3 yX3_goesOn yX3_goesOn, Cond.code yX3_goesOn cX3_goesOn 4 none, Cond.methodLink RX3 131 yX3_sign, Cond.instanceMethod yX3_sign, Cond.selects RX3 yX3_sign yX3_sign]
def wsL_law_r12 : List Cond := [Cond.code yX3_sign cX3_sign 6 none, Cond.methodLink RX3 140 yX3_ends, Cond.instanceMethod yX3_ends, Cond.selects RX3 yX3_ends yX3_ends, Cond.code yX3_ends cX3_ends 2 none, Cond.methodLink RX3 124 yX3_takeBack, Cond.instanceMethod yX3_takeBack, Cond.selects RX3 yX3_takeBack yX3_takeBack, Cond.code yX3_takeBack cX3_takeBack 2 none, Cond.methodLink RX3 134 yX3_joins, Cond.instanceMethod yX3_joins, Cond.selects RX3 yX3_joins yX3_joins, Cond.code yX3_joins cX3_joins 5 none, Cond.methodLink RX3 143 yX3_keep, Cond.instanceMethod yX3_keep, Cond.selects RX3 yX3_keep yX3_keep, Cond.code yX3_keep cX3_keep 2 none, Cond.methodLink RX3 146 yX3_asks, Cond.instanceMethod yX3_asks, Cond.selects RX3 yX3_asks yX3_asks, Cond.code yX3_asks cX3_asks 3 none, Cond.methodLink RX3 149 yX3_again, Cond.instanceMethod yX3_again, Cond.selects RX3 yX3_again yX3_again]
def wsL_law_r13 : List Cond := [Cond.code yX3_again cX3_again 4 none, Cond.methodLink RX3 137 yX3_others, Cond.instanceMethod yX3_others, Cond.selects RX3 yX3_others yX3_others, Cond.code yX3_others cX3_others 4 none, Cond.methodLink RX3 153 yX3_bars, Cond.instanceMethod yX3_bars, Cond.selects RX3 yX3_bars yX3_bars, Cond.code yX3_bars cX3_bars 3 none, Cond.methodLink RX3 156 yX3_lay, Cond.instanceMethod yX3_lay, Cond.selects RX3 yX3_lay yX3_lay, Cond.code yX3_lay cX3_lay 4 none, Cond.methodLink RX3 160 yX3_figure, Cond.instanceMethod yX3_figure, Cond.selects RX3 yX3_figure yX3_figure, Cond.code yX3_figure cX3_figure 2 none, Cond.constantLong RX3 166 (10), Cond.constantLong RX3 168 (48), Cond.methodLink RX3 163 yX3_acts, Cond.instanceMethod yX3_acts, Cond.selects RX3 yX3_acts yX3_acts, Cond.code yX3_acts cX3_acts 7 none, Cond.methodLink RX3 170 yX3_height]
def wsL_law_r14 : List Cond := [Cond.instanceMethod yX3_height, Cond.selects RX3 yX3_height yX3_height, Cond.code yX3_height cX3_height 1 (some .int), Cond.methodLink RX3 189 yX3_faulty, Cond.instanceMethod yX3_faulty, Cond.selects RX3 yX3_faulty yX3_faulty, Cond.code yX3_faulty cX3_faulty 1 (some .int), Cond.fieldLink RX3 177 "ReaderYardModel" "faults" "I", Cond.fieldLink RX3 180 "ReaderYardModel" "lastFault" "I", Cond.methodLink RL 39 yX2_all, Cond.instanceMethod yX2_all, Cond.selects RX2 yX2_all yX2_all, Cond.code yX2_all cX2_all 8 (some .int), Cond.methodLink RL 43 yX3_all, Cond.instanceMethod yX3_all, Cond.selects RX3 yX3_all yX3_all, Cond.code yX3_all cX3_all 8 (some .int), Cond.methodLink RL 44 yX2_pile, Cond.instanceMethod yX2_pile, Cond.selects RX2 yX2_pile yX2_pile, Cond.code yX2_pile cX2_pile 2 (some .long), Cond.methodLink RL 48 yX3_pile, Cond.instanceMethod yX3_pile, Cond.selects RX3 yX3_pile yX3_pile]
def wsL_law_r15 : List Cond := [Cond.code yX3_pile cX3_pile 4 (some .long), Cond.methodLink RL 49 yX2_mark, Cond.instanceMethod yX2_mark, Cond.selects RX2 yX2_mark yX2_mark, Cond.code yX2_mark cX2_mark 3 (some .int), Cond.fieldLink RX2 108 "ReaderYard$Marks" "labels" "[I", Cond.fieldLink RX2 111 "ReaderYard$Marks" "froms" "[I", Cond.fieldLink RX2 114 "ReaderYard$Marks" "tos" "[I", Cond.methodLink RL 52 yX3_mark, Cond.instanceMethod yX3_mark, Cond.selects RX3 yX3_mark yX3_mark, Cond.code yX3_mark cX3_mark 3 (some .int), Cond.methodLink RL 53 yX2_count, Cond.instanceMethod yX2_count, Cond.selects RX2 yX2_count yX2_count, Cond.code yX2_count cX2_count 2 (some .int), Cond.methodLink RL 56 yX3_count, Cond.instanceMethod yX3_count, Cond.selects RX3 yX3_count yX3_count, Cond.code yX3_count cX3_count 2 (some .int), Cond.methodLink RL 57 yX2_began, Cond.instanceMethod yX2_began, Cond.selects RX2 yX2_began yX2_began, Cond.code yX2_began cX2_began 2 (some .int)]
def wsL_law_r16 : List Cond := [Cond.methodLink RL 60 yX3_began, Cond.instanceMethod yX3_began, Cond.selects RX3 yX3_began yX3_began, Cond.code yX3_began cX3_began 2 (some .int)]
def wsL_law : List Cond := (wsL_law_r1 ++ (wsL_law_r2 ++ (wsL_law_r3 ++ (wsL_law_r4 ++ (wsL_law_r5 ++ (wsL_law_r6 ++ (wsL_law_r7 ++ (wsL_law_r8 ++ (wsL_law_r9 ++ (wsL_law_r10 ++ (wsL_law_r11 ++ (wsL_law_r12 ++ (wsL_law_r13 ++ (wsL_law_r14 ++ (wsL_law_r15 ++ wsL_law_r16))))))))))))))) ++ wsX20 ++ wsX30 ++ wsX10 ++ wsX00 ++ ([] : List Cond)
end
section
set_option maxRecDepth 20000 in
theorem wsL_in_1 : GoodIn lw_tbl wsL_law_r1 := goodIn_p wsL_law_r1 [45, 48] (by decide +kernel) (by decide +kernel)
set_option maxRecDepth 20000 in
theorem wsL_in_2 : GoodIn lw_tbl wsL_law_r2 := goodIn_p wsL_law_r2 [53, 80, 101] (by decide +kernel) (by decide +kernel)
set_option maxRecDepth 20000 in
theorem wsL_in_3 : GoodIn lw_tbl wsL_law_r3 := goodIn_p wsL_law_r3 [105, 294] (by decide +kernel) (by decide +kernel)
set_option maxRecDepth 20000 in
theorem wsL_in_4 : GoodIn lw_tbl wsL_law_r4 := goodIn_p wsL_law_r4 [158, 408, 411] (by decide +kernel) (by decide +kernel)
set_option maxRecDepth 20000 in
theorem wsL_in_5 : GoodIn lw_tbl wsL_law_r5 := goodIn_p wsL_law_r5 [163, 415, 167, 171, 175, 178] (by decide +kernel) (by decide +kernel)
set_option maxRecDepth 20000 in
theorem wsL_in_6 : GoodIn lw_tbl wsL_law_r6 := goodIn_p wsL_law_r6 [182, 419, 423, 186, 427, 190] (by decide +kernel) (by decide +kernel)
set_option maxRecDepth 20000 in
theorem wsL_in_7 : GoodIn lw_tbl wsL_law_r7 := goodIn_p wsL_law_r7 [194, 198, 202, 206] (by decide +kernel) (by decide +kernel)
set_option maxRecDepth 20000 in
theorem wsL_in_8 : GoodIn lw_tbl wsL_law_r8 := goodIn_p wsL_law_r8 [212, 209, 215, 219, 223, 227, 231] (by decide +kernel) (by decide +kernel)
set_option maxRecDepth 20000 in
theorem wsL_in_9 : GoodIn lw_tbl wsL_law_r9 := goodIn_p wsL_law_r9 [235, 239, 243, 247, 251] (by decide +kernel) (by decide +kernel)
set_option maxRecDepth 20000 in
theorem wsL_in_10 : GoodIn lw_tbl wsL_law_r10 := goodIn_p wsL_law_r10 [256, 262, 265, 269, 431] (by decide +kernel) (by decide +kernel)
set_option maxRecDepth 20000 in
theorem wsL_in_11 : GoodIn lw_tbl wsL_law_r11 := goodIn_p wsL_law_r11 [435, 439, 443, 447] (by decide +kernel) (by decide +kernel)
set_option maxRecDepth 20000 in
theorem wsL_in_12 : GoodIn lw_tbl wsL_law_r12 := goodIn_p wsL_law_r12 [451, 455, 459, 463, 467, 471] (by decide +kernel) (by decide +kernel)
set_option maxRecDepth 20000 in
theorem wsL_in_13 : GoodIn lw_tbl wsL_law_r13 := goodIn_p wsL_law_r13 [475, 479, 483, 487, 491, 497] (by decide +kernel) (by decide +kernel)
set_option maxRecDepth 20000 in
theorem wsL_in_14 : GoodIn lw_tbl wsL_law_r14 := goodIn_p wsL_law_r14 [501, 505, 273, 509, 277] (by decide +kernel) (by decide +kernel)
set_option maxRecDepth 20000 in
theorem wsL_in_15 : GoodIn lw_tbl wsL_law_r15 := goodIn_p wsL_law_r15 [513, 281, 517, 285, 521, 289] (by decide +kernel) (by decide +kernel)
set_option maxRecDepth 20000 in
theorem wsL_in_16 : GoodIn lw_tbl wsL_law_r16 := goodIn_p wsL_law_r16 [525] (by decide +kernel) (by decide +kernel)
set_option maxRecDepth 20000 in
theorem wsL_in_X2 : GoodIn lw_tbl wsX20 := goodIn_p wsX20 [] (by decide +kernel) (by decide +kernel)
set_option maxRecDepth 20000 in
theorem wsL_in_X3 : GoodIn lw_tbl wsX30 := goodIn_p wsX30 [] (by decide +kernel) (by decide +kernel)
set_option maxRecDepth 20000 in
theorem wsL_in_X1 : GoodIn lw_tbl wsX10 := goodIn_p wsX10 [] (by decide +kernel) (by decide +kernel)
set_option maxRecDepth 20000 in
theorem wsL_in_X0 : GoodIn lw_tbl wsX00 := goodIn_p wsX00 [] (by decide +kernel) (by decide +kernel)
theorem wsL_law_in : ∀ w ∈ wsL_law, w ∈ lw_tbl := fun w h => ((goodIn_app (goodIn_app (goodIn_app (goodIn_app (goodIn_app (goodIn_app wsL_in_1 (goodIn_app wsL_in_2 (goodIn_app wsL_in_3 (goodIn_app wsL_in_4 (goodIn_app wsL_in_5 (goodIn_app wsL_in_6 (goodIn_app wsL_in_7 (goodIn_app wsL_in_8 (goodIn_app wsL_in_9 (goodIn_app wsL_in_10 (goodIn_app wsL_in_11 (goodIn_app wsL_in_12 (goodIn_app wsL_in_13 (goodIn_app wsL_in_14 (goodIn_app wsL_in_15 wsL_in_16))))))))))))))) wsL_in_X2) wsL_in_X3) wsL_in_X1) wsL_in_X0) (fun _ h => absurd h List.not_mem_nil)) w h).1
theorem inlX0 : ∀ w ∈ wsX00, w ∈ wsL_law := fun _ h => List.mem_append_left _ (List.mem_append_right _ h)
theorem inX0 : ∀ w ∈ wsX00, w ∈ lw_tbl := fun w h => wsL_law_in w (inlX0 w h)
theorem inlX1 : ∀ w ∈ wsX10, w ∈ wsL_law := fun _ h => List.mem_append_left _ (List.mem_append_left _ (List.mem_append_right _ h))
theorem inX1 : ∀ w ∈ wsX10, w ∈ lw_tbl := fun w h => wsL_law_in w (inlX1 w h)
theorem inlX2 : ∀ w ∈ wsX20, w ∈ wsL_law := fun _ h => List.mem_append_left _ (List.mem_append_left _ (List.mem_append_left _ (List.mem_append_left _ (List.mem_append_right _ h))))
theorem inX2 : ∀ w ∈ wsX20, w ∈ lw_tbl := fun w h => wsL_law_in w (inlX2 w h)
theorem inlX3 : ∀ w ∈ wsX30, w ∈ wsL_law := fun _ h => List.mem_append_left _ (List.mem_append_left _ (List.mem_append_left _ (List.mem_append_right _ h)))
theorem inX3 : ∀ w ∈ wsX30, w ∈ lw_tbl := fun w h => wsL_law_in w (inlX3 w h)
theorem inJ9 : ∀ w ∈ wsJ90, w ∈ lw_tbl := by decide +kernel
theorem inJ7 : ∀ w ∈ wsJ70, w ∈ lw_tbl := by decide +kernel
end
section
theorem dX0_init_0 : decode cX0_init 0 = .ok (.aload_n 0, 1) := by decide +kernel
theorem dX0_init_1 : decode cX0_init 1 = .ok (.invokespecial 3, 3) := by decide +kernel
theorem dX0_init_4 : decode cX0_init 4 = .ok (.aload_n 0, 1) := by decide +kernel
theorem dX0_init_5 : decode cX0_init 5 = .ok (.sipush 3000, 3) := by decide +kernel
theorem dX0_init_8 : decode cX0_init 8 = .ok (.newarray .int, 2) := by decide +kernel
theorem dX0_init_10 : decode cX0_init 10 = .ok (.putfield 9, 3) := by decide +kernel
theorem dX0_init_13 : decode cX0_init 13 = .ok (.aload_n 0, 1) := by decide +kernel
theorem dX0_init_14 : decode cX0_init 14 = .ok (.sipush 3000, 3) := by decide +kernel
theorem dX0_init_17 : decode cX0_init 17 = .ok (.newarray .int, 2) := by decide +kernel
theorem dX0_init_19 : decode cX0_init 19 = .ok (.putfield 15, 3) := by decide +kernel
theorem dX0_init_22 : decode cX0_init 22 = .ok (.aload_n 0, 1) := by decide +kernel
theorem dX0_init_23 : decode cX0_init 23 = .ok (.sipush 3000, 3) := by decide +kernel
theorem dX0_init_26 : decode cX0_init 26 = .ok (.newarray .int, 2) := by decide +kernel
theorem dX0_init_28 : decode cX0_init 28 = .ok (.putfield 18, 3) := by decide +kernel
theorem dX0_init_31 : decode cX0_init 31 = .ok (.return_, 1) := by decide +kernel
theorem dX0_add_0 : decode cX0_add 0 = .ok (.aload_n 0, 1) := by decide +kernel
theorem dX0_add_1 : decode cX0_add 1 = .ok (.getfield 21, 3) := by decide +kernel
theorem dX0_add_4 : decode cX0_add 4 = .ok (.sipush 3000, 3) := by decide +kernel
theorem dX0_add_7 : decode cX0_add 7 = .ok (.if_icmp .lt 4, 3) := by decide +kernel
theorem dX0_add_10 : decode cX0_add 10 = .ok (.return_, 1) := by decide +kernel
theorem dX0_add_11 : decode cX0_add 11 = .ok (.aload_n 0, 1) := by decide +kernel
theorem dX0_add_12 : decode cX0_add 12 = .ok (.getfield 9, 3) := by decide +kernel
theorem dX0_add_15 : decode cX0_add 15 = .ok (.aload_n 0, 1) := by decide +kernel
theorem dX0_add_16 : decode cX0_add 16 = .ok (.getfield 21, 3) := by decide +kernel
theorem dX0_add_19 : decode cX0_add 19 = .ok (.iload_n 1, 1) := by decide +kernel
theorem dX0_add_20 : decode cX0_add 20 = .ok (.iastore, 1) := by decide +kernel
theorem dX0_add_21 : decode cX0_add 21 = .ok (.aload_n 0, 1) := by decide +kernel
theorem dX0_add_22 : decode cX0_add 22 = .ok (.getfield 15, 3) := by decide +kernel
theorem dX0_add_25 : decode cX0_add 25 = .ok (.aload_n 0, 1) := by decide +kernel
theorem dX0_add_26 : decode cX0_add 26 = .ok (.getfield 21, 3) := by decide +kernel
theorem dX0_add_29 : decode cX0_add 29 = .ok (.iload_n 2, 1) := by decide +kernel
theorem dX0_add_30 : decode cX0_add 30 = .ok (.iastore, 1) := by decide +kernel
theorem dX0_add_31 : decode cX0_add 31 = .ok (.aload_n 0, 1) := by decide +kernel
theorem dX0_add_32 : decode cX0_add 32 = .ok (.getfield 18, 3) := by decide +kernel
theorem dX0_add_35 : decode cX0_add 35 = .ok (.aload_n 0, 1) := by decide +kernel
theorem dX0_add_36 : decode cX0_add 36 = .ok (.getfield 21, 3) := by decide +kernel
theorem dX0_add_39 : decode cX0_add 39 = .ok (.iload_n 3, 1) := by decide +kernel
theorem dX0_add_40 : decode cX0_add 40 = .ok (.iastore, 1) := by decide +kernel
theorem dX0_add_41 : decode cX0_add 41 = .ok (.aload_n 0, 1) := by decide +kernel
theorem dX0_add_42 : decode cX0_add 42 = .ok (.dup, 1) := by decide +kernel
theorem dX0_add_43 : decode cX0_add 43 = .ok (.getfield 21, 3) := by decide +kernel
theorem dX0_add_46 : decode cX0_add 46 = .ok (.iconst 1, 1) := by decide +kernel
theorem dX0_add_47 : decode cX0_add 47 = .ok (.iadd, 1) := by decide +kernel
theorem dX0_add_48 : decode cX0_add 48 = .ok (.putfield 21, 3) := by decide +kernel
theorem dX0_add_51 : decode cX0_add 51 = .ok (.return_, 1) := by decide +kernel
theorem dX1_init_0 : decode cX1_init 0 = .ok (.aload_n 0, 1) := by decide +kernel
theorem dX1_init_1 : decode cX1_init 1 = .ok (.invokespecial 3, 3) := by decide +kernel
theorem dX1_init_4 : decode cX1_init 4 = .ok (.aload_n 0, 1) := by decide +kernel
theorem dX1_init_5 : decode cX1_init 5 = .ok (.sipush 3001, 3) := by decide +kernel
theorem dX1_init_8 : decode cX1_init 8 = .ok (.newarray .long, 2) := by decide +kernel
theorem dX1_init_10 : decode cX1_init 10 = .ok (.putfield 9, 3) := by decide +kernel
theorem dX1_init_13 : decode cX1_init 13 = .ok (.aload_n 0, 1) := by decide +kernel
theorem dX1_init_14 : decode cX1_init 14 = .ok (.sipush 3001, 3) := by decide +kernel
theorem dX1_init_17 : decode cX1_init 17 = .ok (.newarray .int, 2) := by decide +kernel
theorem dX1_init_19 : decode cX1_init 19 = .ok (.putfield 15, 3) := by decide +kernel
theorem dX1_init_22 : decode cX1_init 22 = .ok (.aload_n 0, 1) := by decide +kernel
theorem dX1_init_23 : decode cX1_init 23 = .ok (.sipush 3001, 3) := by decide +kernel
theorem dX1_init_26 : decode cX1_init 26 = .ok (.newarray .int, 2) := by decide +kernel
theorem dX1_init_28 : decode cX1_init 28 = .ok (.putfield 19, 3) := by decide +kernel
theorem dX1_init_31 : decode cX1_init 31 = .ok (.return_, 1) := by decide +kernel
theorem dX1_makeEmpty_0 : decode cX1_makeEmpty 0 = .ok (.aload_n 0, 1) := by decide +kernel
theorem dX1_makeEmpty_1 : decode cX1_makeEmpty 1 = .ok (.iconst 0, 1) := by decide +kernel
theorem dX1_makeEmpty_2 : decode cX1_makeEmpty 2 = .ok (.putfield 22, 3) := by decide +kernel
theorem dX1_makeEmpty_5 : decode cX1_makeEmpty 5 = .ok (.aload_n 0, 1) := by decide +kernel
theorem dX1_makeEmpty_6 : decode cX1_makeEmpty 6 = .ok (.iconst 0, 1) := by decide +kernel
theorem dX1_makeEmpty_7 : decode cX1_makeEmpty 7 = .ok (.putfield 26, 3) := by decide +kernel
theorem dX1_makeEmpty_10 : decode cX1_makeEmpty 10 = .ok (.return_, 1) := by decide +kernel
theorem dX1_height_0 : decode cX1_height 0 = .ok (.aload_n 0, 1) := by decide +kernel
theorem dX1_height_1 : decode cX1_height 1 = .ok (.getfield 19, 3) := by decide +kernel
theorem dX1_height_4 : decode cX1_height 4 = .ok (.aload_n 0, 1) := by decide +kernel
theorem dX1_height_5 : decode cX1_height 5 = .ok (.getfield 26, 3) := by decide +kernel
theorem dX1_height_8 : decode cX1_height 8 = .ok (.iaload, 1) := by decide +kernel
theorem dX1_height_9 : decode cX1_height 9 = .ok (.ireturn, 1) := by decide +kernel
set_option maxRecDepth 20000 in
theorem ggX1_numberUnder_X1_height : GoodIn wsX1_numberUnder wsX1_height := goodIn_r _ [6, 7, 8, 14, 15, 16, 17, 18] (by decide +kernel) (by decide +kernel)
set_option maxRecDepth 20000 in
theorem gX1_numberUnder_X1_height : GoodIn wsX1_numberUnder (wsV RX1 29 RX1 yX1_height wsX1_height) := goodIn_app (goodIn_of _ (by decide +kernel)) ggX1_numberUnder_X1_height
set_option maxRecDepth 20000 in
theorem ggX1_numberUnder_X1_slotUnder : GoodIn wsX1_numberUnder wsX1_slotUnder := goodIn_r _ [12, 8, 13, 14, 15, 16, 17, 18] (by decide +kernel) (by decide +kernel)
set_option maxRecDepth 20000 in
theorem gX1_numberUnder_X1_slotUnder : GoodIn wsX1_numberUnder (wsV RX1 33 RX1 yX1_slotUnder wsX1_slotUnder) := goodIn_app (goodIn_of _ (by decide +kernel)) ggX1_numberUnder_X1_slotUnder
theorem dX1_numberUnder_0 : decode cX1_numberUnder 0 = .ok (.iload_n 1, 1) := by decide +kernel
theorem dX1_numberUnder_1 : decode cX1_numberUnder 1 = .ok (.ifCond .lt 11, 3) := by decide +kernel
theorem dX1_numberUnder_4 : decode cX1_numberUnder 4 = .ok (.iload_n 1, 1) := by decide +kernel
theorem dX1_numberUnder_5 : decode cX1_numberUnder 5 = .ok (.aload_n 0, 1) := by decide +kernel
theorem dX1_numberUnder_6 : decode cX1_numberUnder 6 = .ok (.invokevirtual 29, 3) := by decide +kernel
theorem dX1_numberUnder_9 : decode cX1_numberUnder 9 = .ok (.if_icmp .lt 7, 3) := by decide +kernel
theorem dX1_numberUnder_12 : decode cX1_numberUnder 12 = .ok (.lconst 0, 1) := by decide +kernel
theorem dX1_numberUnder_13 : decode cX1_numberUnder 13 = .ok (.goto 13, 3) := by decide +kernel
theorem dX1_numberUnder_16 : decode cX1_numberUnder 16 = .ok (.aload_n 0, 1) := by decide +kernel
theorem dX1_numberUnder_17 : decode cX1_numberUnder 17 = .ok (.getfield 9, 3) := by decide +kernel
theorem dX1_numberUnder_20 : decode cX1_numberUnder 20 = .ok (.aload_n 0, 1) := by decide +kernel
theorem dX1_numberUnder_21 : decode cX1_numberUnder 21 = .ok (.iload_n 1, 1) := by decide +kernel
theorem dX1_numberUnder_22 : decode cX1_numberUnder 22 = .ok (.invokevirtual 33, 3) := by decide +kernel
theorem dX1_numberUnder_25 : decode cX1_numberUnder 25 = .ok (.laload, 1) := by decide +kernel
theorem dX1_numberUnder_26 : decode cX1_numberUnder 26 = .ok (.lreturn, 1) := by decide +kernel
set_option maxRecDepth 20000 in
theorem ggX1_lay_X1_slotUnder : GoodIn wsX1_lay wsX1_slotUnder := goodIn_r _ [10, 5, 3, 11, 12, 13, 14, 15] (by decide +kernel) (by decide +kernel)
set_option maxRecDepth 20000 in
theorem gX1_lay_X1_slotUnder : GoodIn wsX1_lay (wsV RX1 33 RX1 yX1_slotUnder wsX1_slotUnder) := goodIn_app (goodIn_of _ (by decide +kernel)) ggX1_lay_X1_slotUnder
theorem dX1_lay_0 : decode cX1_lay 0 = .ok (.aload_n 0, 1) := by decide +kernel
theorem dX1_lay_1 : decode cX1_lay 1 = .ok (.getfield 22, 3) := by decide +kernel
theorem dX1_lay_4 : decode cX1_lay 4 = .ok (.sipush 3000, 3) := by decide +kernel
theorem dX1_lay_7 : decode cX1_lay 7 = .ok (.if_icmp .lt 4, 3) := by decide +kernel
theorem dX1_lay_10 : decode cX1_lay 10 = .ok (.return_, 1) := by decide +kernel
theorem dX1_lay_11 : decode cX1_lay 11 = .ok (.aload_n 0, 1) := by decide +kernel
theorem dX1_lay_12 : decode cX1_lay 12 = .ok (.iload_n 3, 1) := by decide +kernel
theorem dX1_lay_13 : decode cX1_lay 13 = .ok (.invokevirtual 33, 3) := by decide +kernel
theorem dX1_lay_16 : decode cX1_lay 16 = .ok (.istore 4, 2) := by decide +kernel
theorem dX1_lay_18 : decode cX1_lay 18 = .ok (.aload_n 0, 1) := by decide +kernel
theorem dX1_lay_19 : decode cX1_lay 19 = .ok (.dup, 1) := by decide +kernel
theorem dX1_lay_20 : decode cX1_lay 20 = .ok (.getfield 22, 3) := by decide +kernel
theorem dX1_lay_23 : decode cX1_lay 23 = .ok (.iconst 1, 1) := by decide +kernel
theorem dX1_lay_24 : decode cX1_lay 24 = .ok (.iadd, 1) := by decide +kernel
theorem dX1_lay_25 : decode cX1_lay 25 = .ok (.putfield 22, 3) := by decide +kernel
theorem dX1_lay_28 : decode cX1_lay 28 = .ok (.aload_n 0, 1) := by decide +kernel
theorem dX1_lay_29 : decode cX1_lay 29 = .ok (.getfield 9, 3) := by decide +kernel
theorem dX1_lay_32 : decode cX1_lay 32 = .ok (.aload_n 0, 1) := by decide +kernel
theorem dX1_lay_33 : decode cX1_lay 33 = .ok (.getfield 22, 3) := by decide +kernel
theorem dX1_lay_36 : decode cX1_lay 36 = .ok (.lload_n 1, 1) := by decide +kernel
theorem dX1_lay_37 : decode cX1_lay 37 = .ok (.lastore, 1) := by decide +kernel
theorem dX1_lay_38 : decode cX1_lay 38 = .ok (.aload_n 0, 1) := by decide +kernel
theorem dX1_lay_39 : decode cX1_lay 39 = .ok (.getfield 15, 3) := by decide +kernel
theorem dX1_lay_42 : decode cX1_lay 42 = .ok (.aload_n 0, 1) := by decide +kernel
theorem dX1_lay_43 : decode cX1_lay 43 = .ok (.getfield 22, 3) := by decide +kernel
theorem dX1_lay_46 : decode cX1_lay 46 = .ok (.iload 4, 2) := by decide +kernel
theorem dX1_lay_48 : decode cX1_lay 48 = .ok (.iastore, 1) := by decide +kernel
theorem dX1_lay_49 : decode cX1_lay 49 = .ok (.aload_n 0, 1) := by decide +kernel
theorem dX1_lay_50 : decode cX1_lay 50 = .ok (.getfield 19, 3) := by decide +kernel
theorem dX1_lay_53 : decode cX1_lay 53 = .ok (.aload_n 0, 1) := by decide +kernel
theorem dX1_lay_54 : decode cX1_lay 54 = .ok (.getfield 22, 3) := by decide +kernel
theorem dX1_lay_57 : decode cX1_lay 57 = .ok (.aload_n 0, 1) := by decide +kernel
theorem dX1_lay_58 : decode cX1_lay 58 = .ok (.getfield 19, 3) := by decide +kernel
theorem dX1_lay_61 : decode cX1_lay 61 = .ok (.iload 4, 2) := by decide +kernel
theorem dX1_lay_63 : decode cX1_lay 63 = .ok (.iaload, 1) := by decide +kernel
theorem dX1_lay_64 : decode cX1_lay 64 = .ok (.iconst 1, 1) := by decide +kernel
theorem dX1_lay_65 : decode cX1_lay 65 = .ok (.iadd, 1) := by decide +kernel
theorem dX1_lay_66 : decode cX1_lay 66 = .ok (.iastore, 1) := by decide +kernel
theorem dX1_lay_67 : decode cX1_lay 67 = .ok (.aload_n 0, 1) := by decide +kernel
theorem dX1_lay_68 : decode cX1_lay 68 = .ok (.aload_n 0, 1) := by decide +kernel
theorem dX1_lay_69 : decode cX1_lay 69 = .ok (.getfield 22, 3) := by decide +kernel
theorem dX1_lay_72 : decode cX1_lay 72 = .ok (.putfield 26, 3) := by decide +kernel
theorem dX1_lay_75 : decode cX1_lay 75 = .ok (.return_, 1) := by decide +kernel
theorem dX1_slotUnder_0 : decode cX1_slotUnder 0 = .ok (.aload_n 0, 1) := by decide +kernel
theorem dX1_slotUnder_1 : decode cX1_slotUnder 1 = .ok (.getfield 26, 3) := by decide +kernel
theorem dX1_slotUnder_4 : decode cX1_slotUnder 4 = .ok (.istore_n 2, 1) := by decide +kernel
theorem dX1_slotUnder_5 : decode cX1_slotUnder 5 = .ok (.iconst 0, 1) := by decide +kernel
theorem dX1_slotUnder_6 : decode cX1_slotUnder 6 = .ok (.istore_n 3, 1) := by decide +kernel
theorem dX1_slotUnder_7 : decode cX1_slotUnder 7 = .ok (.iload_n 3, 1) := by decide +kernel
theorem dX1_slotUnder_8 : decode cX1_slotUnder 8 = .ok (.iload_n 1, 1) := by decide +kernel
theorem dX1_slotUnder_9 : decode cX1_slotUnder 9 = .ok (.if_icmp .ge 16, 3) := by decide +kernel
theorem dX1_slotUnder_12 : decode cX1_slotUnder 12 = .ok (.aload_n 0, 1) := by decide +kernel
theorem dX1_slotUnder_13 : decode cX1_slotUnder 13 = .ok (.getfield 15, 3) := by decide +kernel
theorem dX1_slotUnder_16 : decode cX1_slotUnder 16 = .ok (.iload_n 2, 1) := by decide +kernel
theorem dX1_slotUnder_17 : decode cX1_slotUnder 17 = .ok (.iaload, 1) := by decide +kernel
theorem dX1_slotUnder_18 : decode cX1_slotUnder 18 = .ok (.istore_n 2, 1) := by decide +kernel
theorem dX1_slotUnder_19 : decode cX1_slotUnder 19 = .ok (.iinc 3 1, 3) := by decide +kernel
theorem dX1_slotUnder_22 : decode cX1_slotUnder 22 = .ok (.goto (-15), 3) := by decide +kernel
theorem dX1_slotUnder_25 : decode cX1_slotUnder 25 = .ok (.iload_n 2, 1) := by decide +kernel
theorem dX1_slotUnder_26 : decode cX1_slotUnder 26 = .ok (.ireturn, 1) := by decide +kernel
set_option maxRecDepth 20000 in
theorem ggX2_init_X1_init : GoodIn wsX2_init wsX1_init := goodIn_r _ [23, 24, 2, 3, 25, 26, 6, 27, 28, 61, 62, 63, 64, 65] (by decide +kernel) (by decide +kernel)
set_option maxRecDepth 20000 in
theorem gX2_init_X1_init_n35 : GoodIn wsX2_init (wsX1_init) := ggX2_init_X1_init
set_option maxRecDepth 20000 in
theorem ggX2_init_X0_init : GoodIn wsX2_init wsX0_init := goodIn_r _ [30, 31, 2, 3, 6, 32, 33, 34, 66, 67, 68, 69] (by decide +kernel) (by decide +kernel)
set_option maxRecDepth 20000 in
theorem gX2_init_X0_init_n42 : GoodIn wsX2_init (wsX0_init) := ggX2_init_X0_init
set_option maxRecDepth 20000 in
theorem ggX2_init_J7_fill_53178 : GoodIn wsX2_init wsJ7_fill_53178 := goodIn_r _ [38] (by decide +kernel) (by decide +kernel)
set_option maxRecDepth 20000 in
theorem gX2_init_J7_fill_53178 : GoodIn wsX2_init (va_wsS RX2 47 yJ7_fill_53178 wsJ7_fill_53178) := goodIn_app (goodIn_of _ (by decide +kernel)) ggX2_init_J7_fill_53178
set_option maxRecDepth 20000 in
theorem ggX2_init_X2_addReader : GoodIn wsX2_init wsX2_addReader := goodIn_r _ [43, 44, 7, 8, 9, 45, 46, 47, 48, 49, 50, 51, 52, 53, 54, 55, 56, 57, 58, 59, 60] (by decide +kernel) (by decide +kernel)
set_option maxRecDepth 20000 in
theorem gX2_init_X2_addReader : GoodIn wsX2_init (wsV RX2 53 RX2 yX2_addReader wsX2_addReader) := goodIn_app (goodIn_of _ (by decide +kernel)) ggX2_init_X2_addReader
theorem dX2_init_0 : decode cX2_init 0 = .ok (.aload_n 0, 1) := by decide +kernel
theorem dX2_init_1 : decode cX2_init 1 = .ok (.invokespecial 1, 3) := by decide +kernel
theorem dX2_init_4 : decode cX2_init 4 = .ok (.aload_n 0, 1) := by decide +kernel
theorem dX2_init_5 : decode cX2_init 5 = .ok (.sipush 200, 3) := by decide +kernel
theorem dX2_init_8 : decode cX2_init 8 = .ok (.newarray .byte, 2) := by decide +kernel
theorem dX2_init_10 : decode cX2_init 10 = .ok (.putfield 9, 3) := by decide +kernel
theorem dX2_init_13 : decode cX2_init 13 = .ok (.aload_n 0, 1) := by decide +kernel
theorem dX2_init_14 : decode cX2_init 14 = .ok (.bipush 50, 2) := by decide +kernel
theorem dX2_init_16 : decode cX2_init 16 = .ok (.newarray .int, 2) := by decide +kernel
theorem dX2_init_18 : decode cX2_init 18 = .ok (.putfield 13, 3) := by decide +kernel
theorem dX2_init_21 : decode cX2_init 21 = .ok (.aload_n 0, 1) := by decide +kernel
theorem dX2_init_22 : decode cX2_init 22 = .ok (.bipush 50, 2) := by decide +kernel
theorem dX2_init_24 : decode cX2_init 24 = .ok (.newarray .int, 2) := by decide +kernel
theorem dX2_init_26 : decode cX2_init 26 = .ok (.putfield 17, 3) := by decide +kernel
theorem dX2_init_29 : decode cX2_init 29 = .ok (.aload_n 0, 1) := by decide +kernel
theorem dX2_init_30 : decode cX2_init 30 = .ok (.bipush 50, 2) := by decide +kernel
theorem dX2_init_32 : decode cX2_init 32 = .ok (.newarray .int, 2) := by decide +kernel
theorem dX2_init_34 : decode cX2_init 34 = .ok (.putfield 20, 3) := by decide +kernel
theorem dX2_init_37 : decode cX2_init 37 = .ok (.aload_n 0, 1) := by decide +kernel
theorem dX2_init_38 : decode cX2_init 38 = .ok (.bipush 50, 2) := by decide +kernel
theorem dX2_init_40 : decode cX2_init 40 = .ok (.newarray .int, 2) := by decide +kernel
theorem dX2_init_42 : decode cX2_init 42 = .ok (.putfield 23, 3) := by decide +kernel
theorem dX2_init_45 : decode cX2_init 45 = .ok (.aload_n 0, 1) := by decide +kernel
theorem dX2_init_46 : decode cX2_init 46 = .ok (.bipush 10, 2) := by decide +kernel
theorem dX2_init_48 : decode cX2_init 48 = .ok (.newarray .int, 2) := by decide +kernel
theorem dX2_init_50 : decode cX2_init 50 = .ok (.putfield 26, 3) := by decide +kernel
theorem dX2_init_53 : decode cX2_init 53 = .ok (.aload_n 0, 1) := by decide +kernel
theorem dX2_init_54 : decode cX2_init 54 = .ok (.sipush 151, 3) := by decide +kernel
theorem dX2_init_57 : decode cX2_init 57 = .ok (.newarray .boolean, 2) := by decide +kernel
theorem dX2_init_59 : decode cX2_init 59 = .ok (.putfield 29, 3) := by decide +kernel
theorem dX2_init_62 : decode cX2_init 62 = .ok (.aload_n 0, 1) := by decide +kernel
theorem dX2_init_63 : decode cX2_init 63 = .ok (.new 33, 3) := by decide +kernel
theorem dX2_init_66 : decode cX2_init 66 = .ok (.dup, 1) := by decide +kernel
theorem dX2_init_67 : decode cX2_init 67 = .ok (.invokespecial 35, 3) := by decide +kernel
theorem dX2_init_70 : decode cX2_init 70 = .ok (.putfield 36, 3) := by decide +kernel
theorem dX2_init_73 : decode cX2_init 73 = .ok (.aload_n 0, 1) := by decide +kernel
theorem dX2_init_74 : decode cX2_init 74 = .ok (.new 40, 3) := by decide +kernel
theorem dX2_init_77 : decode cX2_init 77 = .ok (.dup, 1) := by decide +kernel
theorem dX2_init_78 : decode cX2_init 78 = .ok (.invokespecial 42, 3) := by decide +kernel
theorem dX2_init_81 : decode cX2_init 81 = .ok (.putfield 43, 3) := by decide +kernel
theorem dX2_init_84 : decode cX2_init 84 = .ok (.aload_n 0, 1) := by decide +kernel
theorem dX2_init_85 : decode cX2_init 85 = .ok (.getfield 26, 3) := by decide +kernel
theorem dX2_init_88 : decode cX2_init 88 = .ok (.iconst (-1), 1) := by decide +kernel
theorem dX2_init_89 : decode cX2_init 89 = .ok (.invokestatic 47, 3) := by decide +kernel
theorem dX2_init_92 : decode cX2_init 92 = .ok (.aload_n 0, 1) := by decide +kernel
theorem dX2_init_93 : decode cX2_init 93 = .ok (.iconst 2, 1) := by decide +kernel
theorem dX2_init_94 : decode cX2_init 94 = .ok (.iconst 0, 1) := by decide +kernel
theorem dX2_init_95 : decode cX2_init 95 = .ok (.iconst 0, 1) := by decide +kernel
theorem dX2_init_96 : decode cX2_init 96 = .ok (.invokevirtual 53, 3) := by decide +kernel
theorem dX2_init_99 : decode cX2_init 99 = .ok (.pop, 1) := by decide +kernel
theorem dX2_init_100 : decode cX2_init 100 = .ok (.aload_n 0, 1) := by decide +kernel
theorem dX2_init_101 : decode cX2_init 101 = .ok (.iconst 3, 1) := by decide +kernel
theorem dX2_init_102 : decode cX2_init 102 = .ok (.iconst 0, 1) := by decide +kernel
theorem dX2_init_103 : decode cX2_init 103 = .ok (.iconst 0, 1) := by decide +kernel
theorem dX2_init_104 : decode cX2_init 104 = .ok (.invokevirtual 53, 3) := by decide +kernel
theorem dX2_init_107 : decode cX2_init 107 = .ok (.pop, 1) := by decide +kernel
theorem dX2_init_108 : decode cX2_init 108 = .ok (.return_, 1) := by decide +kernel
theorem dX2_text_0 : decode cX2_text 0 = .ok (.iload_n 1, 1) := by decide +kernel
theorem dX2_text_1 : decode cX2_text 1 = .ok (.iconst 1, 1) := by decide +kernel
theorem dX2_text_2 : decode cX2_text 2 = .ok (.if_icmp .lt 9, 3) := by decide +kernel
theorem dX2_text_5 : decode cX2_text 5 = .ok (.iload_n 1, 1) := by decide +kernel
theorem dX2_text_6 : decode cX2_text 6 = .ok (.bipush 8, 2) := by decide +kernel
theorem dX2_text_8 : decode cX2_text 8 = .ok (.if_icmp .le 6, 3) := by decide +kernel
theorem dX2_text_11 : decode cX2_text 11 = .ok (.bipush (-2), 2) := by decide +kernel
theorem dX2_text_13 : decode cX2_text 13 = .ok (.ireturn, 1) := by decide +kernel
theorem dX2_text_14 : decode cX2_text 14 = .ok (.aload_n 0, 1) := by decide +kernel
theorem dX2_text_15 : decode cX2_text 15 = .ok (.getfield 57, 3) := by decide +kernel
theorem dX2_text_18 : decode cX2_text 18 = .ok (.iload_n 1, 1) := by decide +kernel
theorem dX2_text_19 : decode cX2_text 19 = .ok (.iadd, 1) := by decide +kernel
theorem dX2_text_20 : decode cX2_text 20 = .ok (.sipush 200, 3) := by decide +kernel
theorem dX2_text_23 : decode cX2_text 23 = .ok (.if_icmp .le 6, 3) := by decide +kernel
theorem dX2_text_26 : decode cX2_text 26 = .ok (.bipush (-3), 2) := by decide +kernel
theorem dX2_text_28 : decode cX2_text 28 = .ok (.ireturn, 1) := by decide +kernel
theorem dX2_text_29 : decode cX2_text 29 = .ok (.iconst 0, 1) := by decide +kernel
theorem dX2_text_30 : decode cX2_text 30 = .ok (.istore 4, 2) := by decide +kernel
theorem dX2_text_32 : decode cX2_text 32 = .ok (.iload 4, 2) := by decide +kernel
theorem dX2_text_34 : decode cX2_text 34 = .ok (.iload_n 1, 1) := by decide +kernel
theorem dX2_text_35 : decode cX2_text 35 = .ok (.if_icmp .ge 34, 3) := by decide +kernel
theorem dX2_text_38 : decode cX2_text 38 = .ok (.aload_n 0, 1) := by decide +kernel
theorem dX2_text_39 : decode cX2_text 39 = .ok (.getfield 9, 3) := by decide +kernel
theorem dX2_text_42 : decode cX2_text 42 = .ok (.aload_n 0, 1) := by decide +kernel
theorem dX2_text_43 : decode cX2_text 43 = .ok (.getfield 57, 3) := by decide +kernel
theorem dX2_text_46 : decode cX2_text 46 = .ok (.iload 4, 2) := by decide +kernel
theorem dX2_text_48 : decode cX2_text 48 = .ok (.iadd, 1) := by decide +kernel
theorem dX2_text_49 : decode cX2_text 49 = .ok (.lload_n 2, 1) := by decide +kernel
theorem dX2_text_50 : decode cX2_text 50 = .ok (.bipush 8, 2) := by decide +kernel
theorem dX2_text_52 : decode cX2_text 52 = .ok (.iload 4, 2) := by decide +kernel
theorem dX2_text_54 : decode cX2_text 54 = .ok (.imul, 1) := by decide +kernel
theorem dX2_text_55 : decode cX2_text 55 = .ok (.lushr, 1) := by decide +kernel
theorem dX2_text_56 : decode cX2_text 56 = .ok (.ldc2_w 61, 3) := by decide +kernel
theorem dX2_text_59 : decode cX2_text 59 = .ok (.land, 1) := by decide +kernel
theorem dX2_text_60 : decode cX2_text 60 = .ok (.l2i, 1) := by decide +kernel
theorem dX2_text_61 : decode cX2_text 61 = .ok (.i2b, 1) := by decide +kernel
theorem dX2_text_62 : decode cX2_text 62 = .ok (.bastore, 1) := by decide +kernel
theorem dX2_text_63 : decode cX2_text 63 = .ok (.iinc 4 1, 3) := by decide +kernel
theorem dX2_text_66 : decode cX2_text 66 = .ok (.goto (-34), 3) := by decide +kernel
theorem dX2_text_69 : decode cX2_text 69 = .ok (.aload_n 0, 1) := by decide +kernel
theorem dX2_text_70 : decode cX2_text 70 = .ok (.dup, 1) := by decide +kernel
theorem dX2_text_71 : decode cX2_text 71 = .ok (.getfield 57, 3) := by decide +kernel
theorem dX2_text_74 : decode cX2_text 74 = .ok (.iload_n 1, 1) := by decide +kernel
theorem dX2_text_75 : decode cX2_text 75 = .ok (.iadd, 1) := by decide +kernel
theorem dX2_text_76 : decode cX2_text 76 = .ok (.putfield 57, 3) := by decide +kernel
theorem dX2_text_79 : decode cX2_text 79 = .ok (.aload_n 0, 1) := by decide +kernel
theorem dX2_text_80 : decode cX2_text 80 = .ok (.getfield 57, 3) := by decide +kernel
theorem dX2_text_83 : decode cX2_text 83 = .ok (.ireturn, 1) := by decide +kernel
theorem dX2_clear_0 : decode cX2_clear 0 = .ok (.aload_n 0, 1) := by decide +kernel
theorem dX2_clear_1 : decode cX2_clear 1 = .ok (.getfield 57, 3) := by decide +kernel
theorem dX2_clear_4 : decode cX2_clear 4 = .ok (.istore_n 1, 1) := by decide +kernel
theorem dX2_clear_5 : decode cX2_clear 5 = .ok (.aload_n 0, 1) := by decide +kernel
theorem dX2_clear_6 : decode cX2_clear 6 = .ok (.iconst 0, 1) := by decide +kernel
theorem dX2_clear_7 : decode cX2_clear 7 = .ok (.putfield 57, 3) := by decide +kernel
theorem dX2_clear_10 : decode cX2_clear 10 = .ok (.iload_n 1, 1) := by decide +kernel
theorem dX2_clear_11 : decode cX2_clear 11 = .ok (.ireturn, 1) := by decide +kernel
set_option maxRecDepth 20000 in
theorem ggX2_reader_X2_fitsFirst : GoodIn wsX2_reader wsX2_fitsFirst := goodIn_r _ [6, 7, 8, 9, 5, 10, 1, 11, 12, 13, 25, 26, 27, 28, 29, 30, 31, 32, 33, 34, 35, 36, 37, 38, 39, 40] (by decide +kernel) (by decide +kernel)
set_option maxRecDepth 20000 in
theorem gX2_reader_X2_fitsFirst : GoodIn wsX2_reader (wsV RX2 63 RX2 yX2_fitsFirst wsX2_fitsFirst) := goodIn_app (goodIn_of _ (by decide +kernel)) ggX2_reader_X2_fitsFirst
set_option maxRecDepth 20000 in
theorem ggX2_reader_X2_fitsSecond : GoodIn wsX2_reader wsX2_fitsSecond := goodIn_r _ [17, 7, 8, 9, 5, 10, 1, 25, 26, 27, 28, 29, 30, 31, 32, 33, 34, 35, 36, 37, 38, 39, 40] (by decide +kernel) (by decide +kernel)
set_option maxRecDepth 20000 in
theorem gX2_reader_X2_fitsSecond : GoodIn wsX2_reader (wsV RX2 67 RX2 yX2_fitsSecond wsX2_fitsSecond) := goodIn_app (goodIn_of _ (by decide +kernel)) ggX2_reader_X2_fitsSecond
set_option maxRecDepth 20000 in
theorem ggX2_reader_X2_addReader : GoodIn wsX2_reader wsX2_addReader := goodIn_r _ [21, 1, 22, 23, 24, 25, 26, 27, 28, 29, 30, 31, 32, 33, 34, 35, 36, 37, 38, 39, 40] (by decide +kernel) (by decide +kernel)
set_option maxRecDepth 20000 in
theorem gX2_reader_X2_addReader : GoodIn wsX2_reader (wsV RX2 53 RX2 yX2_addReader wsX2_addReader) := goodIn_app (goodIn_of _ (by decide +kernel)) ggX2_reader_X2_addReader
theorem dX2_reader_0 : decode cX2_reader 0 = .ok (.iload_n 1, 1) := by decide +kernel
theorem dX2_reader_1 : decode cX2_reader 1 = .ok (.ifCond .lt 27, 3) := by decide +kernel
theorem dX2_reader_4 : decode cX2_reader 4 = .ok (.iload_n 1, 1) := by decide +kernel
theorem dX2_reader_5 : decode cX2_reader 5 = .ok (.bipush 15, 2) := by decide +kernel
theorem dX2_reader_7 : decode cX2_reader 7 = .ok (.if_icmp .gt 21, 3) := by decide +kernel
theorem dX2_reader_10 : decode cX2_reader 10 = .ok (.aload_n 0, 1) := by decide +kernel
theorem dX2_reader_11 : decode cX2_reader 11 = .ok (.iload_n 1, 1) := by decide +kernel
theorem dX2_reader_12 : decode cX2_reader 12 = .ok (.iload_n 2, 1) := by decide +kernel
theorem dX2_reader_13 : decode cX2_reader 13 = .ok (.invokevirtual 63, 3) := by decide +kernel
theorem dX2_reader_16 : decode cX2_reader 16 = .ok (.ifCond .eq 12, 3) := by decide +kernel
theorem dX2_reader_19 : decode cX2_reader 19 = .ok (.aload_n 0, 1) := by decide +kernel
theorem dX2_reader_20 : decode cX2_reader 20 = .ok (.iload_n 1, 1) := by decide +kernel
theorem dX2_reader_21 : decode cX2_reader 21 = .ok (.iload_n 3, 1) := by decide +kernel
theorem dX2_reader_22 : decode cX2_reader 22 = .ok (.invokevirtual 67, 3) := by decide +kernel
theorem dX2_reader_25 : decode cX2_reader 25 = .ok (.ifCond .ne 6, 3) := by decide +kernel
theorem dX2_reader_28 : decode cX2_reader 28 = .ok (.bipush (-2), 2) := by decide +kernel
theorem dX2_reader_30 : decode cX2_reader 30 = .ok (.ireturn, 1) := by decide +kernel
theorem dX2_reader_31 : decode cX2_reader 31 = .ok (.aload_n 0, 1) := by decide +kernel
theorem dX2_reader_32 : decode cX2_reader 32 = .ok (.getfield 70, 3) := by decide +kernel
theorem dX2_reader_35 : decode cX2_reader 35 = .ok (.bipush 50, 2) := by decide +kernel
theorem dX2_reader_37 : decode cX2_reader 37 = .ok (.if_icmp .lt 6, 3) := by decide +kernel
theorem dX2_reader_40 : decode cX2_reader 40 = .ok (.bipush (-3), 2) := by decide +kernel
theorem dX2_reader_42 : decode cX2_reader 42 = .ok (.ireturn, 1) := by decide +kernel
theorem dX2_reader_43 : decode cX2_reader 43 = .ok (.aload_n 0, 1) := by decide +kernel
theorem dX2_reader_44 : decode cX2_reader 44 = .ok (.iload_n 1, 1) := by decide +kernel
theorem dX2_reader_45 : decode cX2_reader 45 = .ok (.iload_n 2, 1) := by decide +kernel
theorem dX2_reader_46 : decode cX2_reader 46 = .ok (.iload_n 3, 1) := by decide +kernel
theorem dX2_reader_47 : decode cX2_reader 47 = .ok (.invokevirtual 53, 3) := by decide +kernel
theorem dX2_reader_50 : decode cX2_reader 50 = .ok (.ireturn, 1) := by decide +kernel
set_option maxRecDepth 20000 in
theorem ggX2_name_X2_isName : GoodIn wsX2_name wsX2_isName := goodIn_r _ [5] (by decide +kernel) (by decide +kernel)
set_option maxRecDepth 20000 in
theorem gX2_name_X2_isName : GoodIn wsX2_name (va_wsS RX2 73 yX2_isName wsX2_isName) := goodIn_app (goodIn_of _ (by decide +kernel)) ggX2_name_X2_isName
set_option maxRecDepth 20000 in
theorem ggX2_name_X2_isReader : GoodIn wsX2_name wsX2_isReader := goodIn_r _ [9, 10, 11, 12, 13, 14, 15, 16, 17, 18, 19, 20, 21, 22, 23, 24, 25, 26] (by decide +kernel) (by decide +kernel)
set_option maxRecDepth 20000 in
theorem gX2_name_X2_isReader : GoodIn wsX2_name (wsV RX2 77 RX2 yX2_isReader wsX2_isReader) := goodIn_app (goodIn_of _ (by decide +kernel)) ggX2_name_X2_isReader
theorem dX2_name_0 : decode cX2_name 0 = .ok (.iload_n 1, 1) := by decide +kernel
theorem dX2_name_1 : decode cX2_name 1 = .ok (.invokestatic 73, 3) := by decide +kernel
theorem dX2_name_4 : decode cX2_name 4 = .ok (.ifCond .eq 16, 3) := by decide +kernel
theorem dX2_name_7 : decode cX2_name 7 = .ok (.iload_n 2, 1) := by decide +kernel
theorem dX2_name_8 : decode cX2_name 8 = .ok (.iconst (-1), 1) := by decide +kernel
theorem dX2_name_9 : decode cX2_name 9 = .ok (.if_icmp .eq 14, 3) := by decide +kernel
theorem dX2_name_12 : decode cX2_name 12 = .ok (.aload_n 0, 1) := by decide +kernel
theorem dX2_name_13 : decode cX2_name 13 = .ok (.iload_n 2, 1) := by decide +kernel
theorem dX2_name_14 : decode cX2_name 14 = .ok (.invokevirtual 77, 3) := by decide +kernel
theorem dX2_name_17 : decode cX2_name 17 = .ok (.ifCond .ne 6, 3) := by decide +kernel
theorem dX2_name_20 : decode cX2_name 20 = .ok (.bipush (-2), 2) := by decide +kernel
theorem dX2_name_22 : decode cX2_name 22 = .ok (.ireturn, 1) := by decide +kernel
theorem dX2_name_23 : decode cX2_name 23 = .ok (.aload_n 0, 1) := by decide +kernel
theorem dX2_name_24 : decode cX2_name 24 = .ok (.getfield 26, 3) := by decide +kernel
theorem dX2_name_27 : decode cX2_name 27 = .ok (.iload_n 1, 1) := by decide +kernel
theorem dX2_name_28 : decode cX2_name 28 = .ok (.iaload, 1) := by decide +kernel
theorem dX2_name_29 : decode cX2_name 29 = .ok (.istore_n 3, 1) := by decide +kernel
theorem dX2_name_30 : decode cX2_name 30 = .ok (.aload_n 0, 1) := by decide +kernel
theorem dX2_name_31 : decode cX2_name 31 = .ok (.getfield 26, 3) := by decide +kernel
theorem dX2_name_34 : decode cX2_name 34 = .ok (.iload_n 1, 1) := by decide +kernel
theorem dX2_name_35 : decode cX2_name 35 = .ok (.iload_n 2, 1) := by decide +kernel
theorem dX2_name_36 : decode cX2_name 36 = .ok (.iastore, 1) := by decide +kernel
theorem dX2_name_37 : decode cX2_name 37 = .ok (.iload_n 3, 1) := by decide +kernel
theorem dX2_name_38 : decode cX2_name 38 = .ok (.iconst (-1), 1) := by decide +kernel
theorem dX2_name_39 : decode cX2_name 39 = .ok (.if_icmp .ne 7, 3) := by decide +kernel
theorem dX2_name_42 : decode cX2_name 42 = .ok (.iconst 0, 1) := by decide +kernel
theorem dX2_name_43 : decode cX2_name 43 = .ok (.goto 4, 3) := by decide +kernel
theorem dX2_name_46 : decode cX2_name 46 = .ok (.iconst 1, 1) := by decide +kernel
theorem dX2_name_47 : decode cX2_name 47 = .ok (.ireturn, 1) := by decide +kernel
set_option maxRecDepth 20000 in
theorem ggX2_read_X2_isReader : GoodIn wsX2_read wsX2_isReader := goodIn_r _ [6, 7, 115, 116, 117, 118, 119, 120, 121, 122, 123, 124, 125, 126, 127, 128, 129, 130] (by decide +kernel) (by decide +kernel)
set_option maxRecDepth 20000 in
theorem gX2_read_X2_isReader : GoodIn wsX2_read (wsV RX2 77 RX2 yX2_isReader wsX2_isReader) := goodIn_app (goodIn_of _ (by decide +kernel)) ggX2_read_X2_isReader
set_option maxRecDepth 20000 in
theorem ggX2_read_X2_startCall : GoodIn wsX2_read wsX2_startCall := goodIn_r _ [11, 12, 13, 14, 15, 16, 17, 18, 19, 20, 21, 22, 23, 115, 116, 117, 118, 119, 120, 121, 122, 123, 124, 125, 126, 127, 128, 129, 130, 131, 132, 133, 134, 135, 136, 137, 138, 139] (by decide +kernel) (by decide +kernel)
set_option maxRecDepth 20000 in
theorem gX2_read_X2_startCall : GoodIn wsX2_read (wsV RX2 80 RX2 yX2_startCall wsX2_startCall) := goodIn_app (goodIn_of _ (by decide +kernel)) ggX2_read_X2_startCall
set_option maxRecDepth 20000 in
theorem ggX2_read_X2_follow : GoodIn wsX2_read wsX2_follow := goodIn_r _ [27, 12, 28, 13, 14, 29, 30, 31, 32, 33, 34, 35, 36, 5, 37, 15, 38, 39, 16, 40, 41, 42, 43, 44, 45, 46, 24, 25, 26, 47, 48, 49, 50, 51, 52, 53, 54, 55, 56, 57, 58, 59, 60, 61, 62, 63, 64, 65, 66, 67, 68, 69, 70, 1, 71, 72, 73, 74, 75, 76, 77, 78, 20, 79, 22, 80, 81, 82, 23, 83, 84, 85, 86, 87, 88, 89, 90, 91, 92, 93, 94, 95, 96, 97, 98, 99, 100, 101, 102, 103, 104, 105, 106, 107, 108, 115, 116, 117, 118, 119, 120, 121, 122, 123, 124, 125, 126, 127, 128, 129, 130, 135, 136, 137, 138, 139, 131, 132, 133, 134] (by decide +kernel) (by decide +kernel)
set_option maxRecDepth 20000 in
theorem gX2_read_X2_follow : GoodIn wsX2_read (wsV RX2 83 RX2 yX2_follow wsX2_follow) := goodIn_app (goodIn_of _ (by decide +kernel)) ggX2_read_X2_follow
set_option maxRecDepth 20000 in
theorem ggX2_read_X2_isFault : GoodIn wsX2_read wsX2_isFault := goodIn_r _ [49] (by decide +kernel) (by decide +kernel)
set_option maxRecDepth 20000 in
theorem gX2_read_X2_isFault : GoodIn wsX2_read (va_wsS RX2 87 yX2_isFault wsX2_isFault) := goodIn_app (goodIn_of _ (by decide +kernel)) ggX2_read_X2_isFault
set_option maxRecDepth 20000 in
theorem ggX2_read_X2_noteFault : GoodIn wsX2_read wsX2_noteFault := goodIn_r _ [112, 113, 114, 115, 116, 117, 118, 119, 120, 121, 122, 123, 124, 125, 126, 127, 128, 129, 130] (by decide +kernel) (by decide +kernel)
set_option maxRecDepth 20000 in
theorem gX2_read_X2_noteFault : GoodIn wsX2_read (wsV RX2 90 RX2 yX2_noteFault wsX2_noteFault) := goodIn_app (goodIn_of _ (by decide +kernel)) ggX2_read_X2_noteFault
theorem dX2_read_0 : decode cX2_read 0 = .ok (.aload_n 0, 1) := by decide +kernel
theorem dX2_read_1 : decode cX2_read 1 = .ok (.iload_n 1, 1) := by decide +kernel
theorem dX2_read_2 : decode cX2_read 2 = .ok (.invokevirtual 77, 3) := by decide +kernel
theorem dX2_read_5 : decode cX2_read 5 = .ok (.ifCond .eq 15, 3) := by decide +kernel
theorem dX2_read_8 : decode cX2_read 8 = .ok (.iload_n 2, 1) := by decide +kernel
theorem dX2_read_9 : decode cX2_read 9 = .ok (.ifCond .lt 11, 3) := by decide +kernel
theorem dX2_read_12 : decode cX2_read 12 = .ok (.iload_n 2, 1) := by decide +kernel
theorem dX2_read_13 : decode cX2_read 13 = .ok (.aload_n 0, 1) := by decide +kernel
theorem dX2_read_14 : decode cX2_read 14 = .ok (.getfield 57, 3) := by decide +kernel
theorem dX2_read_17 : decode cX2_read 17 = .ok (.if_icmp .le 6, 3) := by decide +kernel
theorem dX2_read_20 : decode cX2_read 20 = .ok (.bipush (-2), 2) := by decide +kernel
theorem dX2_read_22 : decode cX2_read 22 = .ok (.ireturn, 1) := by decide +kernel
theorem dX2_read_23 : decode cX2_read 23 = .ok (.aload_n 0, 1) := by decide +kernel
theorem dX2_read_24 : decode cX2_read 24 = .ok (.invokevirtual 80, 3) := by decide +kernel
theorem dX2_read_27 : decode cX2_read 27 = .ok (.aload_n 0, 1) := by decide +kernel
theorem dX2_read_28 : decode cX2_read 28 = .ok (.iload_n 1, 1) := by decide +kernel
theorem dX2_read_29 : decode cX2_read 29 = .ok (.iload_n 2, 1) := by decide +kernel
theorem dX2_read_30 : decode cX2_read 30 = .ok (.iconst 1, 1) := by decide +kernel
theorem dX2_read_31 : decode cX2_read 31 = .ok (.iconst 0, 1) := by decide +kernel
theorem dX2_read_32 : decode cX2_read 32 = .ok (.invokevirtual 83, 3) := by decide +kernel
theorem dX2_read_35 : decode cX2_read 35 = .ok (.istore_n 3, 1) := by decide +kernel
theorem dX2_read_36 : decode cX2_read 36 = .ok (.iload_n 3, 1) := by decide +kernel
theorem dX2_read_37 : decode cX2_read 37 = .ok (.invokestatic 87, 3) := by decide +kernel
theorem dX2_read_40 : decode cX2_read 40 = .ok (.ifCond .eq 8, 3) := by decide +kernel
theorem dX2_read_43 : decode cX2_read 43 = .ok (.aload_n 0, 1) := by decide +kernel
theorem dX2_read_44 : decode cX2_read 44 = .ok (.iload_n 3, 1) := by decide +kernel
theorem dX2_read_45 : decode cX2_read 45 = .ok (.invokevirtual 90, 3) := by decide +kernel
theorem dX2_read_48 : decode cX2_read 48 = .ok (.iload_n 3, 1) := by decide +kernel
theorem dX2_read_49 : decode cX2_read 49 = .ok (.ireturn, 1) := by decide +kernel
set_option maxRecDepth 20000 in
theorem ggX2_all_X2_isReader : GoodIn wsX2_all wsX2_isReader := goodIn_r _ [9, 10, 115, 116, 117, 118, 119, 120, 121, 122, 123, 124, 125, 126, 127, 128, 129, 130] (by decide +kernel) (by decide +kernel)
set_option maxRecDepth 20000 in
theorem gX2_all_X2_isReader : GoodIn wsX2_all (wsV RX2 77 RX2 yX2_isReader wsX2_isReader) := goodIn_app (goodIn_of _ (by decide +kernel)) ggX2_all_X2_isReader
set_option maxRecDepth 20000 in
theorem ggX2_all_X2_startCall : GoodIn wsX2_all wsX2_startCall := goodIn_r _ [14, 1, 3, 4, 15, 16, 17, 18, 19, 20, 21, 22, 23, 115, 116, 117, 118, 119, 120, 121, 122, 123, 124, 125, 126, 127, 128, 129, 130, 136, 137, 138, 139, 131, 132, 133, 134, 135] (by decide +kernel) (by decide +kernel)
set_option maxRecDepth 20000 in
theorem gX2_all_X2_startCall : GoodIn wsX2_all (wsV RX2 80 RX2 yX2_startCall wsX2_startCall) := goodIn_app (goodIn_of _ (by decide +kernel)) ggX2_all_X2_startCall
set_option maxRecDepth 20000 in
theorem ggX2_all_X2_follow : GoodIn wsX2_all wsX2_follow := goodIn_r _ [27, 1, 2, 3, 4, 28, 29, 30, 31, 32, 33, 34, 35, 8, 36, 15, 37, 38, 16, 39, 40, 41, 42, 43, 44, 45, 24, 25, 26, 46, 47, 48, 49, 50, 51, 52, 53, 54, 55, 56, 57, 58, 59, 60, 61, 62, 63, 64, 65, 66, 67, 68, 69, 70, 71, 72, 73, 74, 75, 76, 77, 78, 20, 79, 22, 80, 81, 82, 23, 83, 84, 85, 86, 87, 88, 89, 90, 91, 92, 93, 94, 95, 96, 97, 98, 99, 100, 101, 102, 103, 104, 105, 106, 107, 108, 115, 116, 117, 118, 119, 120, 121, 122, 123, 124, 125, 126, 127, 128, 129, 130, 131, 132, 133, 134, 135, 136, 137, 138, 139] (by decide +kernel) (by decide +kernel)
set_option maxRecDepth 20000 in
theorem gX2_all_X2_follow : GoodIn wsX2_all (wsV RX2 83 RX2 yX2_follow wsX2_follow) := goodIn_app (goodIn_of _ (by decide +kernel)) ggX2_all_X2_follow
set_option maxRecDepth 20000 in
theorem ggX2_all_X2_isFault : GoodIn wsX2_all wsX2_isFault := goodIn_r _ [48] (by decide +kernel) (by decide +kernel)
set_option maxRecDepth 20000 in
theorem gX2_all_X2_isFault : GoodIn wsX2_all (va_wsS RX2 87 yX2_isFault wsX2_isFault) := goodIn_app (goodIn_of _ (by decide +kernel)) ggX2_all_X2_isFault
set_option maxRecDepth 20000 in
theorem ggX2_all_X2_noteFault : GoodIn wsX2_all wsX2_noteFault := goodIn_r _ [112, 113, 114, 115, 116, 117, 118, 119, 120, 121, 122, 123, 124, 125, 126, 127, 128, 129, 130] (by decide +kernel) (by decide +kernel)
set_option maxRecDepth 20000 in
theorem gX2_all_X2_noteFault : GoodIn wsX2_all (wsV RX2 90 RX2 yX2_noteFault wsX2_noteFault) := goodIn_app (goodIn_of _ (by decide +kernel)) ggX2_all_X2_noteFault
set_option maxRecDepth 20000 in
theorem ggX2_all_X2_takeBack : GoodIn wsX2_all wsX2_takeBack := goodIn_r _ [52, 1, 2, 3, 4, 115, 116, 117, 118, 119, 120, 121, 122, 123, 124, 125, 126, 127, 128, 129, 130, 131, 132, 133, 134, 135, 136, 137, 138, 139] (by decide +kernel) (by decide +kernel)
set_option maxRecDepth 20000 in
theorem gX2_all_X2_takeBack : GoodIn wsX2_all (wsV RX2 100 RX2 yX2_takeBack wsX2_takeBack) := goodIn_app (goodIn_of _ (by decide +kernel)) ggX2_all_X2_takeBack
theorem dX2_all_0 : decode cX2_all 0 = .ok (.aload_n 0, 1) := by decide +kernel
theorem dX2_all_1 : decode cX2_all 1 = .ok (.iload_n 1, 1) := by decide +kernel
theorem dX2_all_2 : decode cX2_all 2 = .ok (.invokevirtual 77, 3) := by decide +kernel
theorem dX2_all_5 : decode cX2_all 5 = .ok (.ifCond .ne 6, 3) := by decide +kernel
theorem dX2_all_8 : decode cX2_all 8 = .ok (.bipush (-2), 2) := by decide +kernel
theorem dX2_all_10 : decode cX2_all 10 = .ok (.ireturn, 1) := by decide +kernel
theorem dX2_all_11 : decode cX2_all 11 = .ok (.aload_n 0, 1) := by decide +kernel
theorem dX2_all_12 : decode cX2_all 12 = .ok (.invokevirtual 80, 3) := by decide +kernel
theorem dX2_all_15 : decode cX2_all 15 = .ok (.iconst 0, 1) := by decide +kernel
theorem dX2_all_16 : decode cX2_all 16 = .ok (.istore_n 2, 1) := by decide +kernel
theorem dX2_all_17 : decode cX2_all 17 = .ok (.iconst 0, 1) := by decide +kernel
theorem dX2_all_18 : decode cX2_all 18 = .ok (.istore_n 3, 1) := by decide +kernel
theorem dX2_all_19 : decode cX2_all 19 = .ok (.iconst 0, 1) := by decide +kernel
theorem dX2_all_20 : decode cX2_all 20 = .ok (.istore 4, 2) := by decide +kernel
theorem dX2_all_22 : decode cX2_all 22 = .ok (.iload 4, 2) := by decide +kernel
theorem dX2_all_24 : decode cX2_all 24 = .ok (.sipush 200, 3) := by decide +kernel
theorem dX2_all_27 : decode cX2_all 27 = .ok (.if_icmp .gt 77, 3) := by decide +kernel
theorem dX2_all_30 : decode cX2_all 30 = .ok (.aload_n 0, 1) := by decide +kernel
theorem dX2_all_31 : decode cX2_all 31 = .ok (.getfield 36, 3) := by decide +kernel
theorem dX2_all_34 : decode cX2_all 34 = .ok (.getfield 94, 3) := by decide +kernel
theorem dX2_all_37 : decode cX2_all 37 = .ok (.istore 5, 2) := by decide +kernel
theorem dX2_all_39 : decode cX2_all 39 = .ok (.aload_n 0, 1) := by decide +kernel
theorem dX2_all_40 : decode cX2_all 40 = .ok (.getfield 43, 3) := by decide +kernel
theorem dX2_all_43 : decode cX2_all 43 = .ok (.getfield 97, 3) := by decide +kernel
theorem dX2_all_46 : decode cX2_all 46 = .ok (.istore 6, 2) := by decide +kernel
theorem dX2_all_48 : decode cX2_all 48 = .ok (.aload_n 0, 1) := by decide +kernel
theorem dX2_all_49 : decode cX2_all 49 = .ok (.iload_n 1, 1) := by decide +kernel
theorem dX2_all_50 : decode cX2_all 50 = .ok (.iload_n 2, 1) := by decide +kernel
theorem dX2_all_51 : decode cX2_all 51 = .ok (.iconst 1, 1) := by decide +kernel
theorem dX2_all_52 : decode cX2_all 52 = .ok (.iconst 0, 1) := by decide +kernel
theorem dX2_all_53 : decode cX2_all 53 = .ok (.invokevirtual 83, 3) := by decide +kernel
theorem dX2_all_56 : decode cX2_all 56 = .ok (.istore 7, 2) := by decide +kernel
theorem dX2_all_58 : decode cX2_all 58 = .ok (.iload 7, 2) := by decide +kernel
theorem dX2_all_60 : decode cX2_all 60 = .ok (.invokestatic 87, 3) := by decide +kernel
theorem dX2_all_63 : decode cX2_all 63 = .ok (.ifCond .eq 12, 3) := by decide +kernel
theorem dX2_all_66 : decode cX2_all 66 = .ok (.aload_n 0, 1) := by decide +kernel
theorem dX2_all_67 : decode cX2_all 67 = .ok (.iload 7, 2) := by decide +kernel
theorem dX2_all_69 : decode cX2_all 69 = .ok (.invokevirtual 90, 3) := by decide +kernel
theorem dX2_all_72 : decode cX2_all 72 = .ok (.iload 7, 2) := by decide +kernel
theorem dX2_all_74 : decode cX2_all 74 = .ok (.ireturn, 1) := by decide +kernel
theorem dX2_all_75 : decode cX2_all 75 = .ok (.iload 7, 2) := by decide +kernel
theorem dX2_all_77 : decode cX2_all 77 = .ok (.iload_n 2, 1) := by decide +kernel
theorem dX2_all_78 : decode cX2_all 78 = .ok (.if_icmp .gt 14, 3) := by decide +kernel
theorem dX2_all_81 : decode cX2_all 81 = .ok (.aload_n 0, 1) := by decide +kernel
theorem dX2_all_82 : decode cX2_all 82 = .ok (.iload 5, 2) := by decide +kernel
theorem dX2_all_84 : decode cX2_all 84 = .ok (.iload 6, 2) := by decide +kernel
theorem dX2_all_86 : decode cX2_all 86 = .ok (.invokevirtual 100, 3) := by decide +kernel
theorem dX2_all_89 : decode cX2_all 89 = .ok (.goto 15, 3) := by decide +kernel
theorem dX2_all_92 : decode cX2_all 92 = .ok (.iload 7, 2) := by decide +kernel
theorem dX2_all_94 : decode cX2_all 94 = .ok (.istore_n 2, 1) := by decide +kernel
theorem dX2_all_95 : decode cX2_all 95 = .ok (.iinc 3 1, 3) := by decide +kernel
theorem dX2_all_98 : decode cX2_all 98 = .ok (.iinc 4 1, 3) := by decide +kernel
theorem dX2_all_101 : decode cX2_all 101 = .ok (.goto (-79), 3) := by decide +kernel
theorem dX2_all_104 : decode cX2_all 104 = .ok (.iload_n 3, 1) := by decide +kernel
theorem dX2_all_105 : decode cX2_all 105 = .ok (.ireturn, 1) := by decide +kernel
set_option maxRecDepth 20000 in
theorem ggX2_pile_X1_numberUnder : GoodIn wsX2_pile wsX1_numberUnder := goodIn_r _ [6, 7, 8, 9, 10, 5, 11, 12, 13, 14, 15, 16, 17, 18, 35, 36, 37, 38, 39] (by decide +kernel) (by decide +kernel)
set_option maxRecDepth 20000 in
theorem gX2_pile_X1_numberUnder : GoodIn wsX2_pile (wsV RX2 104 RX1 yX1_numberUnder wsX1_numberUnder) := goodIn_app (goodIn_of _ (by decide +kernel)) ggX2_pile_X1_numberUnder
theorem dX2_pile_0 : decode cX2_pile 0 = .ok (.aload_n 0, 1) := by decide +kernel
theorem dX2_pile_1 : decode cX2_pile 1 = .ok (.getfield 36, 3) := by decide +kernel
theorem dX2_pile_4 : decode cX2_pile 4 = .ok (.iload_n 1, 1) := by decide +kernel
theorem dX2_pile_5 : decode cX2_pile 5 = .ok (.invokevirtual 104, 3) := by decide +kernel
theorem dX2_pile_8 : decode cX2_pile 8 = .ok (.lreturn, 1) := by decide +kernel
theorem dX2_mark_0 : decode cX2_mark 0 = .ok (.iload_n 2, 1) := by decide +kernel
theorem dX2_mark_1 : decode cX2_mark 1 = .ok (.ifCond .lt 8, 3) := by decide +kernel
theorem dX2_mark_4 : decode cX2_mark 4 = .ok (.iload_n 2, 1) := by decide +kernel
theorem dX2_mark_5 : decode cX2_mark 5 = .ok (.iconst 2, 1) := by decide +kernel
theorem dX2_mark_6 : decode cX2_mark 6 = .ok (.if_icmp .le 6, 3) := by decide +kernel
theorem dX2_mark_9 : decode cX2_mark 9 = .ok (.bipush (-2), 2) := by decide +kernel
theorem dX2_mark_11 : decode cX2_mark 11 = .ok (.ireturn, 1) := by decide +kernel
theorem dX2_mark_12 : decode cX2_mark 12 = .ok (.iload_n 1, 1) := by decide +kernel
theorem dX2_mark_13 : decode cX2_mark 13 = .ok (.ifCond .lt 14, 3) := by decide +kernel
theorem dX2_mark_16 : decode cX2_mark 16 = .ok (.iload_n 1, 1) := by decide +kernel
theorem dX2_mark_17 : decode cX2_mark 17 = .ok (.aload_n 0, 1) := by decide +kernel
theorem dX2_mark_18 : decode cX2_mark 18 = .ok (.getfield 43, 3) := by decide +kernel
theorem dX2_mark_21 : decode cX2_mark 21 = .ok (.getfield 97, 3) := by decide +kernel
theorem dX2_mark_24 : decode cX2_mark 24 = .ok (.if_icmp .lt 5, 3) := by decide +kernel
theorem dX2_mark_27 : decode cX2_mark 27 = .ok (.iconst (-1), 1) := by decide +kernel
theorem dX2_mark_28 : decode cX2_mark 28 = .ok (.ireturn, 1) := by decide +kernel
theorem dX2_mark_29 : decode cX2_mark 29 = .ok (.iload_n 2, 1) := by decide +kernel
theorem dX2_mark_30 : decode cX2_mark 30 = .ok (.ifCond .ne 15, 3) := by decide +kernel
theorem dX2_mark_33 : decode cX2_mark 33 = .ok (.aload_n 0, 1) := by decide +kernel
theorem dX2_mark_34 : decode cX2_mark 34 = .ok (.getfield 43, 3) := by decide +kernel
theorem dX2_mark_37 : decode cX2_mark 37 = .ok (.getfield 108, 3) := by decide +kernel
theorem dX2_mark_40 : decode cX2_mark 40 = .ok (.iload_n 1, 1) := by decide +kernel
theorem dX2_mark_41 : decode cX2_mark 41 = .ok (.iaload, 1) := by decide +kernel
theorem dX2_mark_42 : decode cX2_mark 42 = .ok (.goto 29, 3) := by decide +kernel
theorem dX2_mark_45 : decode cX2_mark 45 = .ok (.iload_n 2, 1) := by decide +kernel
theorem dX2_mark_46 : decode cX2_mark 46 = .ok (.iconst 1, 1) := by decide +kernel
theorem dX2_mark_47 : decode cX2_mark 47 = .ok (.if_icmp .ne 15, 3) := by decide +kernel
theorem dX2_mark_50 : decode cX2_mark 50 = .ok (.aload_n 0, 1) := by decide +kernel
theorem dX2_mark_51 : decode cX2_mark 51 = .ok (.getfield 43, 3) := by decide +kernel
theorem dX2_mark_54 : decode cX2_mark 54 = .ok (.getfield 111, 3) := by decide +kernel
theorem dX2_mark_57 : decode cX2_mark 57 = .ok (.iload_n 1, 1) := by decide +kernel
theorem dX2_mark_58 : decode cX2_mark 58 = .ok (.iaload, 1) := by decide +kernel
theorem dX2_mark_59 : decode cX2_mark 59 = .ok (.goto 12, 3) := by decide +kernel
theorem dX2_mark_62 : decode cX2_mark 62 = .ok (.aload_n 0, 1) := by decide +kernel
theorem dX2_mark_63 : decode cX2_mark 63 = .ok (.getfield 43, 3) := by decide +kernel
theorem dX2_mark_66 : decode cX2_mark 66 = .ok (.getfield 114, 3) := by decide +kernel
theorem dX2_mark_69 : decode cX2_mark 69 = .ok (.iload_n 1, 1) := by decide +kernel
theorem dX2_mark_70 : decode cX2_mark 70 = .ok (.iaload, 1) := by decide +kernel
theorem dX2_mark_71 : decode cX2_mark 71 = .ok (.ireturn, 1) := by decide +kernel
set_option maxRecDepth 20000 in
theorem ggX2_count_X1_height : GoodIn wsX2_count wsX1_height := goodIn_r _ [15, 16, 17, 38, 39, 40, 41, 42] (by decide +kernel) (by decide +kernel)
set_option maxRecDepth 20000 in
theorem gX2_count_X1_height : GoodIn wsX2_count (wsV RX2 117 RX1 yX1_height wsX1_height) := goodIn_app (goodIn_of _ (by decide +kernel)) ggX2_count_X1_height
theorem dX2_count_0 : decode cX2_count 0 = .ok (.iload_n 1, 1) := by decide +kernel
theorem dX2_count_1 : decode cX2_count 1 = .ok (.tableswitch 102 0 8 #[51, 56, 61, 69, 77, 82, 87, 92, 97], 51) := by decide +kernel
theorem dX2_count_52 : decode cX2_count 52 = .ok (.aload_n 0, 1) := by decide +kernel
theorem dX2_count_53 : decode cX2_count 53 = .ok (.getfield 57, 3) := by decide +kernel
theorem dX2_count_56 : decode cX2_count 56 = .ok (.ireturn, 1) := by decide +kernel
theorem dX2_count_57 : decode cX2_count 57 = .ok (.aload_n 0, 1) := by decide +kernel
theorem dX2_count_58 : decode cX2_count 58 = .ok (.getfield 70, 3) := by decide +kernel
theorem dX2_count_61 : decode cX2_count 61 = .ok (.ireturn, 1) := by decide +kernel
theorem dX2_count_62 : decode cX2_count 62 = .ok (.aload_n 0, 1) := by decide +kernel
theorem dX2_count_63 : decode cX2_count 63 = .ok (.getfield 36, 3) := by decide +kernel
theorem dX2_count_66 : decode cX2_count 66 = .ok (.invokevirtual 117, 3) := by decide +kernel
theorem dX2_count_69 : decode cX2_count 69 = .ok (.ireturn, 1) := by decide +kernel
theorem dX2_count_70 : decode cX2_count 70 = .ok (.aload_n 0, 1) := by decide +kernel
theorem dX2_count_71 : decode cX2_count 71 = .ok (.getfield 43, 3) := by decide +kernel
theorem dX2_count_74 : decode cX2_count 74 = .ok (.getfield 97, 3) := by decide +kernel
theorem dX2_count_77 : decode cX2_count 77 = .ok (.ireturn, 1) := by decide +kernel
theorem dX2_count_78 : decode cX2_count 78 = .ok (.aload_n 0, 1) := by decide +kernel
theorem dX2_count_79 : decode cX2_count 79 = .ok (.getfield 121, 3) := by decide +kernel
theorem dX2_count_82 : decode cX2_count 82 = .ok (.ireturn, 1) := by decide +kernel
theorem dX2_count_83 : decode cX2_count 83 = .ok (.aload_n 0, 1) := by decide +kernel
theorem dX2_count_84 : decode cX2_count 84 = .ok (.getfield 124, 3) := by decide +kernel
theorem dX2_count_87 : decode cX2_count 87 = .ok (.ireturn, 1) := by decide +kernel
theorem dX2_count_88 : decode cX2_count 88 = .ok (.aload_n 0, 1) := by decide +kernel
theorem dX2_count_89 : decode cX2_count 89 = .ok (.getfield 127, 3) := by decide +kernel
theorem dX2_count_92 : decode cX2_count 92 = .ok (.ireturn, 1) := by decide +kernel
theorem dX2_count_93 : decode cX2_count 93 = .ok (.aload_n 0, 1) := by decide +kernel
theorem dX2_count_94 : decode cX2_count 94 = .ok (.getfield 130, 3) := by decide +kernel
theorem dX2_count_97 : decode cX2_count 97 = .ok (.ireturn, 1) := by decide +kernel
theorem dX2_count_98 : decode cX2_count 98 = .ok (.aload_n 0, 1) := by decide +kernel
theorem dX2_count_99 : decode cX2_count 99 = .ok (.getfield 133, 3) := by decide +kernel
theorem dX2_count_102 : decode cX2_count 102 = .ok (.ireturn, 1) := by decide +kernel
theorem dX2_count_103 : decode cX2_count 103 = .ok (.bipush (-2), 2) := by decide +kernel
theorem dX2_count_105 : decode cX2_count 105 = .ok (.ireturn, 1) := by decide +kernel
set_option maxRecDepth 20000 in
theorem ggX2_began_X2_isReader : GoodIn wsX2_began wsX2_isReader := goodIn_r _ [6, 7, 8, 9, 10, 11, 12, 13, 14, 15, 16, 17, 18, 19, 20, 21, 22, 23] (by decide +kernel) (by decide +kernel)
set_option maxRecDepth 20000 in
theorem gX2_began_X2_isReader : GoodIn wsX2_began (wsV RX2 77 RX2 yX2_isReader wsX2_isReader) := goodIn_app (goodIn_of _ (by decide +kernel)) ggX2_began_X2_isReader
theorem dX2_began_0 : decode cX2_began 0 = .ok (.aload_n 0, 1) := by decide +kernel
theorem dX2_began_1 : decode cX2_began 1 = .ok (.iload_n 1, 1) := by decide +kernel
theorem dX2_began_2 : decode cX2_began 2 = .ok (.invokevirtual 77, 3) := by decide +kernel
theorem dX2_began_5 : decode cX2_began 5 = .ok (.ifCond .eq 12, 3) := by decide +kernel
theorem dX2_began_8 : decode cX2_began 8 = .ok (.aload_n 0, 1) := by decide +kernel
theorem dX2_began_9 : decode cX2_began 9 = .ok (.getfield 23, 3) := by decide +kernel
theorem dX2_began_12 : decode cX2_began 12 = .ok (.iload_n 1, 1) := by decide +kernel
theorem dX2_began_13 : decode cX2_began 13 = .ok (.iaload, 1) := by decide +kernel
theorem dX2_began_14 : decode cX2_began 14 = .ok (.goto 5, 3) := by decide +kernel
theorem dX2_began_17 : decode cX2_began 17 = .ok (.bipush (-2), 2) := by decide +kernel
theorem dX2_began_19 : decode cX2_began 19 = .ok (.ireturn, 1) := by decide +kernel
theorem dX2_isReader_0 : decode cX2_isReader 0 = .ok (.iload_n 1, 1) := by decide +kernel
theorem dX2_isReader_1 : decode cX2_isReader 1 = .ok (.ifCond .lt 15, 3) := by decide +kernel
theorem dX2_isReader_4 : decode cX2_isReader 4 = .ok (.iload_n 1, 1) := by decide +kernel
theorem dX2_isReader_5 : decode cX2_isReader 5 = .ok (.aload_n 0, 1) := by decide +kernel
theorem dX2_isReader_6 : decode cX2_isReader 6 = .ok (.getfield 70, 3) := by decide +kernel
theorem dX2_isReader_9 : decode cX2_isReader 9 = .ok (.if_icmp .ge 7, 3) := by decide +kernel
theorem dX2_isReader_12 : decode cX2_isReader 12 = .ok (.iconst 1, 1) := by decide +kernel
theorem dX2_isReader_13 : decode cX2_isReader 13 = .ok (.goto 4, 3) := by decide +kernel
theorem dX2_isReader_16 : decode cX2_isReader 16 = .ok (.iconst 0, 1) := by decide +kernel
theorem dX2_isReader_17 : decode cX2_isReader 17 = .ok (.ireturn, 1) := by decide +kernel
theorem dX2_isName_0 : decode cX2_isName 0 = .ok (.iload_n 0, 1) := by decide +kernel
theorem dX2_isName_1 : decode cX2_isName 1 = .ok (.ifCond .lt 13, 3) := by decide +kernel
theorem dX2_isName_4 : decode cX2_isName 4 = .ok (.iload_n 0, 1) := by decide +kernel
theorem dX2_isName_5 : decode cX2_isName 5 = .ok (.bipush 10, 2) := by decide +kernel
theorem dX2_isName_7 : decode cX2_isName 7 = .ok (.if_icmp .ge 7, 3) := by decide +kernel
theorem dX2_isName_10 : decode cX2_isName 10 = .ok (.iconst 1, 1) := by decide +kernel
theorem dX2_isName_11 : decode cX2_isName 11 = .ok (.goto 4, 3) := by decide +kernel
theorem dX2_isName_14 : decode cX2_isName 14 = .ok (.iconst 0, 1) := by decide +kernel
theorem dX2_isName_15 : decode cX2_isName 15 = .ok (.ireturn, 1) := by decide +kernel
set_option maxRecDepth 20000 in
theorem ggX2_fitsFirst_X2_isReader : GoodIn wsX2_fitsFirst wsX2_isReader := goodIn_r _ [5, 6, 10, 11, 12, 13, 14, 15, 16, 17, 18, 19, 20, 21, 22, 23, 24, 25] (by decide +kernel) (by decide +kernel)
set_option maxRecDepth 20000 in
theorem gX2_fitsFirst_X2_isReader : GoodIn wsX2_fitsFirst (wsV RX2 77 RX2 yX2_isReader wsX2_isReader) := goodIn_app (goodIn_of _ (by decide +kernel)) ggX2_fitsFirst_X2_isReader
set_option maxRecDepth 20000 in
theorem ggX2_fitsFirst_X2_isName : GoodIn wsX2_fitsFirst wsX2_isName := goodIn_r _ [9] (by decide +kernel) (by decide +kernel)
set_option maxRecDepth 20000 in
theorem gX2_fitsFirst_X2_isName : GoodIn wsX2_fitsFirst (va_wsS RX2 73 yX2_isName wsX2_isName) := goodIn_app (goodIn_of _ (by decide +kernel)) ggX2_fitsFirst_X2_isName
theorem dX2_fitsFirst_0 : decode cX2_fitsFirst 0 = .ok (.iload_n 1, 1) := by decide +kernel
theorem dX2_fitsFirst_1 : decode cX2_fitsFirst 1 = .ok (.tableswitch 89 4 15 #[63, 63, 63, 63, 63, 63, 69, 63, 89, 89, 89, 74], 63) := by decide +kernel
theorem dX2_fitsFirst_64 : decode cX2_fitsFirst 64 = .ok (.aload_n 0, 1) := by decide +kernel
theorem dX2_fitsFirst_65 : decode cX2_fitsFirst 65 = .ok (.iload_n 2, 1) := by decide +kernel
theorem dX2_fitsFirst_66 : decode cX2_fitsFirst 66 = .ok (.invokevirtual 77, 3) := by decide +kernel
theorem dX2_fitsFirst_69 : decode cX2_fitsFirst 69 = .ok (.ireturn, 1) := by decide +kernel
theorem dX2_fitsFirst_70 : decode cX2_fitsFirst 70 = .ok (.iload_n 2, 1) := by decide +kernel
theorem dX2_fitsFirst_71 : decode cX2_fitsFirst 71 = .ok (.invokestatic 73, 3) := by decide +kernel
theorem dX2_fitsFirst_74 : decode cX2_fitsFirst 74 = .ok (.ireturn, 1) := by decide +kernel
theorem dX2_fitsFirst_75 : decode cX2_fitsFirst 75 = .ok (.iload_n 2, 1) := by decide +kernel
theorem dX2_fitsFirst_76 : decode cX2_fitsFirst 76 = .ok (.ifCond .lt 12, 3) := by decide +kernel
theorem dX2_fitsFirst_79 : decode cX2_fitsFirst 79 = .ok (.iload_n 2, 1) := by decide +kernel
theorem dX2_fitsFirst_80 : decode cX2_fitsFirst 80 = .ok (.iconst 3, 1) := by decide +kernel
theorem dX2_fitsFirst_81 : decode cX2_fitsFirst 81 = .ok (.if_icmp .gt 7, 3) := by decide +kernel
theorem dX2_fitsFirst_84 : decode cX2_fitsFirst 84 = .ok (.iconst 1, 1) := by decide +kernel
theorem dX2_fitsFirst_85 : decode cX2_fitsFirst 85 = .ok (.goto 4, 3) := by decide +kernel
theorem dX2_fitsFirst_88 : decode cX2_fitsFirst 88 = .ok (.iconst 0, 1) := by decide +kernel
theorem dX2_fitsFirst_89 : decode cX2_fitsFirst 89 = .ok (.ireturn, 1) := by decide +kernel
theorem dX2_fitsFirst_90 : decode cX2_fitsFirst 90 = .ok (.iconst 1, 1) := by decide +kernel
theorem dX2_fitsFirst_91 : decode cX2_fitsFirst 91 = .ok (.ireturn, 1) := by decide +kernel
set_option maxRecDepth 20000 in
theorem ggX2_fitsSecond_X2_isReader : GoodIn wsX2_fitsSecond wsX2_isReader := goodIn_r _ [5, 6, 7, 8, 9, 10, 11, 12, 13, 14, 15, 16, 17, 18, 19, 20, 21, 22] (by decide +kernel) (by decide +kernel)
set_option maxRecDepth 20000 in
theorem gX2_fitsSecond_X2_isReader : GoodIn wsX2_fitsSecond (wsV RX2 77 RX2 yX2_isReader wsX2_isReader) := goodIn_app (goodIn_of _ (by decide +kernel)) ggX2_fitsSecond_X2_isReader
theorem dX2_fitsSecond_0 : decode cX2_fitsSecond 0 = .ok (.iload_n 1, 1) := by decide +kernel
theorem dX2_fitsSecond_1 : decode cX2_fitsSecond 1 = .ok (.iconst 4, 1) := by decide +kernel
theorem dX2_fitsSecond_2 : decode cX2_fitsSecond 2 = .ok (.if_icmp .eq 8, 3) := by decide +kernel
theorem dX2_fitsSecond_5 : decode cX2_fitsSecond 5 = .ok (.iload_n 1, 1) := by decide +kernel
end
section
theorem dX2_fitsSecond_6 : decode cX2_fitsSecond 6 = .ok (.iconst 5, 1) := by decide +kernel
theorem dX2_fitsSecond_7 : decode cX2_fitsSecond 7 = .ok (.if_icmp .ne 11, 3) := by decide +kernel
theorem dX2_fitsSecond_10 : decode cX2_fitsSecond 10 = .ok (.aload_n 0, 1) := by decide +kernel
theorem dX2_fitsSecond_11 : decode cX2_fitsSecond 11 = .ok (.iload_n 2, 1) := by decide +kernel
theorem dX2_fitsSecond_12 : decode cX2_fitsSecond 12 = .ok (.invokevirtual 77, 3) := by decide +kernel
theorem dX2_fitsSecond_15 : decode cX2_fitsSecond 15 = .ok (.ifCond .eq 7, 3) := by decide +kernel
theorem dX2_fitsSecond_18 : decode cX2_fitsSecond 18 = .ok (.iconst 1, 1) := by decide +kernel
theorem dX2_fitsSecond_19 : decode cX2_fitsSecond 19 = .ok (.goto 4, 3) := by decide +kernel
theorem dX2_fitsSecond_22 : decode cX2_fitsSecond 22 = .ok (.iconst 0, 1) := by decide +kernel
theorem dX2_fitsSecond_23 : decode cX2_fitsSecond 23 = .ok (.ireturn, 1) := by decide +kernel
theorem dX2_addReader_0 : decode cX2_addReader 0 = .ok (.aload_n 0, 1) := by decide +kernel
theorem dX2_addReader_1 : decode cX2_addReader 1 = .ok (.getfield 70, 3) := by decide +kernel
theorem dX2_addReader_4 : decode cX2_addReader 4 = .ok (.istore 4, 2) := by decide +kernel
theorem dX2_addReader_6 : decode cX2_addReader 6 = .ok (.aload_n 0, 1) := by decide +kernel
theorem dX2_addReader_7 : decode cX2_addReader 7 = .ok (.getfield 13, 3) := by decide +kernel
theorem dX2_addReader_10 : decode cX2_addReader 10 = .ok (.iload 4, 2) := by decide +kernel
theorem dX2_addReader_12 : decode cX2_addReader 12 = .ok (.iload_n 1, 1) := by decide +kernel
theorem dX2_addReader_13 : decode cX2_addReader 13 = .ok (.iastore, 1) := by decide +kernel
theorem dX2_addReader_14 : decode cX2_addReader 14 = .ok (.aload_n 0, 1) := by decide +kernel
theorem dX2_addReader_15 : decode cX2_addReader 15 = .ok (.getfield 17, 3) := by decide +kernel
theorem dX2_addReader_18 : decode cX2_addReader 18 = .ok (.iload 4, 2) := by decide +kernel
theorem dX2_addReader_20 : decode cX2_addReader 20 = .ok (.iload_n 2, 1) := by decide +kernel
theorem dX2_addReader_21 : decode cX2_addReader 21 = .ok (.iastore, 1) := by decide +kernel
theorem dX2_addReader_22 : decode cX2_addReader 22 = .ok (.aload_n 0, 1) := by decide +kernel
theorem dX2_addReader_23 : decode cX2_addReader 23 = .ok (.getfield 20, 3) := by decide +kernel
theorem dX2_addReader_26 : decode cX2_addReader 26 = .ok (.iload 4, 2) := by decide +kernel
theorem dX2_addReader_28 : decode cX2_addReader 28 = .ok (.iload_n 3, 1) := by decide +kernel
theorem dX2_addReader_29 : decode cX2_addReader 29 = .ok (.iastore, 1) := by decide +kernel
theorem dX2_addReader_30 : decode cX2_addReader 30 = .ok (.aload_n 0, 1) := by decide +kernel
theorem dX2_addReader_31 : decode cX2_addReader 31 = .ok (.dup, 1) := by decide +kernel
theorem dX2_addReader_32 : decode cX2_addReader 32 = .ok (.getfield 70, 3) := by decide +kernel
theorem dX2_addReader_35 : decode cX2_addReader 35 = .ok (.iconst 1, 1) := by decide +kernel
theorem dX2_addReader_36 : decode cX2_addReader 36 = .ok (.iadd, 1) := by decide +kernel
theorem dX2_addReader_37 : decode cX2_addReader 37 = .ok (.putfield 70, 3) := by decide +kernel
theorem dX2_addReader_40 : decode cX2_addReader 40 = .ok (.iload 4, 2) := by decide +kernel
theorem dX2_addReader_42 : decode cX2_addReader 42 = .ok (.ireturn, 1) := by decide +kernel
set_option maxRecDepth 20000 in
theorem ggX2_startCall_X1_makeEmpty : GoodIn wsX2_startCall wsX1_makeEmpty := goodIn_r _ [10, 11, 12, 33, 34, 35, 36, 37] (by decide +kernel) (by decide +kernel)
set_option maxRecDepth 20000 in
theorem gX2_startCall_X1_makeEmpty : GoodIn wsX2_startCall (wsV RX2 136 RX1 yX1_makeEmpty wsX1_makeEmpty) := goodIn_app (goodIn_of _ (by decide +kernel)) ggX2_startCall_X1_makeEmpty
theorem dX2_startCall_0 : decode cX2_startCall 0 = .ok (.aload_n 0, 1) := by decide +kernel
theorem dX2_startCall_1 : decode cX2_startCall 1 = .ok (.getfield 36, 3) := by decide +kernel
theorem dX2_startCall_4 : decode cX2_startCall 4 = .ok (.invokevirtual 136, 3) := by decide +kernel
theorem dX2_startCall_7 : decode cX2_startCall 7 = .ok (.aload_n 0, 1) := by decide +kernel
theorem dX2_startCall_8 : decode cX2_startCall 8 = .ok (.getfield 43, 3) := by decide +kernel
theorem dX2_startCall_11 : decode cX2_startCall 11 = .ok (.iconst 0, 1) := by decide +kernel
theorem dX2_startCall_12 : decode cX2_startCall 12 = .ok (.putfield 97, 3) := by decide +kernel
theorem dX2_startCall_15 : decode cX2_startCall 15 = .ok (.aload_n 0, 1) := by decide +kernel
theorem dX2_startCall_16 : decode cX2_startCall 16 = .ok (.iconst 0, 1) := by decide +kernel
theorem dX2_startCall_17 : decode cX2_startCall 17 = .ok (.putfield 121, 3) := by decide +kernel
theorem dX2_startCall_20 : decode cX2_startCall 20 = .ok (.aload_n 0, 1) := by decide +kernel
theorem dX2_startCall_21 : decode cX2_startCall 21 = .ok (.iconst 0, 1) := by decide +kernel
theorem dX2_startCall_22 : decode cX2_startCall 22 = .ok (.putfield 124, 3) := by decide +kernel
theorem dX2_startCall_25 : decode cX2_startCall 25 = .ok (.return_, 1) := by decide +kernel
theorem dX2_faultAnswer_0 : decode cX2_faultAnswer 0 = .ok (.bipush (-10), 2) := by decide +kernel
theorem dX2_faultAnswer_2 : decode cX2_faultAnswer 2 = .ok (.iload_n 0, 1) := by decide +kernel
theorem dX2_faultAnswer_3 : decode cX2_faultAnswer 3 = .ok (.isub, 1) := by decide +kernel
theorem dX2_faultAnswer_4 : decode cX2_faultAnswer 4 = .ok (.ireturn, 1) := by decide +kernel
theorem dX2_isFault_0 : decode cX2_isFault 0 = .ok (.iload_n 0, 1) := by decide +kernel
theorem dX2_isFault_1 : decode cX2_isFault 1 = .ok (.bipush (-10), 2) := by decide +kernel
theorem dX2_isFault_3 : decode cX2_isFault 3 = .ok (.if_icmp .ge 7, 3) := by decide +kernel
theorem dX2_isFault_6 : decode cX2_isFault 6 = .ok (.iconst 1, 1) := by decide +kernel
theorem dX2_isFault_7 : decode cX2_isFault 7 = .ok (.goto 4, 3) := by decide +kernel
theorem dX2_isFault_10 : decode cX2_isFault 10 = .ok (.iconst 0, 1) := by decide +kernel
theorem dX2_isFault_11 : decode cX2_isFault 11 = .ok (.ireturn, 1) := by decide +kernel
theorem dX2_noteFault_0 : decode cX2_noteFault 0 = .ok (.aload_n 0, 1) := by decide +kernel
theorem dX2_noteFault_1 : decode cX2_noteFault 1 = .ok (.dup, 1) := by decide +kernel
theorem dX2_noteFault_2 : decode cX2_noteFault 2 = .ok (.getfield 130, 3) := by decide +kernel
theorem dX2_noteFault_5 : decode cX2_noteFault 5 = .ok (.iconst 1, 1) := by decide +kernel
theorem dX2_noteFault_6 : decode cX2_noteFault 6 = .ok (.iadd, 1) := by decide +kernel
theorem dX2_noteFault_7 : decode cX2_noteFault 7 = .ok (.putfield 130, 3) := by decide +kernel
theorem dX2_noteFault_10 : decode cX2_noteFault 10 = .ok (.aload_n 0, 1) := by decide +kernel
theorem dX2_noteFault_11 : decode cX2_noteFault 11 = .ok (.bipush (-10), 2) := by decide +kernel
theorem dX2_noteFault_13 : decode cX2_noteFault 13 = .ok (.iload_n 1, 1) := by decide +kernel
theorem dX2_noteFault_14 : decode cX2_noteFault 14 = .ok (.isub, 1) := by decide +kernel
theorem dX2_noteFault_15 : decode cX2_noteFault 15 = .ok (.putfield 133, 3) := by decide +kernel
theorem dX2_noteFault_18 : decode cX2_noteFault 18 = .ok (.return_, 1) := by decide +kernel
theorem dX2_takeBack_0 : decode cX2_takeBack 0 = .ok (.aload_n 0, 1) := by decide +kernel
theorem dX2_takeBack_1 : decode cX2_takeBack 1 = .ok (.getfield 36, 3) := by decide +kernel
theorem dX2_takeBack_4 : decode cX2_takeBack 4 = .ok (.iload_n 1, 1) := by decide +kernel
theorem dX2_takeBack_5 : decode cX2_takeBack 5 = .ok (.putfield 94, 3) := by decide +kernel
theorem dX2_takeBack_8 : decode cX2_takeBack 8 = .ok (.aload_n 0, 1) := by decide +kernel
theorem dX2_takeBack_9 : decode cX2_takeBack 9 = .ok (.getfield 43, 3) := by decide +kernel
theorem dX2_takeBack_12 : decode cX2_takeBack 12 = .ok (.iload_n 2, 1) := by decide +kernel
theorem dX2_takeBack_13 : decode cX2_takeBack 13 = .ok (.putfield 97, 3) := by decide +kernel
theorem dX2_takeBack_16 : decode cX2_takeBack 16 = .ok (.return_, 1) := by decide +kernel
set_option maxRecDepth 20000 in
theorem ggX2_follow_X2_begin : GoodIn wsX2_follow wsX2_begin := goodIn_r _ [14, 15, 16, 17, 18, 19, 20, 21, 22, 23, 24, 13, 25, 95, 96, 97, 98, 99, 100, 101, 102, 103, 104, 105, 106, 107, 108, 109, 110] (by decide +kernel) (by decide +kernel)
set_option maxRecDepth 20000 in
theorem gX2_follow_X2_begin : GoodIn wsX2_follow (wsV RX2 139 RX2 yX2_begin wsX2_begin) := goodIn_app (goodIn_of _ (by decide +kernel)) ggX2_follow_X2_begin
set_option maxRecDepth 20000 in
theorem ggX2_follow_X2_follow : GoodIn wsX2_follow wsX2_follow := goodIn_r _ [0, 1, 2, 3, 4, 5, 6, 7, 8, 9, 10, 11, 12, 13, 14, 15, 16, 17, 18, 19, 20, 21, 22, 23, 24, 25, 26, 27, 28, 29, 30, 31, 32, 33, 34, 35, 36, 37, 38, 39, 40, 41, 42, 43, 44, 45, 46, 47, 48, 49, 50, 51, 52, 53, 54, 55, 56, 57, 58, 59, 60, 61, 62, 63, 64, 65, 66, 67, 68, 69, 70, 71, 72, 73, 74, 75, 76, 77, 78, 79, 80, 81, 82, 83, 84, 85, 86, 87, 88, 89, 90, 91, 92, 93, 94, 95, 96, 97, 98, 99, 100, 101, 102, 103, 104, 105, 106, 107, 108, 109, 110, 111, 112, 113, 114, 115, 116, 117, 118, 119] (by decide +kernel) (by decide +kernel)
set_option maxRecDepth 20000 in
theorem gX2_follow_X2_follow : GoodIn wsX2_follow (wsV RX2 83 RX2 yX2_follow wsX2_follow) := goodIn_app (goodIn_of _ (by decide +kernel)) ggX2_follow_X2_follow
set_option maxRecDepth 20000 in
theorem ggX2_follow_X2_isFault : GoodIn wsX2_follow wsX2_isFault := goodIn_r _ [31] (by decide +kernel) (by decide +kernel)
set_option maxRecDepth 20000 in
theorem gX2_follow_X2_isFault : GoodIn wsX2_follow (va_wsS RX2 87 yX2_isFault wsX2_isFault) := goodIn_app (goodIn_of _ (by decide +kernel)) ggX2_follow_X2_isFault
set_option maxRecDepth 20000 in
theorem ggX2_follow_X2_takeBack : GoodIn wsX2_follow wsX2_takeBack := goodIn_r _ [35, 1, 2, 3, 4, 95, 96, 97, 98, 99, 100, 101, 102, 103, 104, 105, 106, 107, 108, 109, 110, 111, 112, 113, 114, 115, 116, 117, 118, 119] (by decide +kernel) (by decide +kernel)
set_option maxRecDepth 20000 in
theorem gX2_follow_X2_takeBack : GoodIn wsX2_follow (wsV RX2 100 RX2 yX2_takeBack wsX2_takeBack) := goodIn_app (goodIn_of _ (by decide +kernel)) ggX2_follow_X2_takeBack
set_option maxRecDepth 20000 in
theorem ggX2_follow_X2_faultAnswer : GoodIn wsX2_follow wsX2_faultAnswer := goodIn_r _ [25] (by decide +kernel) (by decide +kernel)
set_option maxRecDepth 20000 in
theorem gX2_follow_X2_faultAnswer : GoodIn wsX2_follow (va_wsS RX2 143 yX2_faultAnswer wsX2_faultAnswer) := goodIn_app (goodIn_of _ (by decide +kernel)) ggX2_follow_X2_faultAnswer
set_option maxRecDepth 20000 in
theorem ggX2_follow_X2_turn : GoodIn wsX2_follow wsX2_turn := goodIn_r _ [39, 6, 3, 7, 29, 30, 13, 31, 32, 33, 34, 35, 1, 2, 4, 40, 41, 42, 43, 44, 45, 46, 47, 48, 95, 96, 97, 98, 99, 100, 101, 102, 103, 104, 105, 106, 107, 108, 109, 110, 111, 112, 113, 114, 115, 116, 117, 118, 119] (by decide +kernel) (by decide +kernel)
set_option maxRecDepth 20000 in
theorem gX2_follow_X2_turn : GoodIn wsX2_follow (wsV RX2 147 RX2 yX2_turn wsX2_turn) := goodIn_app (goodIn_of _ (by decide +kernel)) ggX2_follow_X2_turn
set_option maxRecDepth 20000 in
theorem ggX2_follow_X2_readAlone : GoodIn wsX2_follow wsX2_readAlone := goodIn_r _ [52, 5, 6, 7, 53, 8, 1, 54, 55, 56, 13, 57, 58, 59, 60, 61, 62, 63, 64, 65, 66, 67, 68, 69, 70, 71, 72, 73, 74, 75, 76, 77, 78, 79, 80, 81, 82, 23, 24, 25, 83, 84, 85, 86, 87, 88, 89, 90, 91, 92, 93, 94, 95, 96, 97, 98, 99, 100, 101, 102, 103, 104, 105, 106, 107, 108, 109, 110, 111, 112, 113, 114, 115] (by decide +kernel) (by decide +kernel)
set_option maxRecDepth 20000 in
theorem gX2_follow_X2_readAlone : GoodIn wsX2_follow (wsV RX2 151 RX2 yX2_readAlone wsX2_readAlone) := goodIn_app (goodIn_of _ (by decide +kernel)) ggX2_follow_X2_readAlone
theorem dX2_follow_0 : decode cX2_follow 0 = .ok (.aload_n 0, 1) := by decide +kernel
theorem dX2_follow_1 : decode cX2_follow 1 = .ok (.iload_n 1, 1) := by decide +kernel
theorem dX2_follow_2 : decode cX2_follow 2 = .ok (.iload_n 3, 1) := by decide +kernel
theorem dX2_follow_3 : decode cX2_follow 3 = .ok (.invokevirtual 139, 3) := by decide +kernel
theorem dX2_follow_6 : decode cX2_follow 6 = .ok (.istore 5, 2) := by decide +kernel
theorem dX2_follow_8 : decode cX2_follow 8 = .ok (.iload 5, 2) := by decide +kernel
theorem dX2_follow_10 : decode cX2_follow 10 = .ok (.ifCond .eq 6, 3) := by decide +kernel
theorem dX2_follow_13 : decode cX2_follow 13 = .ok (.iload 5, 2) := by decide +kernel
theorem dX2_follow_15 : decode cX2_follow 15 = .ok (.ireturn, 1) := by decide +kernel
theorem dX2_follow_16 : decode cX2_follow 16 = .ok (.aload_n 0, 1) := by decide +kernel
theorem dX2_follow_17 : decode cX2_follow 17 = .ok (.getfield 36, 3) := by decide +kernel
theorem dX2_follow_20 : decode cX2_follow 20 = .ok (.getfield 94, 3) := by decide +kernel
theorem dX2_follow_23 : decode cX2_follow 23 = .ok (.istore 6, 2) := by decide +kernel
theorem dX2_follow_25 : decode cX2_follow 25 = .ok (.aload_n 0, 1) := by decide +kernel
theorem dX2_follow_26 : decode cX2_follow 26 = .ok (.getfield 43, 3) := by decide +kernel
theorem dX2_follow_29 : decode cX2_follow 29 = .ok (.getfield 97, 3) := by decide +kernel
theorem dX2_follow_32 : decode cX2_follow 32 = .ok (.istore 7, 2) := by decide +kernel
theorem dX2_follow_34 : decode cX2_follow 34 = .ok (.aload_n 0, 1) := by decide +kernel
theorem dX2_follow_35 : decode cX2_follow 35 = .ok (.getfield 17, 3) := by decide +kernel
theorem dX2_follow_38 : decode cX2_follow 38 = .ok (.iload_n 1, 1) := by decide +kernel
theorem dX2_follow_39 : decode cX2_follow 39 = .ok (.iaload, 1) := by decide +kernel
theorem dX2_follow_40 : decode cX2_follow 40 = .ok (.istore 8, 2) := by decide +kernel
theorem dX2_follow_42 : decode cX2_follow 42 = .ok (.aload_n 0, 1) := by decide +kernel
theorem dX2_follow_43 : decode cX2_follow 43 = .ok (.getfield 13, 3) := by decide +kernel
theorem dX2_follow_46 : decode cX2_follow 46 = .ok (.iload_n 1, 1) := by decide +kernel
theorem dX2_follow_47 : decode cX2_follow 47 = .ok (.iaload, 1) := by decide +kernel
theorem dX2_follow_48 : decode cX2_follow 48 = .ok (.tableswitch 305 4 11 #[48, 89, 145, 274, 274, 274, 234, 274], 48) := by decide +kernel
theorem dX2_follow_96 : decode cX2_follow 96 = .ok (.aload_n 0, 1) := by decide +kernel
theorem dX2_follow_97 : decode cX2_follow 97 = .ok (.iload 8, 2) := by decide +kernel
theorem dX2_follow_99 : decode cX2_follow 99 = .ok (.iload_n 2, 1) := by decide +kernel
theorem dX2_follow_100 : decode cX2_follow 100 = .ok (.iload_n 3, 1) := by decide +kernel
theorem dX2_follow_101 : decode cX2_follow 101 = .ok (.iconst 1, 1) := by decide +kernel
theorem dX2_follow_102 : decode cX2_follow 102 = .ok (.iadd, 1) := by decide +kernel
theorem dX2_follow_103 : decode cX2_follow 103 = .ok (.iload 4, 2) := by decide +kernel
theorem dX2_follow_105 : decode cX2_follow 105 = .ok (.invokevirtual 83, 3) := by decide +kernel
theorem dX2_follow_108 : decode cX2_follow 108 = .ok (.istore 9, 2) := by decide +kernel
theorem dX2_follow_110 : decode cX2_follow 110 = .ok (.iload 9, 2) := by decide +kernel
theorem dX2_follow_112 : decode cX2_follow 112 = .ok (.ifCond .lt 251, 3) := by decide +kernel
theorem dX2_follow_115 : decode cX2_follow 115 = .ok (.aload_n 0, 1) := by decide +kernel
theorem dX2_follow_116 : decode cX2_follow 116 = .ok (.aload_n 0, 1) := by decide +kernel
theorem dX2_follow_117 : decode cX2_follow 117 = .ok (.getfield 20, 3) := by decide +kernel
theorem dX2_follow_120 : decode cX2_follow 120 = .ok (.iload_n 1, 1) := by decide +kernel
theorem dX2_follow_121 : decode cX2_follow 121 = .ok (.iaload, 1) := by decide +kernel
theorem dX2_follow_122 : decode cX2_follow 122 = .ok (.iload 9, 2) := by decide +kernel
theorem dX2_follow_124 : decode cX2_follow 124 = .ok (.iload_n 3, 1) := by decide +kernel
theorem dX2_follow_125 : decode cX2_follow 125 = .ok (.iconst 1, 1) := by decide +kernel
theorem dX2_follow_126 : decode cX2_follow 126 = .ok (.iadd, 1) := by decide +kernel
theorem dX2_follow_127 : decode cX2_follow 127 = .ok (.iload 4, 2) := by decide +kernel
theorem dX2_follow_129 : decode cX2_follow 129 = .ok (.invokevirtual 83, 3) := by decide +kernel
theorem dX2_follow_132 : decode cX2_follow 132 = .ok (.istore 9, 2) := by decide +kernel
theorem dX2_follow_134 : decode cX2_follow 134 = .ok (.goto 229, 3) := by decide +kernel
theorem dX2_follow_137 : decode cX2_follow 137 = .ok (.aload_n 0, 1) := by decide +kernel
theorem dX2_follow_138 : decode cX2_follow 138 = .ok (.getfield 29, 3) := by decide +kernel
theorem dX2_follow_141 : decode cX2_follow 141 = .ok (.iload_n 3, 1) := by decide +kernel
theorem dX2_follow_142 : decode cX2_follow 142 = .ok (.iconst 0, 1) := by decide +kernel
theorem dX2_follow_143 : decode cX2_follow 143 = .ok (.bastore, 1) := by decide +kernel
theorem dX2_follow_144 : decode cX2_follow 144 = .ok (.aload_n 0, 1) := by decide +kernel
theorem dX2_follow_145 : decode cX2_follow 145 = .ok (.iload 8, 2) := by decide +kernel
theorem dX2_follow_147 : decode cX2_follow 147 = .ok (.iload_n 2, 1) := by decide +kernel
theorem dX2_follow_148 : decode cX2_follow 148 = .ok (.iload_n 3, 1) := by decide +kernel
theorem dX2_follow_149 : decode cX2_follow 149 = .ok (.iconst 1, 1) := by decide +kernel
theorem dX2_follow_150 : decode cX2_follow 150 = .ok (.iadd, 1) := by decide +kernel
theorem dX2_follow_151 : decode cX2_follow 151 = .ok (.iload_n 3, 1) := by decide +kernel
theorem dX2_follow_152 : decode cX2_follow 152 = .ok (.invokevirtual 83, 3) := by decide +kernel
theorem dX2_follow_155 : decode cX2_follow 155 = .ok (.istore 9, 2) := by decide +kernel
theorem dX2_follow_157 : decode cX2_follow 157 = .ok (.iload 9, 2) := by decide +kernel
theorem dX2_follow_159 : decode cX2_follow 159 = .ok (.iconst (-1), 1) := by decide +kernel
theorem dX2_follow_160 : decode cX2_follow 160 = .ok (.if_icmp .ne 203, 3) := by decide +kernel
theorem dX2_follow_163 : decode cX2_follow 163 = .ok (.aload_n 0, 1) := by decide +kernel
theorem dX2_follow_164 : decode cX2_follow 164 = .ok (.getfield 29, 3) := by decide +kernel
theorem dX2_follow_167 : decode cX2_follow 167 = .ok (.iload_n 3, 1) := by decide +kernel
theorem dX2_follow_168 : decode cX2_follow 168 = .ok (.baload, 1) := by decide +kernel
theorem dX2_follow_169 : decode cX2_follow 169 = .ok (.ifCond .ne 194, 3) := by decide +kernel
theorem dX2_follow_172 : decode cX2_follow 172 = .ok (.aload_n 0, 1) := by decide +kernel
theorem dX2_follow_173 : decode cX2_follow 173 = .ok (.aload_n 0, 1) := by decide +kernel
theorem dX2_follow_174 : decode cX2_follow 174 = .ok (.getfield 20, 3) := by decide +kernel
theorem dX2_follow_177 : decode cX2_follow 177 = .ok (.iload_n 1, 1) := by decide +kernel
theorem dX2_follow_178 : decode cX2_follow 178 = .ok (.iaload, 1) := by decide +kernel
theorem dX2_follow_179 : decode cX2_follow 179 = .ok (.iload_n 2, 1) := by decide +kernel
theorem dX2_follow_180 : decode cX2_follow 180 = .ok (.iload_n 3, 1) := by decide +kernel
theorem dX2_follow_181 : decode cX2_follow 181 = .ok (.iconst 1, 1) := by decide +kernel
theorem dX2_follow_182 : decode cX2_follow 182 = .ok (.iadd, 1) := by decide +kernel
theorem dX2_follow_183 : decode cX2_follow 183 = .ok (.iload 4, 2) := by decide +kernel
theorem dX2_follow_185 : decode cX2_follow 185 = .ok (.invokevirtual 83, 3) := by decide +kernel
theorem dX2_follow_188 : decode cX2_follow 188 = .ok (.istore 9, 2) := by decide +kernel
theorem dX2_follow_190 : decode cX2_follow 190 = .ok (.goto 173, 3) := by decide +kernel
theorem dX2_follow_193 : decode cX2_follow 193 = .ok (.iload_n 2, 1) := by decide +kernel
theorem dX2_follow_194 : decode cX2_follow 194 = .ok (.istore 9, 2) := by decide +kernel
theorem dX2_follow_196 : decode cX2_follow 196 = .ok (.iconst 0, 1) := by decide +kernel
theorem dX2_follow_197 : decode cX2_follow 197 = .ok (.istore 10, 2) := by decide +kernel
theorem dX2_follow_199 : decode cX2_follow 199 = .ok (.iload 10, 2) := by decide +kernel
theorem dX2_follow_201 : decode cX2_follow 201 = .ok (.sipush 200, 3) := by decide +kernel
theorem dX2_follow_204 : decode cX2_follow 204 = .ok (.if_icmp .gt 75, 3) := by decide +kernel
theorem dX2_follow_207 : decode cX2_follow 207 = .ok (.aload_n 0, 1) := by decide +kernel
theorem dX2_follow_208 : decode cX2_follow 208 = .ok (.getfield 36, 3) := by decide +kernel
theorem dX2_follow_211 : decode cX2_follow 211 = .ok (.getfield 94, 3) := by decide +kernel
theorem dX2_follow_214 : decode cX2_follow 214 = .ok (.istore 6, 2) := by decide +kernel
theorem dX2_follow_216 : decode cX2_follow 216 = .ok (.aload_n 0, 1) := by decide +kernel
theorem dX2_follow_217 : decode cX2_follow 217 = .ok (.getfield 43, 3) := by decide +kernel
theorem dX2_follow_220 : decode cX2_follow 220 = .ok (.getfield 97, 3) := by decide +kernel
theorem dX2_follow_223 : decode cX2_follow 223 = .ok (.istore 7, 2) := by decide +kernel
theorem dX2_follow_225 : decode cX2_follow 225 = .ok (.aload_n 0, 1) := by decide +kernel
theorem dX2_follow_226 : decode cX2_follow 226 = .ok (.iload 8, 2) := by decide +kernel
theorem dX2_follow_228 : decode cX2_follow 228 = .ok (.iload 9, 2) := by decide +kernel
theorem dX2_follow_230 : decode cX2_follow 230 = .ok (.iload_n 3, 1) := by decide +kernel
theorem dX2_follow_231 : decode cX2_follow 231 = .ok (.iconst 1, 1) := by decide +kernel
theorem dX2_follow_232 : decode cX2_follow 232 = .ok (.iadd, 1) := by decide +kernel
theorem dX2_follow_233 : decode cX2_follow 233 = .ok (.iload 4, 2) := by decide +kernel
theorem dX2_follow_235 : decode cX2_follow 235 = .ok (.invokevirtual 83, 3) := by decide +kernel
theorem dX2_follow_238 : decode cX2_follow 238 = .ok (.istore 11, 2) := by decide +kernel
theorem dX2_follow_240 : decode cX2_follow 240 = .ok (.iload 11, 2) := by decide +kernel
theorem dX2_follow_242 : decode cX2_follow 242 = .ok (.invokestatic 87, 3) := by decide +kernel
theorem dX2_follow_245 : decode cX2_follow 245 = .ok (.ifCond .eq 6, 3) := by decide +kernel
theorem dX2_follow_248 : decode cX2_follow 248 = .ok (.iload 11, 2) := by decide +kernel
theorem dX2_follow_250 : decode cX2_follow 250 = .ok (.ireturn, 1) := by decide +kernel
theorem dX2_follow_251 : decode cX2_follow 251 = .ok (.iload 11, 2) := by decide +kernel
theorem dX2_follow_253 : decode cX2_follow 253 = .ok (.iload 9, 2) := by decide +kernel
theorem dX2_follow_255 : decode cX2_follow 255 = .ok (.if_icmp .gt 14, 3) := by decide +kernel
theorem dX2_follow_258 : decode cX2_follow 258 = .ok (.aload_n 0, 1) := by decide +kernel
theorem dX2_follow_259 : decode cX2_follow 259 = .ok (.iload 6, 2) := by decide +kernel
theorem dX2_follow_261 : decode cX2_follow 261 = .ok (.iload 7, 2) := by decide +kernel
theorem dX2_follow_263 : decode cX2_follow 263 = .ok (.invokevirtual 100, 3) := by decide +kernel
theorem dX2_follow_266 : decode cX2_follow 266 = .ok (.goto 13, 3) := by decide +kernel
theorem dX2_follow_269 : decode cX2_follow 269 = .ok (.iload 11, 2) := by decide +kernel
theorem dX2_follow_271 : decode cX2_follow 271 = .ok (.istore 9, 2) := by decide +kernel
theorem dX2_follow_273 : decode cX2_follow 273 = .ok (.iinc 10 1, 3) := by decide +kernel
theorem dX2_follow_276 : decode cX2_follow 276 = .ok (.goto (-77), 3) := by decide +kernel
theorem dX2_follow_279 : decode cX2_follow 279 = .ok (.goto 84, 3) := by decide +kernel
theorem dX2_follow_282 : decode cX2_follow 282 = .ok (.aload_n 0, 1) := by decide +kernel
theorem dX2_follow_283 : decode cX2_follow 283 = .ok (.getfield 26, 3) := by decide +kernel
theorem dX2_follow_286 : decode cX2_follow 286 = .ok (.iload 8, 2) := by decide +kernel
theorem dX2_follow_288 : decode cX2_follow 288 = .ok (.iaload, 1) := by decide +kernel
theorem dX2_follow_289 : decode cX2_follow 289 = .ok (.iconst (-1), 1) := by decide +kernel
theorem dX2_follow_290 : decode cX2_follow 290 = .ok (.if_icmp .ne 10, 3) := by decide +kernel
theorem dX2_follow_293 : decode cX2_follow 293 = .ok (.iconst 1, 1) := by decide +kernel
theorem dX2_follow_294 : decode cX2_follow 294 = .ok (.invokestatic 143, 3) := by decide +kernel
theorem dX2_follow_297 : decode cX2_follow 297 = .ok (.goto 20, 3) := by decide +kernel
theorem dX2_follow_300 : decode cX2_follow 300 = .ok (.aload_n 0, 1) := by decide +kernel
theorem dX2_follow_301 : decode cX2_follow 301 = .ok (.aload_n 0, 1) := by decide +kernel
theorem dX2_follow_302 : decode cX2_follow 302 = .ok (.getfield 26, 3) := by decide +kernel
theorem dX2_follow_305 : decode cX2_follow 305 = .ok (.iload 8, 2) := by decide +kernel
theorem dX2_follow_307 : decode cX2_follow 307 = .ok (.iaload, 1) := by decide +kernel
theorem dX2_follow_308 : decode cX2_follow 308 = .ok (.iload_n 2, 1) := by decide +kernel
theorem dX2_follow_309 : decode cX2_follow 309 = .ok (.iload_n 3, 1) := by decide +kernel
theorem dX2_follow_310 : decode cX2_follow 310 = .ok (.iconst 1, 1) := by decide +kernel
theorem dX2_follow_311 : decode cX2_follow 311 = .ok (.iadd, 1) := by decide +kernel
theorem dX2_follow_312 : decode cX2_follow 312 = .ok (.iload 4, 2) := by decide +kernel
theorem dX2_follow_314 : decode cX2_follow 314 = .ok (.invokevirtual 83, 3) := by decide +kernel
theorem dX2_follow_317 : decode cX2_follow 317 = .ok (.istore 9, 2) := by decide +kernel
theorem dX2_follow_319 : decode cX2_follow 319 = .ok (.goto 44, 3) := by decide +kernel
theorem dX2_follow_322 : decode cX2_follow 322 = .ok (.aload_n 0, 1) := by decide +kernel
theorem dX2_follow_323 : decode cX2_follow 323 = .ok (.iload 8, 2) := by decide +kernel
theorem dX2_follow_325 : decode cX2_follow 325 = .ok (.iload_n 2, 1) := by decide +kernel
theorem dX2_follow_326 : decode cX2_follow 326 = .ok (.iload_n 3, 1) := by decide +kernel
theorem dX2_follow_327 : decode cX2_follow 327 = .ok (.iconst 1, 1) := by decide +kernel
theorem dX2_follow_328 : decode cX2_follow 328 = .ok (.iadd, 1) := by decide +kernel
theorem dX2_follow_329 : decode cX2_follow 329 = .ok (.iload 4, 2) := by decide +kernel
theorem dX2_follow_331 : decode cX2_follow 331 = .ok (.invokevirtual 83, 3) := by decide +kernel
theorem dX2_follow_334 : decode cX2_follow 334 = .ok (.istore 9, 2) := by decide +kernel
theorem dX2_follow_336 : decode cX2_follow 336 = .ok (.aload_n 0, 1) := by decide +kernel
theorem dX2_follow_337 : decode cX2_follow 337 = .ok (.iload_n 1, 1) := by decide +kernel
theorem dX2_follow_338 : decode cX2_follow 338 = .ok (.iload_n 2, 1) := by decide +kernel
theorem dX2_follow_339 : decode cX2_follow 339 = .ok (.iload 9, 2) := by decide +kernel
theorem dX2_follow_341 : decode cX2_follow 341 = .ok (.iload 6, 2) := by decide +kernel
theorem dX2_follow_343 : decode cX2_follow 343 = .ok (.iload 7, 2) := by decide +kernel
theorem dX2_follow_345 : decode cX2_follow 345 = .ok (.invokevirtual 147, 3) := by decide +kernel
theorem dX2_follow_348 : decode cX2_follow 348 = .ok (.istore 9, 2) := by decide +kernel
theorem dX2_follow_350 : decode cX2_follow 350 = .ok (.goto 13, 3) := by decide +kernel
theorem dX2_follow_353 : decode cX2_follow 353 = .ok (.aload_n 0, 1) := by decide +kernel
theorem dX2_follow_354 : decode cX2_follow 354 = .ok (.iload_n 1, 1) := by decide +kernel
theorem dX2_follow_355 : decode cX2_follow 355 = .ok (.iload_n 2, 1) := by decide +kernel
theorem dX2_follow_356 : decode cX2_follow 356 = .ok (.iload 4, 2) := by decide +kernel
theorem dX2_follow_358 : decode cX2_follow 358 = .ok (.invokevirtual 151, 3) := by decide +kernel
theorem dX2_follow_361 : decode cX2_follow 361 = .ok (.istore 9, 2) := by decide +kernel
theorem dX2_follow_363 : decode cX2_follow 363 = .ok (.iload 9, 2) := by decide +kernel
theorem dX2_follow_365 : decode cX2_follow 365 = .ok (.iconst (-1), 1) := by decide +kernel
theorem dX2_follow_366 : decode cX2_follow 366 = .ok (.if_icmp .ne 11, 3) := by decide +kernel
theorem dX2_follow_369 : decode cX2_follow 369 = .ok (.aload_n 0, 1) := by decide +kernel
theorem dX2_follow_370 : decode cX2_follow 370 = .ok (.iload 6, 2) := by decide +kernel
theorem dX2_follow_372 : decode cX2_follow 372 = .ok (.iload 7, 2) := by decide +kernel
theorem dX2_follow_374 : decode cX2_follow 374 = .ok (.invokevirtual 100, 3) := by decide +kernel
theorem dX2_follow_377 : decode cX2_follow 377 = .ok (.iload 9, 2) := by decide +kernel
theorem dX2_follow_379 : decode cX2_follow 379 = .ok (.ireturn, 1) := by decide +kernel
set_option maxRecDepth 20000 in
theorem ggX2_begin_X2_faultAnswer : GoodIn wsX2_begin wsX2_faultAnswer := goodIn_r _ [12] (by decide +kernel) (by decide +kernel)
set_option maxRecDepth 20000 in
theorem gX2_begin_X2_faultAnswer : GoodIn wsX2_begin (va_wsS RX2 143 yX2_faultAnswer wsX2_faultAnswer) := goodIn_app (goodIn_of _ (by decide +kernel)) ggX2_begin_X2_faultAnswer
theorem dX2_begin_0 : decode cX2_begin 0 = .ok (.iload_n 2, 1) := by decide +kernel
theorem dX2_begin_1 : decode cX2_begin 1 = .ok (.sipush 150, 3) := by decide +kernel
theorem dX2_begin_4 : decode cX2_begin 4 = .ok (.if_icmp .le 8, 3) := by decide +kernel
theorem dX2_begin_7 : decode cX2_begin 7 = .ok (.iconst 4, 1) := by decide +kernel
theorem dX2_begin_8 : decode cX2_begin 8 = .ok (.invokestatic 143, 3) := by decide +kernel
theorem dX2_begin_11 : decode cX2_begin 11 = .ok (.ireturn, 1) := by decide +kernel
theorem dX2_begin_12 : decode cX2_begin 12 = .ok (.aload_n 0, 1) := by decide +kernel
theorem dX2_begin_13 : decode cX2_begin 13 = .ok (.getfield 121, 3) := by decide +kernel
theorem dX2_begin_16 : decode cX2_begin 16 = .ok (.sipush 3000, 3) := by decide +kernel
theorem dX2_begin_19 : decode cX2_begin 19 = .ok (.if_icmp .lt 8, 3) := by decide +kernel
theorem dX2_begin_22 : decode cX2_begin 22 = .ok (.iconst 5, 1) := by decide +kernel
theorem dX2_begin_23 : decode cX2_begin 23 = .ok (.invokestatic 143, 3) := by decide +kernel
theorem dX2_begin_26 : decode cX2_begin 26 = .ok (.ireturn, 1) := by decide +kernel
theorem dX2_begin_27 : decode cX2_begin 27 = .ok (.aload_n 0, 1) := by decide +kernel
theorem dX2_begin_28 : decode cX2_begin 28 = .ok (.dup, 1) := by decide +kernel
theorem dX2_begin_29 : decode cX2_begin 29 = .ok (.getfield 121, 3) := by decide +kernel
theorem dX2_begin_32 : decode cX2_begin 32 = .ok (.iconst 1, 1) := by decide +kernel
theorem dX2_begin_33 : decode cX2_begin 33 = .ok (.iadd, 1) := by decide +kernel
theorem dX2_begin_34 : decode cX2_begin 34 = .ok (.putfield 121, 3) := by decide +kernel
theorem dX2_begin_37 : decode cX2_begin 37 = .ok (.aload_n 0, 1) := by decide +kernel
theorem dX2_begin_38 : decode cX2_begin 38 = .ok (.dup, 1) := by decide +kernel
theorem dX2_begin_39 : decode cX2_begin 39 = .ok (.getfield 127, 3) := by decide +kernel
theorem dX2_begin_42 : decode cX2_begin 42 = .ok (.iconst 1, 1) := by decide +kernel
theorem dX2_begin_43 : decode cX2_begin 43 = .ok (.iadd, 1) := by decide +kernel
theorem dX2_begin_44 : decode cX2_begin 44 = .ok (.putfield 127, 3) := by decide +kernel
theorem dX2_begin_47 : decode cX2_begin 47 = .ok (.aload_n 0, 1) := by decide +kernel
theorem dX2_begin_48 : decode cX2_begin 48 = .ok (.getfield 23, 3) := by decide +kernel
theorem dX2_begin_51 : decode cX2_begin 51 = .ok (.iload_n 1, 1) := by decide +kernel
theorem dX2_begin_52 : decode cX2_begin 52 = .ok (.dup2, 1) := by decide +kernel
theorem dX2_begin_53 : decode cX2_begin 53 = .ok (.iaload, 1) := by decide +kernel
theorem dX2_begin_54 : decode cX2_begin 54 = .ok (.iconst 1, 1) := by decide +kernel
theorem dX2_begin_55 : decode cX2_begin 55 = .ok (.iadd, 1) := by decide +kernel
theorem dX2_begin_56 : decode cX2_begin 56 = .ok (.iastore, 1) := by decide +kernel
theorem dX2_begin_57 : decode cX2_begin 57 = .ok (.aload_n 0, 1) := by decide +kernel
theorem dX2_begin_58 : decode cX2_begin 58 = .ok (.aload_n 0, 1) := by decide +kernel
theorem dX2_begin_59 : decode cX2_begin 59 = .ok (.getfield 124, 3) := by decide +kernel
theorem dX2_begin_62 : decode cX2_begin 62 = .ok (.iload_n 2, 1) := by decide +kernel
theorem dX2_begin_63 : decode cX2_begin 63 = .ok (.invokestatic 154, 3) := by decide +kernel
theorem dX2_begin_66 : decode cX2_begin 66 = .ok (.putfield 124, 3) := by decide +kernel
theorem dX2_begin_69 : decode cX2_begin 69 = .ok (.iconst 0, 1) := by decide +kernel
theorem dX2_begin_70 : decode cX2_begin 70 = .ok (.ireturn, 1) := by decide +kernel
set_option maxRecDepth 20000 in
theorem ggX2_turn_X2_isFault : GoodIn wsX2_turn wsX2_isFault := goodIn_r _ [7] (by decide +kernel) (by decide +kernel)
set_option maxRecDepth 20000 in
theorem gX2_turn_X2_isFault : GoodIn wsX2_turn (va_wsS RX2 87 yX2_isFault wsX2_isFault) := goodIn_app (goodIn_of _ (by decide +kernel)) ggX2_turn_X2_isFault
set_option maxRecDepth 20000 in
theorem ggX2_turn_X2_takeBack : GoodIn wsX2_turn wsX2_takeBack := goodIn_r _ [11, 12, 13, 2, 14, 24, 25, 26, 27, 28, 29, 30, 31, 32, 33, 34, 35, 36, 37, 38, 39, 40, 41, 42, 43, 44, 45, 46, 47, 48] (by decide +kernel) (by decide +kernel)
set_option maxRecDepth 20000 in
theorem gX2_turn_X2_takeBack : GoodIn wsX2_turn (wsV RX2 100 RX2 yX2_takeBack wsX2_takeBack) := goodIn_app (goodIn_of _ (by decide +kernel)) ggX2_turn_X2_takeBack
set_option maxRecDepth 20000 in
theorem ggX2_turn_X0_add : GoodIn wsX2_turn wsX0_add := goodIn_r _ [19, 20, 21, 22, 23, 45, 46, 47, 48] (by decide +kernel) (by decide +kernel)
set_option maxRecDepth 20000 in
theorem gX2_turn_X0_add : GoodIn wsX2_turn (wsV RX2 159 RX0 yX0_add wsX0_add) := goodIn_app (goodIn_of _ (by decide +kernel)) ggX2_turn_X0_add
theorem dX2_turn_0 : decode cX2_turn 0 = .ok (.iload_n 3, 1) := by decide +kernel
theorem dX2_turn_1 : decode cX2_turn 1 = .ok (.invokestatic 87, 3) := by decide +kernel
theorem dX2_turn_4 : decode cX2_turn 4 = .ok (.ifCond .eq 5, 3) := by decide +kernel
theorem dX2_turn_7 : decode cX2_turn 7 = .ok (.iload_n 3, 1) := by decide +kernel
theorem dX2_turn_8 : decode cX2_turn 8 = .ok (.ireturn, 1) := by decide +kernel
theorem dX2_turn_9 : decode cX2_turn 9 = .ok (.aload_n 0, 1) := by decide +kernel
theorem dX2_turn_10 : decode cX2_turn 10 = .ok (.getfield 13, 3) := by decide +kernel
theorem dX2_turn_13 : decode cX2_turn 13 = .ok (.iload_n 1, 1) := by decide +kernel
theorem dX2_turn_14 : decode cX2_turn 14 = .ok (.iaload, 1) := by decide +kernel
theorem dX2_turn_15 : decode cX2_turn 15 = .ok (.tableswitch 66 7 9 #[25, 36, 47], 25) := by decide +kernel
theorem dX2_turn_40 : decode cX2_turn 40 = .ok (.iload_n 3, 1) := by decide +kernel
theorem dX2_turn_41 : decode cX2_turn 41 = .ok (.iconst (-1), 1) := by decide +kernel
theorem dX2_turn_42 : decode cX2_turn 42 = .ok (.if_icmp .ne 7, 3) := by decide +kernel
theorem dX2_turn_45 : decode cX2_turn 45 = .ok (.iload_n 2, 1) := by decide +kernel
theorem dX2_turn_46 : decode cX2_turn 46 = .ok (.goto 4, 3) := by decide +kernel
theorem dX2_turn_49 : decode cX2_turn 49 = .ok (.iload_n 3, 1) := by decide +kernel
theorem dX2_turn_50 : decode cX2_turn 50 = .ok (.ireturn, 1) := by decide +kernel
theorem dX2_turn_51 : decode cX2_turn 51 = .ok (.iload_n 3, 1) := by decide +kernel
theorem dX2_turn_52 : decode cX2_turn 52 = .ok (.iconst (-1), 1) := by decide +kernel
theorem dX2_turn_53 : decode cX2_turn 53 = .ok (.if_icmp .ne 7, 3) := by decide +kernel
theorem dX2_turn_56 : decode cX2_turn 56 = .ok (.iload_n 2, 1) := by decide +kernel
theorem dX2_turn_57 : decode cX2_turn 57 = .ok (.goto 4, 3) := by decide +kernel
theorem dX2_turn_60 : decode cX2_turn 60 = .ok (.iconst (-1), 1) := by decide +kernel
theorem dX2_turn_61 : decode cX2_turn 61 = .ok (.ireturn, 1) := by decide +kernel
theorem dX2_turn_62 : decode cX2_turn 62 = .ok (.aload_n 0, 1) := by decide +kernel
theorem dX2_turn_63 : decode cX2_turn 63 = .ok (.iload 4, 2) := by decide +kernel
theorem dX2_turn_65 : decode cX2_turn 65 = .ok (.iload 5, 2) := by decide +kernel
theorem dX2_turn_67 : decode cX2_turn 67 = .ok (.invokevirtual 100, 3) := by decide +kernel
theorem dX2_turn_70 : decode cX2_turn 70 = .ok (.iload_n 3, 1) := by decide +kernel
theorem dX2_turn_71 : decode cX2_turn 71 = .ok (.iconst (-1), 1) := by decide +kernel
theorem dX2_turn_72 : decode cX2_turn 72 = .ok (.if_icmp .ne 7, 3) := by decide +kernel
theorem dX2_turn_75 : decode cX2_turn 75 = .ok (.iconst (-1), 1) := by decide +kernel
theorem dX2_turn_76 : decode cX2_turn 76 = .ok (.goto 4, 3) := by decide +kernel
theorem dX2_turn_79 : decode cX2_turn 79 = .ok (.iload_n 2, 1) := by decide +kernel
theorem dX2_turn_80 : decode cX2_turn 80 = .ok (.ireturn, 1) := by decide +kernel
theorem dX2_turn_81 : decode cX2_turn 81 = .ok (.iload_n 3, 1) := by decide +kernel
theorem dX2_turn_82 : decode cX2_turn 82 = .ok (.iconst (-1), 1) := by decide +kernel
theorem dX2_turn_83 : decode cX2_turn 83 = .ok (.if_icmp .eq 18, 3) := by decide +kernel
theorem dX2_turn_86 : decode cX2_turn 86 = .ok (.aload_n 0, 1) := by decide +kernel
theorem dX2_turn_87 : decode cX2_turn 87 = .ok (.getfield 43, 3) := by decide +kernel
theorem dX2_turn_90 : decode cX2_turn 90 = .ok (.aload_n 0, 1) := by decide +kernel
theorem dX2_turn_91 : decode cX2_turn 91 = .ok (.getfield 20, 3) := by decide +kernel
theorem dX2_turn_94 : decode cX2_turn 94 = .ok (.iload_n 1, 1) := by decide +kernel
theorem dX2_turn_95 : decode cX2_turn 95 = .ok (.iaload, 1) := by decide +kernel
theorem dX2_turn_96 : decode cX2_turn 96 = .ok (.iload_n 2, 1) := by decide +kernel
theorem dX2_turn_97 : decode cX2_turn 97 = .ok (.iload_n 3, 1) := by decide +kernel
theorem dX2_turn_98 : decode cX2_turn 98 = .ok (.invokevirtual 159, 3) := by decide +kernel
theorem dX2_turn_101 : decode cX2_turn 101 = .ok (.iload_n 3, 1) := by decide +kernel
theorem dX2_turn_102 : decode cX2_turn 102 = .ok (.ireturn, 1) := by decide +kernel
set_option maxRecDepth 20000 in
theorem ggX2_readAlone_X2_passSign : GoodIn wsX2_readAlone wsX2_passSign := goodIn_r _ [11, 4, 12, 52, 53, 54, 55, 56, 57, 58, 59, 60, 61, 62, 63, 64, 65, 66, 67] (by decide +kernel) (by decide +kernel)
set_option maxRecDepth 20000 in
theorem gX2_readAlone_X2_passSign : GoodIn wsX2_readAlone (wsV RX2 163 RX2 yX2_passSign wsX2_passSign) := goodIn_app (goodIn_of _ (by decide +kernel)) ggX2_readAlone_X2_passSign
set_option maxRecDepth 20000 in
theorem ggX2_readAlone_X1_lay : GoodIn wsX2_readAlone wsX1_lay := goodIn_r _ [17, 18, 19, 20, 21, 22, 23, 24, 25, 16, 26, 68, 69, 70, 71, 72] (by decide +kernel) (by decide +kernel)
set_option maxRecDepth 20000 in
theorem gX2_readAlone_X1_lay : GoodIn wsX2_readAlone (wsV RX2 166 RX1 yX1_lay wsX1_lay) := goodIn_app (goodIn_of _ (by decide +kernel)) ggX2_readAlone_X1_lay
set_option maxRecDepth 20000 in
theorem ggX2_readAlone_X2_readFigure : GoodIn wsX2_readAlone wsX2_readFigure := goodIn_r _ [30, 6, 31, 12, 32, 7, 8, 9, 10, 11, 4, 33, 34, 35, 16, 36, 21, 22, 37, 38, 39, 40, 41, 42, 43, 19, 44, 23, 24, 25, 26, 20, 13, 14, 15, 17, 18, 52, 53, 54, 55, 56, 57, 58, 59, 60, 61, 62, 63, 64, 65, 66, 67, 68, 69, 70, 71, 72] (by decide +kernel) (by decide +kernel)
set_option maxRecDepth 20000 in
theorem gX2_readAlone_X2_readFigure : GoodIn wsX2_readAlone (wsV RX2 170 RX2 yX2_readFigure wsX2_readFigure) := goodIn_app (goodIn_of _ (by decide +kernel)) ggX2_readAlone_X2_readFigure
set_option maxRecDepth 20000 in
theorem ggX2_readAlone_X2_act : GoodIn wsX2_readAlone wsX2_act := goodIn_r _ [48, 6, 33, 34, 35, 16, 36, 21, 22, 37, 38, 10, 39, 40, 41, 42, 43, 19, 44, 23, 24, 25, 26, 20, 49, 50, 51, 13, 14, 15, 17, 18, 52, 53, 54, 55, 56, 57, 58, 59, 60, 61, 62, 63, 64, 65, 66, 67, 68, 69, 70, 71, 72] (by decide +kernel) (by decide +kernel)
set_option maxRecDepth 20000 in
theorem gX2_readAlone_X2_act : GoodIn wsX2_readAlone (wsV RX2 173 RX2 yX2_act wsX2_act) := goodIn_app (goodIn_of _ (by decide +kernel)) ggX2_readAlone_X2_act
theorem dX2_readAlone_0 : decode cX2_readAlone 0 = .ok (.aload_n 0, 1) := by decide +kernel
theorem dX2_readAlone_1 : decode cX2_readAlone 1 = .ok (.getfield 17, 3) := by decide +kernel
theorem dX2_readAlone_4 : decode cX2_readAlone 4 = .ok (.iload_n 1, 1) := by decide +kernel
theorem dX2_readAlone_5 : decode cX2_readAlone 5 = .ok (.iaload, 1) := by decide +kernel
theorem dX2_readAlone_6 : decode cX2_readAlone 6 = .ok (.istore 4, 2) := by decide +kernel
theorem dX2_readAlone_8 : decode cX2_readAlone 8 = .ok (.aload_n 0, 1) := by decide +kernel
theorem dX2_readAlone_9 : decode cX2_readAlone 9 = .ok (.getfield 13, 3) := by decide +kernel
theorem dX2_readAlone_12 : decode cX2_readAlone 12 = .ok (.iload_n 1, 1) := by decide +kernel
theorem dX2_readAlone_13 : decode cX2_readAlone 13 = .ok (.iaload, 1) := by decide +kernel
theorem dX2_readAlone_14 : decode cX2_readAlone 14 = .ok (.tableswitch 149 0 14 #[74, 84, 98, 107, 149, 149, 149, 149, 149, 149, 149, 149, 121, 130, 143], 74) := by decide +kernel
theorem dX2_readAlone_88 : decode cX2_readAlone 88 = .ok (.aload_n 0, 1) := by decide +kernel
theorem dX2_readAlone_89 : decode cX2_readAlone 89 = .ok (.iload_n 2, 1) := by decide +kernel
theorem dX2_readAlone_90 : decode cX2_readAlone 90 = .ok (.iload 4, 2) := by decide +kernel
theorem dX2_readAlone_92 : decode cX2_readAlone 92 = .ok (.iload 4, 2) := by decide +kernel
theorem dX2_readAlone_94 : decode cX2_readAlone 94 = .ok (.invokevirtual 163, 3) := by decide +kernel
theorem dX2_readAlone_97 : decode cX2_readAlone 97 = .ok (.ireturn, 1) := by decide +kernel
theorem dX2_readAlone_98 : decode cX2_readAlone 98 = .ok (.aload_n 0, 1) := by decide +kernel
theorem dX2_readAlone_99 : decode cX2_readAlone 99 = .ok (.iload_n 2, 1) := by decide +kernel
theorem dX2_readAlone_100 : decode cX2_readAlone 100 = .ok (.iload 4, 2) := by decide +kernel
theorem dX2_readAlone_102 : decode cX2_readAlone 102 = .ok (.aload_n 0, 1) := by decide +kernel
theorem dX2_readAlone_103 : decode cX2_readAlone 103 = .ok (.getfield 20, 3) := by decide +kernel
theorem dX2_readAlone_106 : decode cX2_readAlone 106 = .ok (.iload_n 1, 1) := by decide +kernel
theorem dX2_readAlone_107 : decode cX2_readAlone 107 = .ok (.iaload, 1) := by decide +kernel
theorem dX2_readAlone_108 : decode cX2_readAlone 108 = .ok (.invokevirtual 163, 3) := by decide +kernel
theorem dX2_readAlone_111 : decode cX2_readAlone 111 = .ok (.ireturn, 1) := by decide +kernel
theorem dX2_readAlone_112 : decode cX2_readAlone 112 = .ok (.aload_n 0, 1) := by decide +kernel
theorem dX2_readAlone_113 : decode cX2_readAlone 113 = .ok (.iload_n 2, 1) := by decide +kernel
theorem dX2_readAlone_114 : decode cX2_readAlone 114 = .ok (.iconst 0, 1) := by decide +kernel
theorem dX2_readAlone_115 : decode cX2_readAlone 115 = .ok (.bipush 127, 2) := by decide +kernel
theorem dX2_readAlone_117 : decode cX2_readAlone 117 = .ok (.invokevirtual 163, 3) := by decide +kernel
theorem dX2_readAlone_120 : decode cX2_readAlone 120 = .ok (.ireturn, 1) := by decide +kernel
theorem dX2_readAlone_121 : decode cX2_readAlone 121 = .ok (.iload_n 2, 1) := by decide +kernel
theorem dX2_readAlone_122 : decode cX2_readAlone 122 = .ok (.aload_n 0, 1) := by decide +kernel
theorem dX2_readAlone_123 : decode cX2_readAlone 123 = .ok (.getfield 57, 3) := by decide +kernel
theorem dX2_readAlone_126 : decode cX2_readAlone 126 = .ok (.if_icmp .ne 7, 3) := by decide +kernel
theorem dX2_readAlone_129 : decode cX2_readAlone 129 = .ok (.iload_n 2, 1) := by decide +kernel
theorem dX2_readAlone_130 : decode cX2_readAlone 130 = .ok (.goto 4, 3) := by decide +kernel
theorem dX2_readAlone_133 : decode cX2_readAlone 133 = .ok (.iconst (-1), 1) := by decide +kernel
theorem dX2_readAlone_134 : decode cX2_readAlone 134 = .ok (.ireturn, 1) := by decide +kernel
theorem dX2_readAlone_135 : decode cX2_readAlone 135 = .ok (.aload_n 0, 1) := by decide +kernel
theorem dX2_readAlone_136 : decode cX2_readAlone 136 = .ok (.getfield 29, 3) := by decide +kernel
theorem dX2_readAlone_139 : decode cX2_readAlone 139 = .ok (.iload_n 3, 1) := by decide +kernel
theorem dX2_readAlone_140 : decode cX2_readAlone 140 = .ok (.iconst 1, 1) := by decide +kernel
theorem dX2_readAlone_141 : decode cX2_readAlone 141 = .ok (.bastore, 1) := by decide +kernel
theorem dX2_readAlone_142 : decode cX2_readAlone 142 = .ok (.iload_n 2, 1) := by decide +kernel
theorem dX2_readAlone_143 : decode cX2_readAlone 143 = .ok (.ireturn, 1) := by decide +kernel
theorem dX2_readAlone_144 : decode cX2_readAlone 144 = .ok (.aload_n 0, 1) := by decide +kernel
theorem dX2_readAlone_145 : decode cX2_readAlone 145 = .ok (.getfield 36, 3) := by decide +kernel
theorem dX2_readAlone_148 : decode cX2_readAlone 148 = .ok (.iload 4, 2) := by decide +kernel
theorem dX2_readAlone_150 : decode cX2_readAlone 150 = .ok (.i2l, 1) := by decide +kernel
theorem dX2_readAlone_151 : decode cX2_readAlone 151 = .ok (.iconst 0, 1) := by decide +kernel
theorem dX2_readAlone_152 : decode cX2_readAlone 152 = .ok (.invokevirtual 166, 3) := by decide +kernel
theorem dX2_readAlone_155 : decode cX2_readAlone 155 = .ok (.iload_n 2, 1) := by decide +kernel
theorem dX2_readAlone_156 : decode cX2_readAlone 156 = .ok (.ireturn, 1) := by decide +kernel
theorem dX2_readAlone_157 : decode cX2_readAlone 157 = .ok (.aload_n 0, 1) := by decide +kernel
theorem dX2_readAlone_158 : decode cX2_readAlone 158 = .ok (.iload_n 2, 1) := by decide +kernel
theorem dX2_readAlone_159 : decode cX2_readAlone 159 = .ok (.invokevirtual 170, 3) := by decide +kernel
theorem dX2_readAlone_162 : decode cX2_readAlone 162 = .ok (.ireturn, 1) := by decide +kernel
theorem dX2_readAlone_163 : decode cX2_readAlone 163 = .ok (.aload_n 0, 1) := by decide +kernel
theorem dX2_readAlone_164 : decode cX2_readAlone 164 = .ok (.iload 4, 2) := by decide +kernel
theorem dX2_readAlone_166 : decode cX2_readAlone 166 = .ok (.iload_n 2, 1) := by decide +kernel
theorem dX2_readAlone_167 : decode cX2_readAlone 167 = .ok (.invokevirtual 173, 3) := by decide +kernel
theorem dX2_readAlone_170 : decode cX2_readAlone 170 = .ok (.ireturn, 1) := by decide +kernel
theorem dX2_passSign_0 : decode cX2_passSign 0 = .ok (.iload_n 1, 1) := by decide +kernel
theorem dX2_passSign_1 : decode cX2_passSign 1 = .ok (.ifCond .lt 11, 3) := by decide +kernel
theorem dX2_passSign_4 : decode cX2_passSign 4 = .ok (.iload_n 1, 1) := by decide +kernel
theorem dX2_passSign_5 : decode cX2_passSign 5 = .ok (.aload_n 0, 1) := by decide +kernel
theorem dX2_passSign_6 : decode cX2_passSign 6 = .ok (.getfield 57, 3) := by decide +kernel
theorem dX2_passSign_9 : decode cX2_passSign 9 = .ok (.if_icmp .lt 5, 3) := by decide +kernel
theorem dX2_passSign_12 : decode cX2_passSign 12 = .ok (.iconst (-1), 1) := by decide +kernel
theorem dX2_passSign_13 : decode cX2_passSign 13 = .ok (.ireturn, 1) := by decide +kernel
theorem dX2_passSign_14 : decode cX2_passSign 14 = .ok (.aload_n 0, 1) := by decide +kernel
theorem dX2_passSign_15 : decode cX2_passSign 15 = .ok (.getfield 9, 3) := by decide +kernel
theorem dX2_passSign_18 : decode cX2_passSign 18 = .ok (.iload_n 1, 1) := by decide +kernel
theorem dX2_passSign_19 : decode cX2_passSign 19 = .ok (.baload, 1) := by decide +kernel
theorem dX2_passSign_20 : decode cX2_passSign 20 = .ok (.istore 4, 2) := by decide +kernel
theorem dX2_passSign_22 : decode cX2_passSign 22 = .ok (.iload 4, 2) := by decide +kernel
theorem dX2_passSign_24 : decode cX2_passSign 24 = .ok (.iload_n 2, 1) := by decide +kernel
theorem dX2_passSign_25 : decode cX2_passSign 25 = .ok (.if_icmp .lt 15, 3) := by decide +kernel
theorem dX2_passSign_28 : decode cX2_passSign 28 = .ok (.iload 4, 2) := by decide +kernel
theorem dX2_passSign_30 : decode cX2_passSign 30 = .ok (.iload_n 3, 1) := by decide +kernel
theorem dX2_passSign_31 : decode cX2_passSign 31 = .ok (.if_icmp .gt 9, 3) := by decide +kernel
theorem dX2_passSign_34 : decode cX2_passSign 34 = .ok (.iload_n 1, 1) := by decide +kernel
theorem dX2_passSign_35 : decode cX2_passSign 35 = .ok (.iconst 1, 1) := by decide +kernel
theorem dX2_passSign_36 : decode cX2_passSign 36 = .ok (.iadd, 1) := by decide +kernel
theorem dX2_passSign_37 : decode cX2_passSign 37 = .ok (.goto 4, 3) := by decide +kernel
theorem dX2_passSign_40 : decode cX2_passSign 40 = .ok (.iconst (-1), 1) := by decide +kernel
theorem dX2_passSign_41 : decode cX2_passSign 41 = .ok (.ireturn, 1) := by decide +kernel
set_option maxRecDepth 20000 in
theorem ggX2_readFigure_X2_passSign : GoodIn wsX2_readFigure wsX2_passSign := goodIn_r _ [9, 10, 3, 37, 38, 39, 40, 41, 42, 43, 44, 45, 46, 47, 48, 49, 50, 51, 52] (by decide +kernel) (by decide +kernel)
set_option maxRecDepth 20000 in
theorem gX2_readFigure_X2_passSign : GoodIn wsX2_readFigure (wsV RX2 163 RX2 yX2_passSign wsX2_passSign) := goodIn_app (goodIn_of _ (by decide +kernel)) ggX2_readFigure_X2_passSign
set_option maxRecDepth 20000 in
theorem ggX2_readFigure_X1_height : GoodIn wsX2_readFigure wsX1_height := goodIn_r _ [15, 16, 17, 53, 54, 55, 56, 57] (by decide +kernel) (by decide +kernel)
set_option maxRecDepth 20000 in
theorem gX2_readFigure_X1_height : GoodIn wsX2_readFigure (wsV RX2 117 RX1 yX1_height wsX1_height) := goodIn_app (goodIn_of _ (by decide +kernel)) ggX2_readFigure_X1_height
set_option maxRecDepth 20000 in
theorem ggX2_readFigure_X2_faultAnswer : GoodIn wsX2_readFigure wsX2_faultAnswer := goodIn_r _ [20] (by decide +kernel) (by decide +kernel)
set_option maxRecDepth 20000 in
theorem gX2_readFigure_X2_faultAnswer : GoodIn wsX2_readFigure (va_wsS RX2 143 yX2_faultAnswer wsX2_faultAnswer) := goodIn_app (goodIn_of _ (by decide +kernel)) ggX2_readFigure_X2_faultAnswer
set_option maxRecDepth 20000 in
theorem ggX2_readFigure_X1_numberUnder : GoodIn wsX2_readFigure wsX1_numberUnder := goodIn_r _ [24, 25, 26, 12, 13, 14, 15, 16, 17, 27, 28, 29, 30, 31, 53, 54, 55, 56, 57] (by decide +kernel) (by decide +kernel)
set_option maxRecDepth 20000 in
theorem gX2_readFigure_X1_numberUnder : GoodIn wsX2_readFigure (wsV RX2 104 RX1 yX1_numberUnder wsX1_numberUnder) := goodIn_app (goodIn_of _ (by decide +kernel)) ggX2_readFigure_X1_numberUnder
set_option maxRecDepth 20000 in
theorem ggX2_readFigure_X1_lay : GoodIn wsX2_readFigure wsX1_lay := goodIn_r _ [35, 36, 25, 31, 16, 17, 27, 28, 29, 14, 30, 53, 54, 55, 56, 57] (by decide +kernel) (by decide +kernel)
set_option maxRecDepth 20000 in
theorem gX2_readFigure_X1_lay : GoodIn wsX2_readFigure (wsV RX2 166 RX1 yX1_lay wsX1_lay) := goodIn_app (goodIn_of _ (by decide +kernel)) ggX2_readFigure_X1_lay
theorem dX2_readFigure_0 : decode cX2_readFigure 0 = .ok (.aload_n 0, 1) := by decide +kernel
theorem dX2_readFigure_1 : decode cX2_readFigure 1 = .ok (.iload_n 1, 1) := by decide +kernel
theorem dX2_readFigure_2 : decode cX2_readFigure 2 = .ok (.bipush 48, 2) := by decide +kernel
theorem dX2_readFigure_4 : decode cX2_readFigure 4 = .ok (.bipush 57, 2) := by decide +kernel
theorem dX2_readFigure_6 : decode cX2_readFigure 6 = .ok (.invokevirtual 163, 3) := by decide +kernel
theorem dX2_readFigure_9 : decode cX2_readFigure 9 = .ok (.istore_n 2, 1) := by decide +kernel
theorem dX2_readFigure_10 : decode cX2_readFigure 10 = .ok (.iload_n 2, 1) := by decide +kernel
theorem dX2_readFigure_11 : decode cX2_readFigure 11 = .ok (.iconst (-1), 1) := by decide +kernel
theorem dX2_readFigure_12 : decode cX2_readFigure 12 = .ok (.if_icmp .ne 5, 3) := by decide +kernel
theorem dX2_readFigure_15 : decode cX2_readFigure 15 = .ok (.iconst (-1), 1) := by decide +kernel
theorem dX2_readFigure_16 : decode cX2_readFigure 16 = .ok (.ireturn, 1) := by decide +kernel
theorem dX2_readFigure_17 : decode cX2_readFigure 17 = .ok (.aload_n 0, 1) := by decide +kernel
theorem dX2_readFigure_18 : decode cX2_readFigure 18 = .ok (.getfield 36, 3) := by decide +kernel
theorem dX2_readFigure_21 : decode cX2_readFigure 21 = .ok (.invokevirtual 117, 3) := by decide +kernel
theorem dX2_readFigure_24 : decode cX2_readFigure 24 = .ok (.iconst 1, 1) := by decide +kernel
theorem dX2_readFigure_25 : decode cX2_readFigure 25 = .ok (.if_icmp .ge 8, 3) := by decide +kernel
theorem dX2_readFigure_28 : decode cX2_readFigure 28 = .ok (.iconst 3, 1) := by decide +kernel
theorem dX2_readFigure_29 : decode cX2_readFigure 29 = .ok (.invokestatic 143, 3) := by decide +kernel
theorem dX2_readFigure_32 : decode cX2_readFigure 32 = .ok (.ireturn, 1) := by decide +kernel
theorem dX2_readFigure_33 : decode cX2_readFigure 33 = .ok (.aload_n 0, 1) := by decide +kernel
theorem dX2_readFigure_34 : decode cX2_readFigure 34 = .ok (.getfield 36, 3) := by decide +kernel
theorem dX2_readFigure_37 : decode cX2_readFigure 37 = .ok (.ldc2_w 176, 3) := by decide +kernel
theorem dX2_readFigure_40 : decode cX2_readFigure 40 = .ok (.aload_n 0, 1) := by decide +kernel
theorem dX2_readFigure_41 : decode cX2_readFigure 41 = .ok (.getfield 36, 3) := by decide +kernel
theorem dX2_readFigure_44 : decode cX2_readFigure 44 = .ok (.iconst 0, 1) := by decide +kernel
theorem dX2_readFigure_45 : decode cX2_readFigure 45 = .ok (.invokevirtual 104, 3) := by decide +kernel
theorem dX2_readFigure_48 : decode cX2_readFigure 48 = .ok (.lmul, 1) := by decide +kernel
theorem dX2_readFigure_49 : decode cX2_readFigure 49 = .ok (.aload_n 0, 1) := by decide +kernel
theorem dX2_readFigure_50 : decode cX2_readFigure 50 = .ok (.getfield 9, 3) := by decide +kernel
theorem dX2_readFigure_53 : decode cX2_readFigure 53 = .ok (.iload_n 1, 1) := by decide +kernel
theorem dX2_readFigure_54 : decode cX2_readFigure 54 = .ok (.baload, 1) := by decide +kernel
theorem dX2_readFigure_55 : decode cX2_readFigure 55 = .ok (.i2l, 1) := by decide +kernel
theorem dX2_readFigure_56 : decode cX2_readFigure 56 = .ok (.ladd, 1) := by decide +kernel
theorem dX2_readFigure_57 : decode cX2_readFigure 57 = .ok (.ldc2_w 178, 3) := by decide +kernel
theorem dX2_readFigure_60 : decode cX2_readFigure 60 = .ok (.lsub, 1) := by decide +kernel
theorem dX2_readFigure_61 : decode cX2_readFigure 61 = .ok (.iconst 1, 1) := by decide +kernel
theorem dX2_readFigure_62 : decode cX2_readFigure 62 = .ok (.invokevirtual 166, 3) := by decide +kernel
theorem dX2_readFigure_65 : decode cX2_readFigure 65 = .ok (.iload_n 2, 1) := by decide +kernel
theorem dX2_readFigure_66 : decode cX2_readFigure 66 = .ok (.ireturn, 1) := by decide +kernel
set_option maxRecDepth 20000 in
theorem ggX2_act_X1_height : GoodIn wsX2_act wsX1_height := goodIn_r _ [6, 7, 8, 48, 49, 50, 51, 52] (by decide +kernel) (by decide +kernel)
set_option maxRecDepth 20000 in
theorem gX2_act_X1_height : GoodIn wsX2_act (wsV RX2 117 RX1 yX1_height wsX1_height) := goodIn_app (goodIn_of _ (by decide +kernel)) ggX2_act_X1_height
set_option maxRecDepth 20000 in
theorem ggX2_act_X2_faultAnswer : GoodIn wsX2_act wsX2_faultAnswer := goodIn_r _ [12] (by decide +kernel) (by decide +kernel)
set_option maxRecDepth 20000 in
theorem gX2_act_X2_faultAnswer : GoodIn wsX2_act (va_wsS RX2 143 yX2_faultAnswer wsX2_faultAnswer) := goodIn_app (goodIn_of _ (by decide +kernel)) ggX2_act_X2_faultAnswer
set_option maxRecDepth 20000 in
theorem ggX2_act_X1_numberUnder : GoodIn wsX2_act wsX1_numberUnder := goodIn_r _ [16, 17, 18, 3, 4, 5, 6, 7, 8, 19, 20, 21, 22, 23, 48, 49, 50, 51, 52] (by decide +kernel) (by decide +kernel)
set_option maxRecDepth 20000 in
theorem gX2_act_X1_numberUnder : GoodIn wsX2_act (wsV RX2 104 RX1 yX1_numberUnder wsX1_numberUnder) := goodIn_app (goodIn_of _ (by decide +kernel)) ggX2_act_X1_numberUnder
set_option maxRecDepth 20000 in
theorem ggX2_act_X2_reckon : GoodIn wsX2_act wsX2_reckon := goodIn_r _ [26] (by decide +kernel) (by decide +kernel)
set_option maxRecDepth 20000 in
theorem gX2_act_X2_reckon : GoodIn wsX2_act (va_wsS RX2 180 yX2_reckon wsX2_reckon) := goodIn_app (goodIn_of _ (by decide +kernel)) ggX2_act_X2_reckon
set_option maxRecDepth 20000 in
theorem ggX2_act_X1_lay : GoodIn wsX2_act wsX1_lay := goodIn_r _ [30, 31, 17, 23, 7, 8, 19, 20, 21, 5, 22, 48, 49, 50, 51, 52] (by decide +kernel) (by decide +kernel)
set_option maxRecDepth 20000 in
theorem gX2_act_X1_lay : GoodIn wsX2_act (wsV RX2 166 RX1 yX1_lay wsX1_lay) := goodIn_app (goodIn_of _ (by decide +kernel)) ggX2_act_X1_lay
theorem dX2_act_0 : decode cX2_act 0 = .ok (.aload_n 0, 1) := by decide +kernel
theorem dX2_act_1 : decode cX2_act 1 = .ok (.getfield 36, 3) := by decide +kernel
theorem dX2_act_4 : decode cX2_act 4 = .ok (.invokevirtual 117, 3) := by decide +kernel
theorem dX2_act_7 : decode cX2_act 7 = .ok (.iconst 2, 1) := by decide +kernel
theorem dX2_act_8 : decode cX2_act 8 = .ok (.if_icmp .ge 8, 3) := by decide +kernel
theorem dX2_act_11 : decode cX2_act 11 = .ok (.iconst 3, 1) := by decide +kernel
theorem dX2_act_12 : decode cX2_act 12 = .ok (.invokestatic 143, 3) := by decide +kernel
theorem dX2_act_15 : decode cX2_act 15 = .ok (.ireturn, 1) := by decide +kernel
theorem dX2_act_16 : decode cX2_act 16 = .ok (.aload_n 0, 1) := by decide +kernel
theorem dX2_act_17 : decode cX2_act 17 = .ok (.getfield 36, 3) := by decide +kernel
theorem dX2_act_20 : decode cX2_act 20 = .ok (.iconst 0, 1) := by decide +kernel
theorem dX2_act_21 : decode cX2_act 21 = .ok (.invokevirtual 104, 3) := by decide +kernel
theorem dX2_act_24 : decode cX2_act 24 = .ok (.lstore_n 3, 1) := by decide +kernel
theorem dX2_act_25 : decode cX2_act 25 = .ok (.aload_n 0, 1) := by decide +kernel
theorem dX2_act_26 : decode cX2_act 26 = .ok (.getfield 36, 3) := by decide +kernel
theorem dX2_act_29 : decode cX2_act 29 = .ok (.iconst 1, 1) := by decide +kernel
theorem dX2_act_30 : decode cX2_act 30 = .ok (.invokevirtual 104, 3) := by decide +kernel
theorem dX2_act_33 : decode cX2_act 33 = .ok (.lstore 5, 2) := by decide +kernel
theorem dX2_act_35 : decode cX2_act 35 = .ok (.iload_n 1, 1) := by decide +kernel
theorem dX2_act_36 : decode cX2_act 36 = .ok (.iconst 3, 1) := by decide +kernel
theorem dX2_act_37 : decode cX2_act 37 = .ok (.if_icmp .ne 14, 3) := by decide +kernel
theorem dX2_act_40 : decode cX2_act 40 = .ok (.lload_n 3, 1) := by decide +kernel
theorem dX2_act_41 : decode cX2_act 41 = .ok (.lconst 0, 1) := by decide +kernel
theorem dX2_act_42 : decode cX2_act 42 = .ok (.lcmp, 1) := by decide +kernel
theorem dX2_act_43 : decode cX2_act 43 = .ok (.ifCond .ne 8, 3) := by decide +kernel
theorem dX2_act_46 : decode cX2_act 46 = .ok (.iconst 2, 1) := by decide +kernel
theorem dX2_act_47 : decode cX2_act 47 = .ok (.invokestatic 143, 3) := by decide +kernel
theorem dX2_act_50 : decode cX2_act 50 = .ok (.ireturn, 1) := by decide +kernel
theorem dX2_act_51 : decode cX2_act 51 = .ok (.aload_n 0, 1) := by decide +kernel
theorem dX2_act_52 : decode cX2_act 52 = .ok (.getfield 36, 3) := by decide +kernel
theorem dX2_act_55 : decode cX2_act 55 = .ok (.iload_n 1, 1) := by decide +kernel
theorem dX2_act_56 : decode cX2_act 56 = .ok (.lload 5, 2) := by decide +kernel
theorem dX2_act_58 : decode cX2_act 58 = .ok (.lload_n 3, 1) := by decide +kernel
theorem dX2_act_59 : decode cX2_act 59 = .ok (.invokestatic 180, 3) := by decide +kernel
theorem dX2_act_62 : decode cX2_act 62 = .ok (.iconst 2, 1) := by decide +kernel
theorem dX2_act_63 : decode cX2_act 63 = .ok (.invokevirtual 166, 3) := by decide +kernel
theorem dX2_act_66 : decode cX2_act 66 = .ok (.iload_n 2, 1) := by decide +kernel
theorem dX2_act_67 : decode cX2_act 67 = .ok (.ireturn, 1) := by decide +kernel
theorem dX2_reckon_0 : decode cX2_reckon 0 = .ok (.iload_n 0, 1) := by decide +kernel
theorem dX2_reckon_1 : decode cX2_reckon 1 = .ok (.tableswitch 39 0 2 #[27, 31, 35], 27) := by decide +kernel
theorem dX2_reckon_28 : decode cX2_reckon 28 = .ok (.lload_n 1, 1) := by decide +kernel
theorem dX2_reckon_29 : decode cX2_reckon 29 = .ok (.lload_n 3, 1) := by decide +kernel
theorem dX2_reckon_30 : decode cX2_reckon 30 = .ok (.ladd, 1) := by decide +kernel
theorem dX2_reckon_31 : decode cX2_reckon 31 = .ok (.lreturn, 1) := by decide +kernel
theorem dX2_reckon_32 : decode cX2_reckon 32 = .ok (.lload_n 1, 1) := by decide +kernel
theorem dX2_reckon_33 : decode cX2_reckon 33 = .ok (.lload_n 3, 1) := by decide +kernel
theorem dX2_reckon_34 : decode cX2_reckon 34 = .ok (.lsub, 1) := by decide +kernel
theorem dX2_reckon_35 : decode cX2_reckon 35 = .ok (.lreturn, 1) := by decide +kernel
theorem dX2_reckon_36 : decode cX2_reckon 36 = .ok (.lload_n 1, 1) := by decide +kernel
theorem dX2_reckon_37 : decode cX2_reckon 37 = .ok (.lload_n 3, 1) := by decide +kernel
theorem dX2_reckon_38 : decode cX2_reckon 38 = .ok (.lmul, 1) := by decide +kernel
theorem dX2_reckon_39 : decode cX2_reckon 39 = .ok (.lreturn, 1) := by decide +kernel
theorem dX2_reckon_40 : decode cX2_reckon 40 = .ok (.lload_n 3, 1) := by decide +kernel
theorem dX2_reckon_41 : decode cX2_reckon 41 = .ok (.lconst 0, 1) := by decide +kernel
theorem dX2_reckon_42 : decode cX2_reckon 42 = .ok (.lcmp, 1) := by decide +kernel
theorem dX2_reckon_43 : decode cX2_reckon 43 = .ok (.ifCond .ne 7, 3) := by decide +kernel
theorem dX2_reckon_46 : decode cX2_reckon 46 = .ok (.lconst 0, 1) := by decide +kernel
theorem dX2_reckon_47 : decode cX2_reckon 47 = .ok (.goto 6, 3) := by decide +kernel
theorem dX2_reckon_50 : decode cX2_reckon 50 = .ok (.lload_n 1, 1) := by decide +kernel
theorem dX2_reckon_51 : decode cX2_reckon 51 = .ok (.lload_n 3, 1) := by decide +kernel
theorem dX2_reckon_52 : decode cX2_reckon 52 = .ok (.ldiv, 1) := by decide +kernel
theorem dX2_reckon_53 : decode cX2_reckon 53 = .ok (.lreturn, 1) := by decide +kernel
theorem dX3_init_0 : decode cX3_init 0 = .ok (.aload_n 0, 1) := by decide +kernel
theorem dX3_init_1 : decode cX3_init 1 = .ok (.invokespecial 1, 3) := by decide +kernel
end
section
theorem dX3_init_4 : decode cX3_init 4 = .ok (.aload_n 0, 1) := by decide +kernel
theorem dX3_init_5 : decode cX3_init 5 = .ok (.sipush 200, 3) := by decide +kernel
theorem dX3_init_8 : decode cX3_init 8 = .ok (.newarray .int, 2) := by decide +kernel
theorem dX3_init_10 : decode cX3_init 10 = .ok (.putfield 7, 3) := by decide +kernel
theorem dX3_init_13 : decode cX3_init 13 = .ok (.aload_n 0, 1) := by decide +kernel
theorem dX3_init_14 : decode cX3_init 14 = .ok (.bipush 50, 2) := by decide +kernel
theorem dX3_init_16 : decode cX3_init 16 = .ok (.newarray .int, 2) := by decide +kernel
theorem dX3_init_18 : decode cX3_init 18 = .ok (.putfield 13, 3) := by decide +kernel
theorem dX3_init_21 : decode cX3_init 21 = .ok (.aload_n 0, 1) := by decide +kernel
theorem dX3_init_22 : decode cX3_init 22 = .ok (.bipush 50, 2) := by decide +kernel
theorem dX3_init_24 : decode cX3_init 24 = .ok (.newarray .int, 2) := by decide +kernel
theorem dX3_init_26 : decode cX3_init 26 = .ok (.putfield 16, 3) := by decide +kernel
theorem dX3_init_29 : decode cX3_init 29 = .ok (.aload_n 0, 1) := by decide +kernel
theorem dX3_init_30 : decode cX3_init 30 = .ok (.bipush 50, 2) := by decide +kernel
theorem dX3_init_32 : decode cX3_init 32 = .ok (.newarray .int, 2) := by decide +kernel
theorem dX3_init_34 : decode cX3_init 34 = .ok (.putfield 19, 3) := by decide +kernel
theorem dX3_init_37 : decode cX3_init 37 = .ok (.aload_n 0, 1) := by decide +kernel
theorem dX3_init_38 : decode cX3_init 38 = .ok (.bipush 50, 2) := by decide +kernel
theorem dX3_init_40 : decode cX3_init 40 = .ok (.newarray .int, 2) := by decide +kernel
theorem dX3_init_42 : decode cX3_init 42 = .ok (.putfield 22, 3) := by decide +kernel
theorem dX3_init_45 : decode cX3_init 45 = .ok (.aload_n 0, 1) := by decide +kernel
theorem dX3_init_46 : decode cX3_init 46 = .ok (.bipush 10, 2) := by decide +kernel
theorem dX3_init_48 : decode cX3_init 48 = .ok (.newarray .int, 2) := by decide +kernel
theorem dX3_init_50 : decode cX3_init 50 = .ok (.putfield 25, 3) := by decide +kernel
theorem dX3_init_53 : decode cX3_init 53 = .ok (.aload_n 0, 1) := by decide +kernel
theorem dX3_init_54 : decode cX3_init 54 = .ok (.sipush 3001, 3) := by decide +kernel
theorem dX3_init_57 : decode cX3_init 57 = .ok (.newarray .long, 2) := by decide +kernel
theorem dX3_init_59 : decode cX3_init 59 = .ok (.putfield 28, 3) := by decide +kernel
theorem dX3_init_62 : decode cX3_init 62 = .ok (.aload_n 0, 1) := by decide +kernel
theorem dX3_init_63 : decode cX3_init 63 = .ok (.sipush 3001, 3) := by decide +kernel
theorem dX3_init_66 : decode cX3_init 66 = .ok (.newarray .int, 2) := by decide +kernel
theorem dX3_init_68 : decode cX3_init 68 = .ok (.putfield 32, 3) := by decide +kernel
theorem dX3_init_71 : decode cX3_init 71 = .ok (.aload_n 0, 1) := by decide +kernel
theorem dX3_init_72 : decode cX3_init 72 = .ok (.sipush 3001, 3) := by decide +kernel
theorem dX3_init_75 : decode cX3_init 75 = .ok (.newarray .int, 2) := by decide +kernel
theorem dX3_init_77 : decode cX3_init 77 = .ok (.putfield 35, 3) := by decide +kernel
theorem dX3_init_80 : decode cX3_init 80 = .ok (.aload_n 0, 1) := by decide +kernel
theorem dX3_init_81 : decode cX3_init 81 = .ok (.sipush 3001, 3) := by decide +kernel
theorem dX3_init_84 : decode cX3_init 84 = .ok (.newarray .int, 2) := by decide +kernel
theorem dX3_init_86 : decode cX3_init 86 = .ok (.putfield 38, 3) := by decide +kernel
theorem dX3_init_89 : decode cX3_init 89 = .ok (.aload_n 0, 1) := by decide +kernel
theorem dX3_init_90 : decode cX3_init 90 = .ok (.sipush 3001, 3) := by decide +kernel
theorem dX3_init_93 : decode cX3_init 93 = .ok (.newarray .int, 2) := by decide +kernel
theorem dX3_init_95 : decode cX3_init 95 = .ok (.putfield 41, 3) := by decide +kernel
theorem dX3_init_98 : decode cX3_init 98 = .ok (.aload_n 0, 1) := by decide +kernel
theorem dX3_init_99 : decode cX3_init 99 = .ok (.sipush 3001, 3) := by decide +kernel
theorem dX3_init_102 : decode cX3_init 102 = .ok (.newarray .int, 2) := by decide +kernel
theorem dX3_init_104 : decode cX3_init 104 = .ok (.putfield 44, 3) := by decide +kernel
theorem dX3_init_107 : decode cX3_init 107 = .ok (.aload_n 0, 1) := by decide +kernel
theorem dX3_init_108 : decode cX3_init 108 = .ok (.sipush 150, 3) := by decide +kernel
theorem dX3_init_111 : decode cX3_init 111 = .ok (.newarray .int, 2) := by decide +kernel
theorem dX3_init_113 : decode cX3_init 113 = .ok (.putfield 47, 3) := by decide +kernel
theorem dX3_init_116 : decode cX3_init 116 = .ok (.aload_n 0, 1) := by decide +kernel
theorem dX3_init_117 : decode cX3_init 117 = .ok (.sipush 150, 3) := by decide +kernel
theorem dX3_init_120 : decode cX3_init 120 = .ok (.newarray .int, 2) := by decide +kernel
theorem dX3_init_122 : decode cX3_init 122 = .ok (.putfield 50, 3) := by decide +kernel
theorem dX3_init_125 : decode cX3_init 125 = .ok (.aload_n 0, 1) := by decide +kernel
theorem dX3_init_126 : decode cX3_init 126 = .ok (.sipush 150, 3) := by decide +kernel
theorem dX3_init_129 : decode cX3_init 129 = .ok (.newarray .int, 2) := by decide +kernel
theorem dX3_init_131 : decode cX3_init 131 = .ok (.putfield 53, 3) := by decide +kernel
theorem dX3_init_134 : decode cX3_init 134 = .ok (.aload_n 0, 1) := by decide +kernel
theorem dX3_init_135 : decode cX3_init 135 = .ok (.sipush 150, 3) := by decide +kernel
theorem dX3_init_138 : decode cX3_init 138 = .ok (.newarray .int, 2) := by decide +kernel
theorem dX3_init_140 : decode cX3_init 140 = .ok (.putfield 56, 3) := by decide +kernel
theorem dX3_init_143 : decode cX3_init 143 = .ok (.aload_n 0, 1) := by decide +kernel
theorem dX3_init_144 : decode cX3_init 144 = .ok (.sipush 150, 3) := by decide +kernel
theorem dX3_init_147 : decode cX3_init 147 = .ok (.newarray .boolean, 2) := by decide +kernel
theorem dX3_init_149 : decode cX3_init 149 = .ok (.putfield 59, 3) := by decide +kernel
theorem dX3_init_152 : decode cX3_init 152 = .ok (.aload_n 0, 1) := by decide +kernel
theorem dX3_init_153 : decode cX3_init 153 = .ok (.sipush 150, 3) := by decide +kernel
theorem dX3_init_156 : decode cX3_init 156 = .ok (.newarray .int, 2) := by decide +kernel
theorem dX3_init_158 : decode cX3_init 158 = .ok (.putfield 63, 3) := by decide +kernel
theorem dX3_init_161 : decode cX3_init 161 = .ok (.aload_n 0, 1) := by decide +kernel
theorem dX3_init_162 : decode cX3_init 162 = .ok (.sipush 150, 3) := by decide +kernel
theorem dX3_init_165 : decode cX3_init 165 = .ok (.newarray .int, 2) := by decide +kernel
theorem dX3_init_167 : decode cX3_init 167 = .ok (.putfield 66, 3) := by decide +kernel
theorem dX3_init_170 : decode cX3_init 170 = .ok (.aload_n 0, 1) := by decide +kernel
theorem dX3_init_171 : decode cX3_init 171 = .ok (.sipush 150, 3) := by decide +kernel
theorem dX3_init_174 : decode cX3_init 174 = .ok (.newarray .int, 2) := by decide +kernel
theorem dX3_init_176 : decode cX3_init 176 = .ok (.putfield 69, 3) := by decide +kernel
theorem dX3_init_179 : decode cX3_init 179 = .ok (.aload_n 0, 1) := by decide +kernel
theorem dX3_init_180 : decode cX3_init 180 = .ok (.sipush 150, 3) := by decide +kernel
theorem dX3_init_183 : decode cX3_init 183 = .ok (.newarray .int, 2) := by decide +kernel
theorem dX3_init_185 : decode cX3_init 185 = .ok (.putfield 72, 3) := by decide +kernel
theorem dX3_init_188 : decode cX3_init 188 = .ok (.aload_n 0, 1) := by decide +kernel
theorem dX3_init_189 : decode cX3_init 189 = .ok (.sipush 150, 3) := by decide +kernel
theorem dX3_init_192 : decode cX3_init 192 = .ok (.newarray .int, 2) := by decide +kernel
theorem dX3_init_194 : decode cX3_init 194 = .ok (.putfield 75, 3) := by decide +kernel
theorem dX3_init_197 : decode cX3_init 197 = .ok (.aload_n 0, 1) := by decide +kernel
theorem dX3_init_198 : decode cX3_init 198 = .ok (.sipush 150, 3) := by decide +kernel
theorem dX3_init_201 : decode cX3_init 201 = .ok (.newarray .int, 2) := by decide +kernel
theorem dX3_init_203 : decode cX3_init 203 = .ok (.putfield 78, 3) := by decide +kernel
theorem dX3_init_206 : decode cX3_init 206 = .ok (.iconst 0, 1) := by decide +kernel
theorem dX3_init_207 : decode cX3_init 207 = .ok (.istore_n 1, 1) := by decide +kernel
theorem dX3_init_208 : decode cX3_init 208 = .ok (.iload_n 1, 1) := by decide +kernel
theorem dX3_init_209 : decode cX3_init 209 = .ok (.bipush 10, 2) := by decide +kernel
theorem dX3_init_211 : decode cX3_init 211 = .ok (.if_icmp .ge 16, 3) := by decide +kernel
theorem dX3_init_214 : decode cX3_init 214 = .ok (.aload_n 0, 1) := by decide +kernel
theorem dX3_init_215 : decode cX3_init 215 = .ok (.getfield 25, 3) := by decide +kernel
theorem dX3_init_218 : decode cX3_init 218 = .ok (.iload_n 1, 1) := by decide +kernel
theorem dX3_init_219 : decode cX3_init 219 = .ok (.iconst (-1), 1) := by decide +kernel
theorem dX3_init_220 : decode cX3_init 220 = .ok (.iastore, 1) := by decide +kernel
theorem dX3_init_221 : decode cX3_init 221 = .ok (.iinc 1 1, 3) := by decide +kernel
theorem dX3_init_224 : decode cX3_init 224 = .ok (.goto (-16), 3) := by decide +kernel
theorem dX3_init_227 : decode cX3_init 227 = .ok (.aload_n 0, 1) := by decide +kernel
theorem dX3_init_228 : decode cX3_init 228 = .ok (.getfield 13, 3) := by decide +kernel
theorem dX3_init_231 : decode cX3_init 231 = .ok (.iconst 0, 1) := by decide +kernel
theorem dX3_init_232 : decode cX3_init 232 = .ok (.iconst 2, 1) := by decide +kernel
theorem dX3_init_233 : decode cX3_init 233 = .ok (.iastore, 1) := by decide +kernel
theorem dX3_init_234 : decode cX3_init 234 = .ok (.aload_n 0, 1) := by decide +kernel
theorem dX3_init_235 : decode cX3_init 235 = .ok (.getfield 13, 3) := by decide +kernel
theorem dX3_init_238 : decode cX3_init 238 = .ok (.iconst 1, 1) := by decide +kernel
theorem dX3_init_239 : decode cX3_init 239 = .ok (.iconst 3, 1) := by decide +kernel
theorem dX3_init_240 : decode cX3_init 240 = .ok (.iastore, 1) := by decide +kernel
theorem dX3_init_241 : decode cX3_init 241 = .ok (.aload_n 0, 1) := by decide +kernel
theorem dX3_init_242 : decode cX3_init 242 = .ok (.iconst 2, 1) := by decide +kernel
theorem dX3_init_243 : decode cX3_init 243 = .ok (.putfield 81, 3) := by decide +kernel
theorem dX3_init_246 : decode cX3_init 246 = .ok (.return_, 1) := by decide +kernel
theorem dX3_in_0 : decode cX3_in 0 = .ok (.iload_n 0, 1) := by decide +kernel
theorem dX3_in_1 : decode cX3_in 1 = .ok (.iload_n 1, 1) := by decide +kernel
theorem dX3_in_2 : decode cX3_in 2 = .ok (.if_icmp .lt 12, 3) := by decide +kernel
theorem dX3_in_5 : decode cX3_in 5 = .ok (.iload_n 0, 1) := by decide +kernel
theorem dX3_in_6 : decode cX3_in 6 = .ok (.iload_n 2, 1) := by decide +kernel
theorem dX3_in_7 : decode cX3_in 7 = .ok (.if_icmp .gt 7, 3) := by decide +kernel
theorem dX3_in_10 : decode cX3_in 10 = .ok (.iconst 1, 1) := by decide +kernel
theorem dX3_in_11 : decode cX3_in 11 = .ok (.goto 4, 3) := by decide +kernel
theorem dX3_in_14 : decode cX3_in 14 = .ok (.iconst 0, 1) := by decide +kernel
theorem dX3_in_15 : decode cX3_in 15 = .ok (.ireturn, 1) := by decide +kernel
set_option maxRecDepth 20000 in
theorem ggX3_isReader_X3_in : GoodIn wsX3_isReader wsX3_in := goodIn_r _ [5] (by decide +kernel) (by decide +kernel)
set_option maxRecDepth 20000 in
theorem gX3_isReader_X3_in : GoodIn wsX3_isReader (va_wsS RX3 85 yX3_in wsX3_in) := goodIn_app (goodIn_of _ (by decide +kernel)) ggX3_isReader_X3_in
theorem dX3_isReader_0 : decode cX3_isReader 0 = .ok (.iload_n 1, 1) := by decide +kernel
theorem dX3_isReader_1 : decode cX3_isReader 1 = .ok (.iconst 0, 1) := by decide +kernel
theorem dX3_isReader_2 : decode cX3_isReader 2 = .ok (.aload_n 0, 1) := by decide +kernel
theorem dX3_isReader_3 : decode cX3_isReader 3 = .ok (.getfield 81, 3) := by decide +kernel
theorem dX3_isReader_6 : decode cX3_isReader 6 = .ok (.iconst 1, 1) := by decide +kernel
theorem dX3_isReader_7 : decode cX3_isReader 7 = .ok (.isub, 1) := by decide +kernel
theorem dX3_isReader_8 : decode cX3_isReader 8 = .ok (.invokestatic 85, 3) := by decide +kernel
theorem dX3_isReader_11 : decode cX3_isReader 11 = .ok (.ireturn, 1) := by decide +kernel
set_option maxRecDepth 20000 in
theorem ggX3_text_X3_in : GoodIn wsX3_text wsX3_in := goodIn_r _ [6] (by decide +kernel) (by decide +kernel)
set_option maxRecDepth 20000 in
theorem gX3_text_X3_in : GoodIn wsX3_text (va_wsS RX3 85 yX3_in wsX3_in) := goodIn_app (goodIn_of _ (by decide +kernel)) ggX3_text_X3_in
theorem dX3_text_0 : decode cX3_text 0 = .ok (.iload_n 1, 1) := by decide +kernel
theorem dX3_text_1 : decode cX3_text 1 = .ok (.iconst 1, 1) := by decide +kernel
theorem dX3_text_2 : decode cX3_text 2 = .ok (.bipush 8, 2) := by decide +kernel
theorem dX3_text_4 : decode cX3_text 4 = .ok (.invokestatic 85, 3) := by decide +kernel
theorem dX3_text_7 : decode cX3_text 7 = .ok (.ifCond .ne 6, 3) := by decide +kernel
theorem dX3_text_10 : decode cX3_text 10 = .ok (.bipush (-2), 2) := by decide +kernel
theorem dX3_text_12 : decode cX3_text 12 = .ok (.ireturn, 1) := by decide +kernel
theorem dX3_text_13 : decode cX3_text 13 = .ok (.aload_n 0, 1) := by decide +kernel
theorem dX3_text_14 : decode cX3_text 14 = .ok (.getfield 89, 3) := by decide +kernel
theorem dX3_text_17 : decode cX3_text 17 = .ok (.iload_n 1, 1) := by decide +kernel
theorem dX3_text_18 : decode cX3_text 18 = .ok (.iadd, 1) := by decide +kernel
theorem dX3_text_19 : decode cX3_text 19 = .ok (.sipush 200, 3) := by decide +kernel
theorem dX3_text_22 : decode cX3_text 22 = .ok (.if_icmp .le 6, 3) := by decide +kernel
theorem dX3_text_25 : decode cX3_text 25 = .ok (.bipush (-3), 2) := by decide +kernel
theorem dX3_text_27 : decode cX3_text 27 = .ok (.ireturn, 1) := by decide +kernel
theorem dX3_text_28 : decode cX3_text 28 = .ok (.iconst 0, 1) := by decide +kernel
theorem dX3_text_29 : decode cX3_text 29 = .ok (.istore 4, 2) := by decide +kernel
theorem dX3_text_31 : decode cX3_text 31 = .ok (.iload 4, 2) := by decide +kernel
theorem dX3_text_33 : decode cX3_text 33 = .ok (.iload_n 1, 1) := by decide +kernel
theorem dX3_text_34 : decode cX3_text 34 = .ok (.if_icmp .ge 39, 3) := by decide +kernel
theorem dX3_text_37 : decode cX3_text 37 = .ok (.aload_n 0, 1) := by decide +kernel
theorem dX3_text_38 : decode cX3_text 38 = .ok (.getfield 7, 3) := by decide +kernel
theorem dX3_text_41 : decode cX3_text 41 = .ok (.aload_n 0, 1) := by decide +kernel
theorem dX3_text_42 : decode cX3_text 42 = .ok (.getfield 89, 3) := by decide +kernel
theorem dX3_text_45 : decode cX3_text 45 = .ok (.lload_n 2, 1) := by decide +kernel
theorem dX3_text_46 : decode cX3_text 46 = .ok (.bipush 8, 2) := by decide +kernel
theorem dX3_text_48 : decode cX3_text 48 = .ok (.iload 4, 2) := by decide +kernel
theorem dX3_text_50 : decode cX3_text 50 = .ok (.imul, 1) := by decide +kernel
theorem dX3_text_51 : decode cX3_text 51 = .ok (.lshr, 1) := by decide +kernel
theorem dX3_text_52 : decode cX3_text 52 = .ok (.l2i, 1) := by decide +kernel
theorem dX3_text_53 : decode cX3_text 53 = .ok (.bipush 127, 2) := by decide +kernel
theorem dX3_text_55 : decode cX3_text 55 = .ok (.iand, 1) := by decide +kernel
theorem dX3_text_56 : decode cX3_text 56 = .ok (.iastore, 1) := by decide +kernel
theorem dX3_text_57 : decode cX3_text 57 = .ok (.aload_n 0, 1) := by decide +kernel
theorem dX3_text_58 : decode cX3_text 58 = .ok (.dup, 1) := by decide +kernel
theorem dX3_text_59 : decode cX3_text 59 = .ok (.getfield 89, 3) := by decide +kernel
theorem dX3_text_62 : decode cX3_text 62 = .ok (.iconst 1, 1) := by decide +kernel
theorem dX3_text_63 : decode cX3_text 63 = .ok (.iadd, 1) := by decide +kernel
theorem dX3_text_64 : decode cX3_text 64 = .ok (.putfield 89, 3) := by decide +kernel
theorem dX3_text_67 : decode cX3_text 67 = .ok (.iinc 4 1, 3) := by decide +kernel
theorem dX3_text_70 : decode cX3_text 70 = .ok (.goto (-39), 3) := by decide +kernel
theorem dX3_text_73 : decode cX3_text 73 = .ok (.aload_n 0, 1) := by decide +kernel
theorem dX3_text_74 : decode cX3_text 74 = .ok (.getfield 89, 3) := by decide +kernel
theorem dX3_text_77 : decode cX3_text 77 = .ok (.ireturn, 1) := by decide +kernel
theorem dX3_clear_0 : decode cX3_clear 0 = .ok (.aload_n 0, 1) := by decide +kernel
theorem dX3_clear_1 : decode cX3_clear 1 = .ok (.getfield 89, 3) := by decide +kernel
theorem dX3_clear_4 : decode cX3_clear 4 = .ok (.istore_n 1, 1) := by decide +kernel
theorem dX3_clear_5 : decode cX3_clear 5 = .ok (.aload_n 0, 1) := by decide +kernel
theorem dX3_clear_6 : decode cX3_clear 6 = .ok (.iconst 0, 1) := by decide +kernel
theorem dX3_clear_7 : decode cX3_clear 7 = .ok (.putfield 89, 3) := by decide +kernel
theorem dX3_clear_10 : decode cX3_clear 10 = .ok (.iload_n 1, 1) := by decide +kernel
theorem dX3_clear_11 : decode cX3_clear 11 = .ok (.ireturn, 1) := by decide +kernel
set_option maxRecDepth 20000 in
theorem ggX3_reader_X3_in : GoodIn wsX3_reader wsX3_in := goodIn_r _ [8] (by decide +kernel) (by decide +kernel)
set_option maxRecDepth 20000 in
theorem gX3_reader_X3_in : GoodIn wsX3_reader (va_wsS RX3 85 yX3_in wsX3_in) := goodIn_app (goodIn_of _ (by decide +kernel)) ggX3_reader_X3_in
set_option maxRecDepth 20000 in
theorem ggX3_reader_X3_isReader : GoodIn wsX3_reader wsX3_isReader := goodIn_r _ [12, 1, 5, 6, 7, 8, 13, 14, 15, 16, 17, 18, 19, 20, 21, 22, 23, 24, 25, 26, 27, 28, 29, 30, 31, 32, 33, 34, 35, 36, 37, 38, 39, 40, 41, 42, 43, 44, 45, 46, 47, 48] (by decide +kernel) (by decide +kernel)
set_option maxRecDepth 20000 in
theorem gX3_reader_X3_isReader : GoodIn wsX3_reader (wsV RX3 92 RX3 yX3_isReader wsX3_isReader) := goodIn_app (goodIn_of _ (by decide +kernel)) ggX3_reader_X3_isReader
theorem dX3_reader_0 : decode cX3_reader 0 = .ok (.iload_n 1, 1) := by decide +kernel
theorem dX3_reader_1 : decode cX3_reader 1 = .ok (.iconst 0, 1) := by decide +kernel
theorem dX3_reader_2 : decode cX3_reader 2 = .ok (.bipush 15, 2) := by decide +kernel
theorem dX3_reader_4 : decode cX3_reader 4 = .ok (.invokestatic 85, 3) := by decide +kernel
theorem dX3_reader_7 : decode cX3_reader 7 = .ok (.ifCond .ne 6, 3) := by decide +kernel
theorem dX3_reader_10 : decode cX3_reader 10 = .ok (.bipush (-2), 2) := by decide +kernel
theorem dX3_reader_12 : decode cX3_reader 12 = .ok (.ireturn, 1) := by decide +kernel
theorem dX3_reader_13 : decode cX3_reader 13 = .ok (.iload_n 1, 1) := by decide +kernel
theorem dX3_reader_14 : decode cX3_reader 14 = .ok (.iconst 4, 1) := by decide +kernel
theorem dX3_reader_15 : decode cX3_reader 15 = .ok (.bipush 9, 2) := by decide +kernel
theorem dX3_reader_17 : decode cX3_reader 17 = .ok (.invokestatic 85, 3) := by decide +kernel
theorem dX3_reader_20 : decode cX3_reader 20 = .ok (.ifCond .ne 9, 3) := by decide +kernel
theorem dX3_reader_23 : decode cX3_reader 23 = .ok (.iload_n 1, 1) := by decide +kernel
theorem dX3_reader_24 : decode cX3_reader 24 = .ok (.bipush 11, 2) := by decide +kernel
theorem dX3_reader_26 : decode cX3_reader 26 = .ok (.if_icmp .ne 7, 3) := by decide +kernel
theorem dX3_reader_29 : decode cX3_reader 29 = .ok (.iconst 1, 1) := by decide +kernel
theorem dX3_reader_30 : decode cX3_reader 30 = .ok (.goto 4, 3) := by decide +kernel
theorem dX3_reader_33 : decode cX3_reader 33 = .ok (.iconst 0, 1) := by decide +kernel
theorem dX3_reader_34 : decode cX3_reader 34 = .ok (.istore 4, 2) := by decide +kernel
theorem dX3_reader_36 : decode cX3_reader 36 = .ok (.iload 4, 2) := by decide +kernel
theorem dX3_reader_38 : decode cX3_reader 38 = .ok (.ifCond .eq 11, 3) := by decide +kernel
theorem dX3_reader_41 : decode cX3_reader 41 = .ok (.aload_n 0, 1) := by decide +kernel
theorem dX3_reader_42 : decode cX3_reader 42 = .ok (.iload_n 2, 1) := by decide +kernel
theorem dX3_reader_43 : decode cX3_reader 43 = .ok (.invokevirtual 92, 3) := by decide +kernel
theorem dX3_reader_46 : decode cX3_reader 46 = .ok (.ifCond .eq 21, 3) := by decide +kernel
theorem dX3_reader_49 : decode cX3_reader 49 = .ok (.iload_n 1, 1) := by decide +kernel
theorem dX3_reader_50 : decode cX3_reader 50 = .ok (.iconst 4, 1) := by decide +kernel
theorem dX3_reader_51 : decode cX3_reader 51 = .ok (.if_icmp .eq 8, 3) := by decide +kernel
theorem dX3_reader_54 : decode cX3_reader 54 = .ok (.iload_n 1, 1) := by decide +kernel
theorem dX3_reader_55 : decode cX3_reader 55 = .ok (.iconst 5, 1) := by decide +kernel
theorem dX3_reader_56 : decode cX3_reader 56 = .ok (.if_icmp .ne 14, 3) := by decide +kernel
theorem dX3_reader_59 : decode cX3_reader 59 = .ok (.aload_n 0, 1) := by decide +kernel
theorem dX3_reader_60 : decode cX3_reader 60 = .ok (.iload_n 3, 1) := by decide +kernel
theorem dX3_reader_61 : decode cX3_reader 61 = .ok (.invokevirtual 92, 3) := by decide +kernel
theorem dX3_reader_64 : decode cX3_reader 64 = .ok (.ifCond .ne 6, 3) := by decide +kernel
theorem dX3_reader_67 : decode cX3_reader 67 = .ok (.bipush (-2), 2) := by decide +kernel
theorem dX3_reader_69 : decode cX3_reader 69 = .ok (.ireturn, 1) := by decide +kernel
theorem dX3_reader_70 : decode cX3_reader 70 = .ok (.iload_n 1, 1) := by decide +kernel
theorem dX3_reader_71 : decode cX3_reader 71 = .ok (.bipush 10, 2) := by decide +kernel
theorem dX3_reader_73 : decode cX3_reader 73 = .ok (.if_icmp .ne 13, 3) := by decide +kernel
theorem dX3_reader_76 : decode cX3_reader 76 = .ok (.iload_n 2, 1) := by decide +kernel
theorem dX3_reader_77 : decode cX3_reader 77 = .ok (.iconst 0, 1) := by decide +kernel
theorem dX3_reader_78 : decode cX3_reader 78 = .ok (.bipush 9, 2) := by decide +kernel
theorem dX3_reader_80 : decode cX3_reader 80 = .ok (.invokestatic 85, 3) := by decide +kernel
theorem dX3_reader_83 : decode cX3_reader 83 = .ok (.ifCond .eq 18, 3) := by decide +kernel
theorem dX3_reader_86 : decode cX3_reader 86 = .ok (.iload_n 1, 1) := by decide +kernel
theorem dX3_reader_87 : decode cX3_reader 87 = .ok (.bipush 15, 2) := by decide +kernel
theorem dX3_reader_89 : decode cX3_reader 89 = .ok (.if_icmp .ne 15, 3) := by decide +kernel
theorem dX3_reader_92 : decode cX3_reader 92 = .ok (.iload_n 2, 1) := by decide +kernel
theorem dX3_reader_93 : decode cX3_reader 93 = .ok (.iconst 0, 1) := by decide +kernel
theorem dX3_reader_94 : decode cX3_reader 94 = .ok (.iconst 3, 1) := by decide +kernel
theorem dX3_reader_95 : decode cX3_reader 95 = .ok (.invokestatic 85, 3) := by decide +kernel
theorem dX3_reader_98 : decode cX3_reader 98 = .ok (.ifCond .ne 6, 3) := by decide +kernel
theorem dX3_reader_101 : decode cX3_reader 101 = .ok (.bipush (-2), 2) := by decide +kernel
theorem dX3_reader_103 : decode cX3_reader 103 = .ok (.ireturn, 1) := by decide +kernel
theorem dX3_reader_104 : decode cX3_reader 104 = .ok (.aload_n 0, 1) := by decide +kernel
theorem dX3_reader_105 : decode cX3_reader 105 = .ok (.getfield 81, 3) := by decide +kernel
theorem dX3_reader_108 : decode cX3_reader 108 = .ok (.bipush 50, 2) := by decide +kernel
theorem dX3_reader_110 : decode cX3_reader 110 = .ok (.if_icmp .ne 6, 3) := by decide +kernel
theorem dX3_reader_113 : decode cX3_reader 113 = .ok (.bipush (-3), 2) := by decide +kernel
theorem dX3_reader_115 : decode cX3_reader 115 = .ok (.ireturn, 1) := by decide +kernel
theorem dX3_reader_116 : decode cX3_reader 116 = .ok (.aload_n 0, 1) := by decide +kernel
theorem dX3_reader_117 : decode cX3_reader 117 = .ok (.getfield 13, 3) := by decide +kernel
theorem dX3_reader_120 : decode cX3_reader 120 = .ok (.aload_n 0, 1) := by decide +kernel
theorem dX3_reader_121 : decode cX3_reader 121 = .ok (.getfield 81, 3) := by decide +kernel
theorem dX3_reader_124 : decode cX3_reader 124 = .ok (.iload_n 1, 1) := by decide +kernel
theorem dX3_reader_125 : decode cX3_reader 125 = .ok (.iastore, 1) := by decide +kernel
theorem dX3_reader_126 : decode cX3_reader 126 = .ok (.aload_n 0, 1) := by decide +kernel
theorem dX3_reader_127 : decode cX3_reader 127 = .ok (.getfield 16, 3) := by decide +kernel
theorem dX3_reader_130 : decode cX3_reader 130 = .ok (.aload_n 0, 1) := by decide +kernel
theorem dX3_reader_131 : decode cX3_reader 131 = .ok (.getfield 81, 3) := by decide +kernel
theorem dX3_reader_134 : decode cX3_reader 134 = .ok (.iload_n 2, 1) := by decide +kernel
theorem dX3_reader_135 : decode cX3_reader 135 = .ok (.iastore, 1) := by decide +kernel
theorem dX3_reader_136 : decode cX3_reader 136 = .ok (.aload_n 0, 1) := by decide +kernel
theorem dX3_reader_137 : decode cX3_reader 137 = .ok (.getfield 19, 3) := by decide +kernel
theorem dX3_reader_140 : decode cX3_reader 140 = .ok (.aload_n 0, 1) := by decide +kernel
theorem dX3_reader_141 : decode cX3_reader 141 = .ok (.getfield 81, 3) := by decide +kernel
theorem dX3_reader_144 : decode cX3_reader 144 = .ok (.iload_n 3, 1) := by decide +kernel
theorem dX3_reader_145 : decode cX3_reader 145 = .ok (.iastore, 1) := by decide +kernel
theorem dX3_reader_146 : decode cX3_reader 146 = .ok (.aload_n 0, 1) := by decide +kernel
theorem dX3_reader_147 : decode cX3_reader 147 = .ok (.dup, 1) := by decide +kernel
theorem dX3_reader_148 : decode cX3_reader 148 = .ok (.getfield 81, 3) := by decide +kernel
theorem dX3_reader_151 : decode cX3_reader 151 = .ok (.iconst 1, 1) := by decide +kernel
theorem dX3_reader_152 : decode cX3_reader 152 = .ok (.iadd, 1) := by decide +kernel
theorem dX3_reader_153 : decode cX3_reader 153 = .ok (.putfield 81, 3) := by decide +kernel
theorem dX3_reader_156 : decode cX3_reader 156 = .ok (.aload_n 0, 1) := by decide +kernel
theorem dX3_reader_157 : decode cX3_reader 157 = .ok (.getfield 81, 3) := by decide +kernel
theorem dX3_reader_160 : decode cX3_reader 160 = .ok (.iconst 1, 1) := by decide +kernel
theorem dX3_reader_161 : decode cX3_reader 161 = .ok (.isub, 1) := by decide +kernel
theorem dX3_reader_162 : decode cX3_reader 162 = .ok (.ireturn, 1) := by decide +kernel
set_option maxRecDepth 20000 in
theorem ggX3_name_X3_in : GoodIn wsX3_name wsX3_in := goodIn_r _ [5] (by decide +kernel) (by decide +kernel)
set_option maxRecDepth 20000 in
theorem gX3_name_X3_in : GoodIn wsX3_name (va_wsS RX3 85 yX3_in wsX3_in) := goodIn_app (goodIn_of _ (by decide +kernel)) ggX3_name_X3_in
set_option maxRecDepth 20000 in
theorem ggX3_name_X3_isReader : GoodIn wsX3_name wsX3_isReader := goodIn_r _ [9, 10, 2, 3, 4, 5, 11, 12, 13, 14, 15, 16, 17, 18, 19, 20, 21, 22, 23, 24, 25, 26, 27, 28, 29, 30, 31, 32, 33, 34, 35, 36, 37, 38, 39, 40, 41, 42, 43, 44, 45, 46] (by decide +kernel) (by decide +kernel)
set_option maxRecDepth 20000 in
theorem gX3_name_X3_isReader : GoodIn wsX3_name (wsV RX3 92 RX3 yX3_isReader wsX3_isReader) := goodIn_app (goodIn_of _ (by decide +kernel)) ggX3_name_X3_isReader
theorem dX3_name_0 : decode cX3_name 0 = .ok (.iload_n 1, 1) := by decide +kernel
theorem dX3_name_1 : decode cX3_name 1 = .ok (.iconst 0, 1) := by decide +kernel
theorem dX3_name_2 : decode cX3_name 2 = .ok (.bipush 9, 2) := by decide +kernel
theorem dX3_name_4 : decode cX3_name 4 = .ok (.invokestatic 85, 3) := by decide +kernel
theorem dX3_name_7 : decode cX3_name 7 = .ok (.ifCond .eq 16, 3) := by decide +kernel
theorem dX3_name_10 : decode cX3_name 10 = .ok (.iload_n 2, 1) := by decide +kernel
theorem dX3_name_11 : decode cX3_name 11 = .ok (.iconst (-1), 1) := by decide +kernel
theorem dX3_name_12 : decode cX3_name 12 = .ok (.if_icmp .eq 14, 3) := by decide +kernel
theorem dX3_name_15 : decode cX3_name 15 = .ok (.aload_n 0, 1) := by decide +kernel
theorem dX3_name_16 : decode cX3_name 16 = .ok (.iload_n 2, 1) := by decide +kernel
theorem dX3_name_17 : decode cX3_name 17 = .ok (.invokevirtual 92, 3) := by decide +kernel
theorem dX3_name_20 : decode cX3_name 20 = .ok (.ifCond .ne 6, 3) := by decide +kernel
theorem dX3_name_23 : decode cX3_name 23 = .ok (.bipush (-2), 2) := by decide +kernel
theorem dX3_name_25 : decode cX3_name 25 = .ok (.ireturn, 1) := by decide +kernel
theorem dX3_name_26 : decode cX3_name 26 = .ok (.aload_n 0, 1) := by decide +kernel
theorem dX3_name_27 : decode cX3_name 27 = .ok (.getfield 25, 3) := by decide +kernel
theorem dX3_name_30 : decode cX3_name 30 = .ok (.iload_n 1, 1) := by decide +kernel
theorem dX3_name_31 : decode cX3_name 31 = .ok (.iaload, 1) := by decide +kernel
theorem dX3_name_32 : decode cX3_name 32 = .ok (.iconst (-1), 1) := by decide +kernel
theorem dX3_name_33 : decode cX3_name 33 = .ok (.if_icmp .ne 7, 3) := by decide +kernel
theorem dX3_name_36 : decode cX3_name 36 = .ok (.iconst 0, 1) := by decide +kernel
theorem dX3_name_37 : decode cX3_name 37 = .ok (.goto 4, 3) := by decide +kernel
theorem dX3_name_40 : decode cX3_name 40 = .ok (.iconst 1, 1) := by decide +kernel
theorem dX3_name_41 : decode cX3_name 41 = .ok (.istore_n 3, 1) := by decide +kernel
theorem dX3_name_42 : decode cX3_name 42 = .ok (.aload_n 0, 1) := by decide +kernel
theorem dX3_name_43 : decode cX3_name 43 = .ok (.getfield 25, 3) := by decide +kernel
theorem dX3_name_46 : decode cX3_name 46 = .ok (.iload_n 1, 1) := by decide +kernel
theorem dX3_name_47 : decode cX3_name 47 = .ok (.iload_n 2, 1) := by decide +kernel
theorem dX3_name_48 : decode cX3_name 48 = .ok (.iastore, 1) := by decide +kernel
theorem dX3_name_49 : decode cX3_name 49 = .ok (.iload_n 3, 1) := by decide +kernel
theorem dX3_name_50 : decode cX3_name 50 = .ok (.ireturn, 1) := by decide +kernel
theorem dX3_begin_0 : decode cX3_begin 0 = .ok (.aload_n 0, 1) := by decide +kernel
theorem dX3_begin_1 : decode cX3_begin 1 = .ok (.getfield 96, 3) := by decide +kernel
theorem dX3_begin_4 : decode cX3_begin 4 = .ok (.sipush 150, 3) := by decide +kernel
theorem dX3_begin_7 : decode cX3_begin 7 = .ok (.if_icmp .ne 11, 3) := by decide +kernel
theorem dX3_begin_10 : decode cX3_begin 10 = .ok (.aload_n 0, 1) := by decide +kernel
theorem dX3_begin_11 : decode cX3_begin 11 = .ok (.iconst 4, 1) := by decide +kernel
theorem dX3_begin_12 : decode cX3_begin 12 = .ok (.putfield 99, 3) := by decide +kernel
theorem dX3_begin_15 : decode cX3_begin 15 = .ok (.goto 176, 3) := by decide +kernel
theorem dX3_begin_18 : decode cX3_begin 18 = .ok (.aload_n 0, 1) := by decide +kernel
theorem dX3_begin_19 : decode cX3_begin 19 = .ok (.getfield 102, 3) := by decide +kernel
theorem dX3_begin_22 : decode cX3_begin 22 = .ok (.sipush 3000, 3) := by decide +kernel
theorem dX3_begin_25 : decode cX3_begin 25 = .ok (.if_icmp .ne 11, 3) := by decide +kernel
theorem dX3_begin_28 : decode cX3_begin 28 = .ok (.aload_n 0, 1) := by decide +kernel
theorem dX3_begin_29 : decode cX3_begin 29 = .ok (.iconst 5, 1) := by decide +kernel
theorem dX3_begin_30 : decode cX3_begin 30 = .ok (.putfield 99, 3) := by decide +kernel
theorem dX3_begin_33 : decode cX3_begin 33 = .ok (.goto 158, 3) := by decide +kernel
theorem dX3_begin_36 : decode cX3_begin 36 = .ok (.aload_n 0, 1) := by decide +kernel
theorem dX3_begin_37 : decode cX3_begin 37 = .ok (.dup, 1) := by decide +kernel
theorem dX3_begin_38 : decode cX3_begin 38 = .ok (.getfield 102, 3) := by decide +kernel
theorem dX3_begin_41 : decode cX3_begin 41 = .ok (.iconst 1, 1) := by decide +kernel
theorem dX3_begin_42 : decode cX3_begin 42 = .ok (.iadd, 1) := by decide +kernel
theorem dX3_begin_43 : decode cX3_begin 43 = .ok (.putfield 102, 3) := by decide +kernel
theorem dX3_begin_46 : decode cX3_begin 46 = .ok (.aload_n 0, 1) := by decide +kernel
theorem dX3_begin_47 : decode cX3_begin 47 = .ok (.dup, 1) := by decide +kernel
theorem dX3_begin_48 : decode cX3_begin 48 = .ok (.getfield 105, 3) := by decide +kernel
theorem dX3_begin_51 : decode cX3_begin 51 = .ok (.iconst 1, 1) := by decide +kernel
theorem dX3_begin_52 : decode cX3_begin 52 = .ok (.iadd, 1) := by decide +kernel
theorem dX3_begin_53 : decode cX3_begin 53 = .ok (.putfield 105, 3) := by decide +kernel
theorem dX3_begin_56 : decode cX3_begin 56 = .ok (.aload_n 0, 1) := by decide +kernel
theorem dX3_begin_57 : decode cX3_begin 57 = .ok (.getfield 22, 3) := by decide +kernel
theorem dX3_begin_60 : decode cX3_begin 60 = .ok (.iload_n 1, 1) := by decide +kernel
theorem dX3_begin_61 : decode cX3_begin 61 = .ok (.dup2, 1) := by decide +kernel
theorem dX3_begin_62 : decode cX3_begin 62 = .ok (.iaload, 1) := by decide +kernel
theorem dX3_begin_63 : decode cX3_begin 63 = .ok (.iconst 1, 1) := by decide +kernel
theorem dX3_begin_64 : decode cX3_begin 64 = .ok (.iadd, 1) := by decide +kernel
theorem dX3_begin_65 : decode cX3_begin 65 = .ok (.iastore, 1) := by decide +kernel
theorem dX3_begin_66 : decode cX3_begin 66 = .ok (.aload_n 0, 1) := by decide +kernel
theorem dX3_begin_67 : decode cX3_begin 67 = .ok (.getfield 47, 3) := by decide +kernel
theorem dX3_begin_70 : decode cX3_begin 70 = .ok (.aload_n 0, 1) := by decide +kernel
theorem dX3_begin_71 : decode cX3_begin 71 = .ok (.getfield 96, 3) := by decide +kernel
theorem dX3_begin_74 : decode cX3_begin 74 = .ok (.iload_n 1, 1) := by decide +kernel
theorem dX3_begin_75 : decode cX3_begin 75 = .ok (.iastore, 1) := by decide +kernel
theorem dX3_begin_76 : decode cX3_begin 76 = .ok (.aload_n 0, 1) := by decide +kernel
theorem dX3_begin_77 : decode cX3_begin 77 = .ok (.getfield 50, 3) := by decide +kernel
theorem dX3_begin_80 : decode cX3_begin 80 = .ok (.aload_n 0, 1) := by decide +kernel
theorem dX3_begin_81 : decode cX3_begin 81 = .ok (.getfield 96, 3) := by decide +kernel
theorem dX3_begin_84 : decode cX3_begin 84 = .ok (.iconst 0, 1) := by decide +kernel
theorem dX3_begin_85 : decode cX3_begin 85 = .ok (.iastore, 1) := by decide +kernel
theorem dX3_begin_86 : decode cX3_begin 86 = .ok (.aload_n 0, 1) := by decide +kernel
theorem dX3_begin_87 : decode cX3_begin 87 = .ok (.getfield 53, 3) := by decide +kernel
theorem dX3_begin_90 : decode cX3_begin 90 = .ok (.aload_n 0, 1) := by decide +kernel
theorem dX3_begin_91 : decode cX3_begin 91 = .ok (.getfield 96, 3) := by decide +kernel
theorem dX3_begin_94 : decode cX3_begin 94 = .ok (.iload_n 2, 1) := by decide +kernel
theorem dX3_begin_95 : decode cX3_begin 95 = .ok (.iastore, 1) := by decide +kernel
theorem dX3_begin_96 : decode cX3_begin 96 = .ok (.aload_n 0, 1) := by decide +kernel
theorem dX3_begin_97 : decode cX3_begin 97 = .ok (.getfield 56, 3) := by decide +kernel
theorem dX3_begin_100 : decode cX3_begin 100 = .ok (.aload_n 0, 1) := by decide +kernel
theorem dX3_begin_101 : decode cX3_begin 101 = .ok (.getfield 96, 3) := by decide +kernel
theorem dX3_begin_104 : decode cX3_begin 104 = .ok (.iload_n 2, 1) := by decide +kernel
theorem dX3_begin_105 : decode cX3_begin 105 = .ok (.iastore, 1) := by decide +kernel
theorem dX3_begin_106 : decode cX3_begin 106 = .ok (.aload_n 0, 1) := by decide +kernel
theorem dX3_begin_107 : decode cX3_begin 107 = .ok (.getfield 59, 3) := by decide +kernel
theorem dX3_begin_110 : decode cX3_begin 110 = .ok (.aload_n 0, 1) := by decide +kernel
theorem dX3_begin_111 : decode cX3_begin 111 = .ok (.getfield 96, 3) := by decide +kernel
theorem dX3_begin_114 : decode cX3_begin 114 = .ok (.iconst 0, 1) := by decide +kernel
theorem dX3_begin_115 : decode cX3_begin 115 = .ok (.bastore, 1) := by decide +kernel
theorem dX3_begin_116 : decode cX3_begin 116 = .ok (.aload_n 0, 1) := by decide +kernel
theorem dX3_begin_117 : decode cX3_begin 117 = .ok (.getfield 63, 3) := by decide +kernel
theorem dX3_begin_120 : decode cX3_begin 120 = .ok (.aload_n 0, 1) := by decide +kernel
theorem dX3_begin_121 : decode cX3_begin 121 = .ok (.getfield 96, 3) := by decide +kernel
theorem dX3_begin_124 : decode cX3_begin 124 = .ok (.aload_n 0, 1) := by decide +kernel
theorem dX3_begin_125 : decode cX3_begin 125 = .ok (.getfield 108, 3) := by decide +kernel
theorem dX3_begin_128 : decode cX3_begin 128 = .ok (.iastore, 1) := by decide +kernel
theorem dX3_begin_129 : decode cX3_begin 129 = .ok (.aload_n 0, 1) := by decide +kernel
theorem dX3_begin_130 : decode cX3_begin 130 = .ok (.getfield 66, 3) := by decide +kernel
theorem dX3_begin_133 : decode cX3_begin 133 = .ok (.aload_n 0, 1) := by decide +kernel
theorem dX3_begin_134 : decode cX3_begin 134 = .ok (.getfield 96, 3) := by decide +kernel
theorem dX3_begin_137 : decode cX3_begin 137 = .ok (.aload_n 0, 1) := by decide +kernel
theorem dX3_begin_138 : decode cX3_begin 138 = .ok (.getfield 111, 3) := by decide +kernel
theorem dX3_begin_141 : decode cX3_begin 141 = .ok (.iastore, 1) := by decide +kernel
theorem dX3_begin_142 : decode cX3_begin 142 = .ok (.aload_n 0, 1) := by decide +kernel
theorem dX3_begin_143 : decode cX3_begin 143 = .ok (.getfield 69, 3) := by decide +kernel
theorem dX3_begin_146 : decode cX3_begin 146 = .ok (.aload_n 0, 1) := by decide +kernel
theorem dX3_begin_147 : decode cX3_begin 147 = .ok (.getfield 96, 3) := by decide +kernel
theorem dX3_begin_150 : decode cX3_begin 150 = .ok (.aload_n 0, 1) := by decide +kernel
theorem dX3_begin_151 : decode cX3_begin 151 = .ok (.getfield 114, 3) := by decide +kernel
theorem dX3_begin_154 : decode cX3_begin 154 = .ok (.iastore, 1) := by decide +kernel
theorem dX3_begin_155 : decode cX3_begin 155 = .ok (.aload_n 0, 1) := by decide +kernel
theorem dX3_begin_156 : decode cX3_begin 156 = .ok (.dup, 1) := by decide +kernel
theorem dX3_begin_157 : decode cX3_begin 157 = .ok (.getfield 96, 3) := by decide +kernel
theorem dX3_begin_160 : decode cX3_begin 160 = .ok (.iconst 1, 1) := by decide +kernel
theorem dX3_begin_161 : decode cX3_begin 161 = .ok (.iadd, 1) := by decide +kernel
theorem dX3_begin_162 : decode cX3_begin 162 = .ok (.putfield 96, 3) := by decide +kernel
theorem dX3_begin_165 : decode cX3_begin 165 = .ok (.aload_n 0, 1) := by decide +kernel
theorem dX3_begin_166 : decode cX3_begin 166 = .ok (.aload_n 0, 1) := by decide +kernel
theorem dX3_begin_167 : decode cX3_begin 167 = .ok (.getfield 96, 3) := by decide +kernel
theorem dX3_begin_170 : decode cX3_begin 170 = .ok (.aload_n 0, 1) := by decide +kernel
theorem dX3_begin_171 : decode cX3_begin 171 = .ok (.getfield 117, 3) := by decide +kernel
theorem dX3_begin_174 : decode cX3_begin 174 = .ok (.if_icmp .le 10, 3) := by decide +kernel
theorem dX3_begin_177 : decode cX3_begin 177 = .ok (.aload_n 0, 1) := by decide +kernel
theorem dX3_begin_178 : decode cX3_begin 178 = .ok (.getfield 96, 3) := by decide +kernel
theorem dX3_begin_181 : decode cX3_begin 181 = .ok (.goto 7, 3) := by decide +kernel
theorem dX3_begin_184 : decode cX3_begin 184 = .ok (.aload_n 0, 1) := by decide +kernel
theorem dX3_begin_185 : decode cX3_begin 185 = .ok (.getfield 117, 3) := by decide +kernel
theorem dX3_begin_188 : decode cX3_begin 188 = .ok (.putfield 117, 3) := by decide +kernel
theorem dX3_begin_191 : decode cX3_begin 191 = .ok (.return_, 1) := by decide +kernel
set_option maxRecDepth 20000 in
theorem ggX3_asks_X3_begin : GoodIn wsX3_asks wsX3_begin := goodIn_r _ [7, 2, 8, 9, 10, 11, 12, 1, 13, 14, 15, 16, 17, 18, 19, 20, 21, 22, 23, 24, 25, 26, 27, 28, 29, 30, 31, 32, 33, 34, 35, 36, 37, 38, 39, 40, 41, 42, 43, 44, 45, 46, 47, 48, 49, 50, 51, 52, 53, 54, 55, 56, 57, 58] (by decide +kernel) (by decide +kernel)
set_option maxRecDepth 20000 in
theorem gX3_asks_X3_begin : GoodIn wsX3_asks (wsV RX3 120 RX3 yX3_begin wsX3_begin) := goodIn_app (goodIn_of _ (by decide +kernel)) ggX3_asks_X3_begin
theorem dX3_asks_0 : decode cX3_asks 0 = .ok (.aload_n 0, 1) := by decide +kernel
theorem dX3_asks_1 : decode cX3_asks 1 = .ok (.getfield 50, 3) := by decide +kernel
theorem dX3_asks_4 : decode cX3_asks 4 = .ok (.aload_n 0, 1) := by decide +kernel
theorem dX3_asks_5 : decode cX3_asks 5 = .ok (.getfield 96, 3) := by decide +kernel
theorem dX3_asks_8 : decode cX3_asks 8 = .ok (.iconst 1, 1) := by decide +kernel
theorem dX3_asks_9 : decode cX3_asks 9 = .ok (.isub, 1) := by decide +kernel
theorem dX3_asks_10 : decode cX3_asks 10 = .ok (.dup2, 1) := by decide +kernel
theorem dX3_asks_11 : decode cX3_asks 11 = .ok (.iaload, 1) := by decide +kernel
theorem dX3_asks_12 : decode cX3_asks 12 = .ok (.iconst 1, 1) := by decide +kernel
theorem dX3_asks_13 : decode cX3_asks 13 = .ok (.iadd, 1) := by decide +kernel
theorem dX3_asks_14 : decode cX3_asks 14 = .ok (.iastore, 1) := by decide +kernel
theorem dX3_asks_15 : decode cX3_asks 15 = .ok (.aload_n 0, 1) := by decide +kernel
theorem dX3_asks_16 : decode cX3_asks 16 = .ok (.iload_n 1, 1) := by decide +kernel
theorem dX3_asks_17 : decode cX3_asks 17 = .ok (.iload_n 2, 1) := by decide +kernel
theorem dX3_asks_18 : decode cX3_asks 18 = .ok (.invokevirtual 120, 3) := by decide +kernel
theorem dX3_asks_21 : decode cX3_asks 21 = .ok (.return_, 1) := by decide +kernel
theorem dX3_takeBack_0 : decode cX3_takeBack 0 = .ok (.aload_n 0, 1) := by decide +kernel
theorem dX3_takeBack_1 : decode cX3_takeBack 1 = .ok (.aload_n 0, 1) := by decide +kernel
theorem dX3_takeBack_2 : decode cX3_takeBack 2 = .ok (.getfield 63, 3) := by decide +kernel
theorem dX3_takeBack_5 : decode cX3_takeBack 5 = .ok (.iload_n 1, 1) := by decide +kernel
theorem dX3_takeBack_6 : decode cX3_takeBack 6 = .ok (.iaload, 1) := by decide +kernel
theorem dX3_takeBack_7 : decode cX3_takeBack 7 = .ok (.putfield 108, 3) := by decide +kernel
theorem dX3_takeBack_10 : decode cX3_takeBack 10 = .ok (.aload_n 0, 1) := by decide +kernel
theorem dX3_takeBack_11 : decode cX3_takeBack 11 = .ok (.aload_n 0, 1) := by decide +kernel
theorem dX3_takeBack_12 : decode cX3_takeBack 12 = .ok (.getfield 66, 3) := by decide +kernel
theorem dX3_takeBack_15 : decode cX3_takeBack 15 = .ok (.iload_n 1, 1) := by decide +kernel
theorem dX3_takeBack_16 : decode cX3_takeBack 16 = .ok (.iaload, 1) := by decide +kernel
theorem dX3_takeBack_17 : decode cX3_takeBack 17 = .ok (.putfield 111, 3) := by decide +kernel
theorem dX3_takeBack_20 : decode cX3_takeBack 20 = .ok (.aload_n 0, 1) := by decide +kernel
theorem dX3_takeBack_21 : decode cX3_takeBack 21 = .ok (.aload_n 0, 1) := by decide +kernel
theorem dX3_takeBack_22 : decode cX3_takeBack 22 = .ok (.getfield 69, 3) := by decide +kernel
theorem dX3_takeBack_25 : decode cX3_takeBack 25 = .ok (.iload_n 1, 1) := by decide +kernel
theorem dX3_takeBack_26 : decode cX3_takeBack 26 = .ok (.iaload, 1) := by decide +kernel
theorem dX3_takeBack_27 : decode cX3_takeBack 27 = .ok (.putfield 114, 3) := by decide +kernel
theorem dX3_takeBack_30 : decode cX3_takeBack 30 = .ok (.return_, 1) := by decide +kernel
theorem dX3_keep_0 : decode cX3_keep 0 = .ok (.aload_n 0, 1) := by decide +kernel
theorem dX3_keep_1 : decode cX3_keep 1 = .ok (.getfield 72, 3) := by decide +kernel
theorem dX3_keep_4 : decode cX3_keep 4 = .ok (.iload_n 1, 1) := by decide +kernel
theorem dX3_keep_5 : decode cX3_keep 5 = .ok (.aload_n 0, 1) := by decide +kernel
theorem dX3_keep_6 : decode cX3_keep 6 = .ok (.getfield 108, 3) := by decide +kernel
theorem dX3_keep_9 : decode cX3_keep 9 = .ok (.iastore, 1) := by decide +kernel
theorem dX3_keep_10 : decode cX3_keep 10 = .ok (.aload_n 0, 1) := by decide +kernel
theorem dX3_keep_11 : decode cX3_keep 11 = .ok (.getfield 75, 3) := by decide +kernel
theorem dX3_keep_14 : decode cX3_keep 14 = .ok (.iload_n 1, 1) := by decide +kernel
theorem dX3_keep_15 : decode cX3_keep 15 = .ok (.aload_n 0, 1) := by decide +kernel
theorem dX3_keep_16 : decode cX3_keep 16 = .ok (.getfield 111, 3) := by decide +kernel
theorem dX3_keep_19 : decode cX3_keep 19 = .ok (.iastore, 1) := by decide +kernel
theorem dX3_keep_20 : decode cX3_keep 20 = .ok (.aload_n 0, 1) := by decide +kernel
theorem dX3_keep_21 : decode cX3_keep 21 = .ok (.getfield 78, 3) := by decide +kernel
theorem dX3_keep_24 : decode cX3_keep 24 = .ok (.iload_n 1, 1) := by decide +kernel
theorem dX3_keep_25 : decode cX3_keep 25 = .ok (.aload_n 0, 1) := by decide +kernel
theorem dX3_keep_26 : decode cX3_keep 26 = .ok (.getfield 114, 3) := by decide +kernel
theorem dX3_keep_29 : decode cX3_keep 29 = .ok (.iastore, 1) := by decide +kernel
theorem dX3_keep_30 : decode cX3_keep 30 = .ok (.return_, 1) := by decide +kernel
set_option maxRecDepth 20000 in
theorem ggX3_ends_X3_takeBack : GoodIn wsX3_ends wsX3_takeBack := goodIn_r _ [7, 8, 9, 10, 11, 12, 13, 14, 15, 16, 17, 18, 19, 20, 21, 22, 23, 24, 25, 26, 27, 28, 29, 30, 31, 32, 33, 34, 35, 36, 37, 38, 39, 40, 41, 42, 43, 44, 45, 46, 47, 48, 49] (by decide +kernel) (by decide +kernel)
set_option maxRecDepth 20000 in
theorem gX3_ends_X3_takeBack : GoodIn wsX3_ends (wsV RX3 124 RX3 yX3_takeBack wsX3_takeBack) := goodIn_app (goodIn_of _ (by decide +kernel)) ggX3_ends_X3_takeBack
theorem dX3_ends_0 : decode cX3_ends 0 = .ok (.aload_n 0, 1) := by decide +kernel
theorem dX3_ends_1 : decode cX3_ends 1 = .ok (.dup, 1) := by decide +kernel
theorem dX3_ends_2 : decode cX3_ends 2 = .ok (.getfield 96, 3) := by decide +kernel
theorem dX3_ends_5 : decode cX3_ends 5 = .ok (.iconst 1, 1) := by decide +kernel
theorem dX3_ends_6 : decode cX3_ends 6 = .ok (.isub, 1) := by decide +kernel
theorem dX3_ends_7 : decode cX3_ends 7 = .ok (.putfield 96, 3) := by decide +kernel
theorem dX3_ends_10 : decode cX3_ends 10 = .ok (.iload_n 1, 1) := by decide +kernel
theorem dX3_ends_11 : decode cX3_ends 11 = .ok (.iconst (-1), 1) := by decide +kernel
theorem dX3_ends_12 : decode cX3_ends 12 = .ok (.if_icmp .ne 11, 3) := by decide +kernel
theorem dX3_ends_15 : decode cX3_ends 15 = .ok (.aload_n 0, 1) := by decide +kernel
theorem dX3_ends_16 : decode cX3_ends 16 = .ok (.aload_n 0, 1) := by decide +kernel
theorem dX3_ends_17 : decode cX3_ends 17 = .ok (.getfield 96, 3) := by decide +kernel
theorem dX3_ends_20 : decode cX3_ends 20 = .ok (.invokevirtual 124, 3) := by decide +kernel
theorem dX3_ends_23 : decode cX3_ends 23 = .ok (.aload_n 0, 1) := by decide +kernel
theorem dX3_ends_24 : decode cX3_ends 24 = .ok (.iload_n 1, 1) := by decide +kernel
theorem dX3_ends_25 : decode cX3_ends 25 = .ok (.putfield 128, 3) := by decide +kernel
theorem dX3_ends_28 : decode cX3_ends 28 = .ok (.return_, 1) := by decide +kernel
theorem dX3_lay_0 : decode cX3_lay 0 = .ok (.aload_n 0, 1) := by decide +kernel
theorem dX3_lay_1 : decode cX3_lay 1 = .ok (.dup, 1) := by decide +kernel
theorem dX3_lay_2 : decode cX3_lay 2 = .ok (.getfield 111, 3) := by decide +kernel
theorem dX3_lay_5 : decode cX3_lay 5 = .ok (.iconst 1, 1) := by decide +kernel
theorem dX3_lay_6 : decode cX3_lay 6 = .ok (.iadd, 1) := by decide +kernel
theorem dX3_lay_7 : decode cX3_lay 7 = .ok (.putfield 111, 3) := by decide +kernel
theorem dX3_lay_10 : decode cX3_lay 10 = .ok (.aload_n 0, 1) := by decide +kernel
theorem dX3_lay_11 : decode cX3_lay 11 = .ok (.getfield 28, 3) := by decide +kernel
theorem dX3_lay_14 : decode cX3_lay 14 = .ok (.aload_n 0, 1) := by decide +kernel
theorem dX3_lay_15 : decode cX3_lay 15 = .ok (.getfield 111, 3) := by decide +kernel
theorem dX3_lay_18 : decode cX3_lay 18 = .ok (.lload_n 1, 1) := by decide +kernel
theorem dX3_lay_19 : decode cX3_lay 19 = .ok (.lastore, 1) := by decide +kernel
theorem dX3_lay_20 : decode cX3_lay 20 = .ok (.aload_n 0, 1) := by decide +kernel
theorem dX3_lay_21 : decode cX3_lay 21 = .ok (.getfield 32, 3) := by decide +kernel
theorem dX3_lay_24 : decode cX3_lay 24 = .ok (.aload_n 0, 1) := by decide +kernel
theorem dX3_lay_25 : decode cX3_lay 25 = .ok (.getfield 111, 3) := by decide +kernel
theorem dX3_lay_28 : decode cX3_lay 28 = .ok (.iload_n 3, 1) := by decide +kernel
theorem dX3_lay_29 : decode cX3_lay 29 = .ok (.iastore, 1) := by decide +kernel
theorem dX3_lay_30 : decode cX3_lay 30 = .ok (.aload_n 0, 1) := by decide +kernel
theorem dX3_lay_31 : decode cX3_lay 31 = .ok (.getfield 35, 3) := by decide +kernel
theorem dX3_lay_34 : decode cX3_lay 34 = .ok (.aload_n 0, 1) := by decide +kernel
theorem dX3_lay_35 : decode cX3_lay 35 = .ok (.getfield 111, 3) := by decide +kernel
theorem dX3_lay_38 : decode cX3_lay 38 = .ok (.iload_n 3, 1) := by decide +kernel
theorem dX3_lay_39 : decode cX3_lay 39 = .ok (.ifCond .ne 7, 3) := by decide +kernel
theorem dX3_lay_42 : decode cX3_lay 42 = .ok (.iconst 1, 1) := by decide +kernel
theorem dX3_lay_43 : decode cX3_lay 43 = .ok (.goto 11, 3) := by decide +kernel
theorem dX3_lay_46 : decode cX3_lay 46 = .ok (.aload_n 0, 1) := by decide +kernel
theorem dX3_lay_47 : decode cX3_lay 47 = .ok (.getfield 35, 3) := by decide +kernel
theorem dX3_lay_50 : decode cX3_lay 50 = .ok (.iload_n 3, 1) := by decide +kernel
theorem dX3_lay_51 : decode cX3_lay 51 = .ok (.iaload, 1) := by decide +kernel
theorem dX3_lay_52 : decode cX3_lay 52 = .ok (.iconst 1, 1) := by decide +kernel
theorem dX3_lay_53 : decode cX3_lay 53 = .ok (.iadd, 1) := by decide +kernel
theorem dX3_lay_54 : decode cX3_lay 54 = .ok (.iastore, 1) := by decide +kernel
theorem dX3_lay_55 : decode cX3_lay 55 = .ok (.aload_n 0, 1) := by decide +kernel
theorem dX3_lay_56 : decode cX3_lay 56 = .ok (.aload_n 0, 1) := by decide +kernel
theorem dX3_lay_57 : decode cX3_lay 57 = .ok (.getfield 111, 3) := by decide +kernel
theorem dX3_lay_60 : decode cX3_lay 60 = .ok (.putfield 108, 3) := by decide +kernel
theorem dX3_lay_63 : decode cX3_lay 63 = .ok (.return_, 1) := by decide +kernel
theorem dX3_height_0 : decode cX3_height 0 = .ok (.aload_n 0, 1) := by decide +kernel
theorem dX3_height_1 : decode cX3_height 1 = .ok (.getfield 108, 3) := by decide +kernel
theorem dX3_height_4 : decode cX3_height 4 = .ok (.ifCond .ne 7, 3) := by decide +kernel
theorem dX3_height_7 : decode cX3_height 7 = .ok (.iconst 0, 1) := by decide +kernel
theorem dX3_height_8 : decode cX3_height 8 = .ok (.goto 12, 3) := by decide +kernel
theorem dX3_height_11 : decode cX3_height 11 = .ok (.aload_n 0, 1) := by decide +kernel
theorem dX3_height_12 : decode cX3_height 12 = .ok (.getfield 35, 3) := by decide +kernel
theorem dX3_height_15 : decode cX3_height 15 = .ok (.aload_n 0, 1) := by decide +kernel
theorem dX3_height_16 : decode cX3_height 16 = .ok (.getfield 108, 3) := by decide +kernel
theorem dX3_height_19 : decode cX3_height 19 = .ok (.iaload, 1) := by decide +kernel
theorem dX3_height_20 : decode cX3_height 20 = .ok (.ireturn, 1) := by decide +kernel
set_option maxRecDepth 20000 in
theorem ggX3_goesOn_X3_sign : GoodIn wsX3_goesOn wsX3_sign := goodIn_r _ [8, 9, 10, 11, 3, 12, 13, 14, 15, 16, 7, 17, 1, 18, 19, 20, 21, 22, 23, 24, 25, 26, 27, 28, 29, 30, 31, 96, 97, 98, 99, 100, 101, 102, 103, 104, 105, 106, 107, 108, 109, 110, 111, 112, 113, 114, 115, 116, 117, 118, 119, 120, 121, 122, 123, 124, 125, 126, 127, 128, 129, 130, 131] (by decide +kernel) (by decide +kernel)
set_option maxRecDepth 20000 in
theorem gX3_goesOn_X3_sign : GoodIn wsX3_goesOn (wsV RX3 131 RX3 yX3_sign wsX3_sign) := goodIn_app (goodIn_of _ (by decide +kernel)) ggX3_goesOn_X3_sign
set_option maxRecDepth 20000 in
theorem ggX3_goesOn_X3_joins : GoodIn wsX3_goesOn wsX3_joins := goodIn_r _ [35, 9, 36, 3, 12, 18, 13, 37, 38, 39, 40, 7, 41, 42, 24, 43, 26, 44, 28, 45, 46, 47, 48, 1, 49, 50, 51, 52, 53, 54, 55, 56, 2, 57, 23, 25, 27, 58, 14, 15, 16, 17, 19, 20, 21, 22, 59, 60, 61, 62, 96, 97, 98, 99, 100, 101, 102, 103, 104, 105, 106, 107, 108, 109, 110, 111, 112, 113, 114, 115, 116, 117, 118, 119, 120, 121, 122, 123, 124, 125, 126, 127, 128, 129, 130, 131] (by decide +kernel) (by decide +kernel)
set_option maxRecDepth 20000 in
theorem gX3_goesOn_X3_joins : GoodIn wsX3_goesOn (wsV RX3 134 RX3 yX3_joins wsX3_joins) := goodIn_app (goodIn_of _ (by decide +kernel)) ggX3_goesOn_X3_joins
set_option maxRecDepth 20000 in
theorem ggX3_goesOn_X3_others : GoodIn wsX3_goesOn wsX3_others := goodIn_r _ [66, 9, 3, 36, 18, 67, 12, 53, 68, 28, 13, 69, 70, 24, 14, 15, 16, 7, 17, 1, 19, 20, 21, 22, 23, 25, 26, 27, 45, 46, 47, 48, 49, 50, 51, 52, 54, 55, 56, 2, 57, 37, 58, 71, 72, 73, 74, 75, 76, 77, 78, 79, 80, 81, 82, 83, 84, 85, 10, 11, 86, 87, 29, 30, 31, 88, 89, 90, 91, 92, 93, 94, 95, 96, 97, 98, 99, 100, 101, 102, 103, 104, 105, 106, 107, 108, 109, 110, 111, 112, 113, 114, 115, 116, 117, 118, 119, 120, 121, 122, 123, 124, 125, 126, 127, 128, 129, 130, 131] (by decide +kernel) (by decide +kernel)
set_option maxRecDepth 20000 in
theorem gX3_goesOn_X3_others : GoodIn wsX3_goesOn (wsV RX3 137 RX3 yX3_others wsX3_others) := goodIn_app (goodIn_of _ (by decide +kernel)) ggX3_goesOn_X3_others
theorem dX3_goesOn_0 : decode cX3_goesOn 0 = .ok (.aload_n 0, 1) := by decide +kernel
theorem dX3_goesOn_1 : decode cX3_goesOn 1 = .ok (.getfield 96, 3) := by decide +kernel
theorem dX3_goesOn_4 : decode cX3_goesOn 4 = .ok (.iconst 1, 1) := by decide +kernel
theorem dX3_goesOn_5 : decode cX3_goesOn 5 = .ok (.isub, 1) := by decide +kernel
theorem dX3_goesOn_6 : decode cX3_goesOn 6 = .ok (.istore_n 1, 1) := by decide +kernel
theorem dX3_goesOn_7 : decode cX3_goesOn 7 = .ok (.aload_n 0, 1) := by decide +kernel
theorem dX3_goesOn_8 : decode cX3_goesOn 8 = .ok (.getfield 47, 3) := by decide +kernel
theorem dX3_goesOn_11 : decode cX3_goesOn 11 = .ok (.iload_n 1, 1) := by decide +kernel
theorem dX3_goesOn_12 : decode cX3_goesOn 12 = .ok (.iaload, 1) := by decide +kernel
theorem dX3_goesOn_13 : decode cX3_goesOn 13 = .ok (.istore_n 2, 1) := by decide +kernel
theorem dX3_goesOn_14 : decode cX3_goesOn 14 = .ok (.aload_n 0, 1) := by decide +kernel
theorem dX3_goesOn_15 : decode cX3_goesOn 15 = .ok (.getfield 13, 3) := by decide +kernel
theorem dX3_goesOn_18 : decode cX3_goesOn 18 = .ok (.iload_n 2, 1) := by decide +kernel
theorem dX3_goesOn_19 : decode cX3_goesOn 19 = .ok (.iaload, 1) := by decide +kernel
theorem dX3_goesOn_20 : decode cX3_goesOn 20 = .ok (.istore_n 3, 1) := by decide +kernel
theorem dX3_goesOn_21 : decode cX3_goesOn 21 = .ok (.iload_n 3, 1) := by decide +kernel
theorem dX3_goesOn_22 : decode cX3_goesOn 22 = .ok (.iconst 4, 1) := by decide +kernel
theorem dX3_goesOn_23 : decode cX3_goesOn 23 = .ok (.if_icmp .ge 12, 3) := by decide +kernel
theorem dX3_goesOn_26 : decode cX3_goesOn 26 = .ok (.aload_n 0, 1) := by decide +kernel
theorem dX3_goesOn_27 : decode cX3_goesOn 27 = .ok (.iload_n 1, 1) := by decide +kernel
theorem dX3_goesOn_28 : decode cX3_goesOn 28 = .ok (.iload_n 2, 1) := by decide +kernel
theorem dX3_goesOn_29 : decode cX3_goesOn 29 = .ok (.invokevirtual 131, 3) := by decide +kernel
theorem dX3_goesOn_32 : decode cX3_goesOn 32 = .ok (.goto 24, 3) := by decide +kernel
theorem dX3_goesOn_35 : decode cX3_goesOn 35 = .ok (.iload_n 3, 1) := by decide +kernel
theorem dX3_goesOn_36 : decode cX3_goesOn 36 = .ok (.bipush 10, 2) := by decide +kernel
theorem dX3_goesOn_38 : decode cX3_goesOn 38 = .ok (.if_icmp .ge 12, 3) := by decide +kernel
theorem dX3_goesOn_41 : decode cX3_goesOn 41 = .ok (.aload_n 0, 1) := by decide +kernel
theorem dX3_goesOn_42 : decode cX3_goesOn 42 = .ok (.iload_n 1, 1) := by decide +kernel
theorem dX3_goesOn_43 : decode cX3_goesOn 43 = .ok (.iload_n 2, 1) := by decide +kernel
theorem dX3_goesOn_44 : decode cX3_goesOn 44 = .ok (.invokevirtual 134, 3) := by decide +kernel
theorem dX3_goesOn_47 : decode cX3_goesOn 47 = .ok (.goto 9, 3) := by decide +kernel
theorem dX3_goesOn_50 : decode cX3_goesOn 50 = .ok (.aload_n 0, 1) := by decide +kernel
theorem dX3_goesOn_51 : decode cX3_goesOn 51 = .ok (.iload_n 1, 1) := by decide +kernel
theorem dX3_goesOn_52 : decode cX3_goesOn 52 = .ok (.iload_n 2, 1) := by decide +kernel
theorem dX3_goesOn_53 : decode cX3_goesOn 53 = .ok (.invokevirtual 137, 3) := by decide +kernel
theorem dX3_goesOn_56 : decode cX3_goesOn 56 = .ok (.return_, 1) := by decide +kernel
set_option maxRecDepth 20000 in
theorem ggX3_sign_X3_ends : GoodIn wsX3_sign wsX3_ends := goodIn_r _ [11, 12, 13, 14, 15, 16, 10, 17, 18, 19, 20, 21, 22, 23, 27, 28, 29, 30, 31, 32, 33, 34, 35, 36, 37, 38, 39, 40, 41, 42, 43, 44, 45, 46, 47, 48, 49, 50, 51, 52, 53, 54, 55, 56, 57, 58, 59, 60, 61, 62] (by decide +kernel) (by decide +kernel)
set_option maxRecDepth 20000 in
theorem gX3_sign_X3_ends : GoodIn wsX3_sign (wsV RX3 140 RX3 yX3_ends wsX3_ends) := goodIn_app (goodIn_of _ (by decide +kernel)) ggX3_sign_X3_ends
set_option maxRecDepth 20000 in
theorem ggX3_sign_X3_in : GoodIn wsX3_sign wsX3_in := goodIn_r _ [26] (by decide +kernel) (by decide +kernel)
set_option maxRecDepth 20000 in
theorem gX3_sign_X3_in : GoodIn wsX3_sign (va_wsS RX3 85 yX3_in wsX3_in) := goodIn_app (goodIn_of _ (by decide +kernel)) ggX3_sign_X3_in
theorem dX3_sign_0 : decode cX3_sign 0 = .ok (.aload_n 0, 1) := by decide +kernel
theorem dX3_sign_1 : decode cX3_sign 1 = .ok (.getfield 53, 3) := by decide +kernel
theorem dX3_sign_4 : decode cX3_sign 4 = .ok (.iload_n 1, 1) := by decide +kernel
theorem dX3_sign_5 : decode cX3_sign 5 = .ok (.iaload, 1) := by decide +kernel
theorem dX3_sign_6 : decode cX3_sign 6 = .ok (.istore_n 3, 1) := by decide +kernel
theorem dX3_sign_7 : decode cX3_sign 7 = .ok (.iload_n 3, 1) := by decide +kernel
theorem dX3_sign_8 : decode cX3_sign 8 = .ok (.aload_n 0, 1) := by decide +kernel
theorem dX3_sign_9 : decode cX3_sign 9 = .ok (.getfield 89, 3) := by decide +kernel
theorem dX3_sign_12 : decode cX3_sign 12 = .ok (.if_icmp .ge 7, 3) := by decide +kernel
theorem dX3_sign_15 : decode cX3_sign 15 = .ok (.iconst 1, 1) := by decide +kernel
theorem dX3_sign_16 : decode cX3_sign 16 = .ok (.goto 4, 3) := by decide +kernel
theorem dX3_sign_19 : decode cX3_sign 19 = .ok (.iconst 0, 1) := by decide +kernel
theorem dX3_sign_20 : decode cX3_sign 20 = .ok (.istore 4, 2) := by decide +kernel
theorem dX3_sign_22 : decode cX3_sign 22 = .ok (.iload 4, 2) := by decide +kernel
theorem dX3_sign_24 : decode cX3_sign 24 = .ok (.ifCond .eq 12, 3) := by decide +kernel
theorem dX3_sign_27 : decode cX3_sign 27 = .ok (.aload_n 0, 1) := by decide +kernel
theorem dX3_sign_28 : decode cX3_sign 28 = .ok (.getfield 7, 3) := by decide +kernel
theorem dX3_sign_31 : decode cX3_sign 31 = .ok (.iload_n 3, 1) := by decide +kernel
theorem dX3_sign_32 : decode cX3_sign 32 = .ok (.iaload, 1) := by decide +kernel
theorem dX3_sign_33 : decode cX3_sign 33 = .ok (.goto 4, 3) := by decide +kernel
theorem dX3_sign_36 : decode cX3_sign 36 = .ok (.iconst (-1), 1) := by decide +kernel
theorem dX3_sign_37 : decode cX3_sign 37 = .ok (.istore 5, 2) := by decide +kernel
theorem dX3_sign_39 : decode cX3_sign 39 = .ok (.aload_n 0, 1) := by decide +kernel
theorem dX3_sign_40 : decode cX3_sign 40 = .ok (.getfield 13, 3) := by decide +kernel
theorem dX3_sign_43 : decode cX3_sign 43 = .ok (.iload_n 2, 1) := by decide +kernel
theorem dX3_sign_44 : decode cX3_sign 44 = .ok (.iaload, 1) := by decide +kernel
theorem dX3_sign_45 : decode cX3_sign 45 = .ok (.tableswitch 115 0 2 #[27, 57, 96], 27) := by decide +kernel
end
section
theorem dX3_sign_72 : decode cX3_sign 72 = .ok (.aload_n 0, 1) := by decide +kernel
theorem dX3_sign_73 : decode cX3_sign 73 = .ok (.iload 4, 2) := by decide +kernel
theorem dX3_sign_75 : decode cX3_sign 75 = .ok (.ifCond .eq 20, 3) := by decide +kernel
theorem dX3_sign_78 : decode cX3_sign 78 = .ok (.iload 5, 2) := by decide +kernel
theorem dX3_sign_80 : decode cX3_sign 80 = .ok (.aload_n 0, 1) := by decide +kernel
theorem dX3_sign_81 : decode cX3_sign 81 = .ok (.getfield 16, 3) := by decide +kernel
theorem dX3_sign_84 : decode cX3_sign 84 = .ok (.iload_n 2, 1) := by decide +kernel
theorem dX3_sign_85 : decode cX3_sign 85 = .ok (.iaload, 1) := by decide +kernel
theorem dX3_sign_86 : decode cX3_sign 86 = .ok (.if_icmp .ne 9, 3) := by decide +kernel
theorem dX3_sign_89 : decode cX3_sign 89 = .ok (.iload_n 3, 1) := by decide +kernel
theorem dX3_sign_90 : decode cX3_sign 90 = .ok (.iconst 1, 1) := by decide +kernel
theorem dX3_sign_91 : decode cX3_sign 91 = .ok (.iadd, 1) := by decide +kernel
theorem dX3_sign_92 : decode cX3_sign 92 = .ok (.goto 4, 3) := by decide +kernel
theorem dX3_sign_95 : decode cX3_sign 95 = .ok (.iconst (-1), 1) := by decide +kernel
theorem dX3_sign_96 : decode cX3_sign 96 = .ok (.invokevirtual 140, 3) := by decide +kernel
theorem dX3_sign_99 : decode cX3_sign 99 = .ok (.goto 75, 3) := by decide +kernel
theorem dX3_sign_102 : decode cX3_sign 102 = .ok (.aload_n 0, 1) := by decide +kernel
theorem dX3_sign_103 : decode cX3_sign 103 = .ok (.iload 4, 2) := by decide +kernel
theorem dX3_sign_105 : decode cX3_sign 105 = .ok (.ifCond .eq 29, 3) := by decide +kernel
theorem dX3_sign_108 : decode cX3_sign 108 = .ok (.iload 5, 2) := by decide +kernel
theorem dX3_sign_110 : decode cX3_sign 110 = .ok (.aload_n 0, 1) := by decide +kernel
theorem dX3_sign_111 : decode cX3_sign 111 = .ok (.getfield 16, 3) := by decide +kernel
theorem dX3_sign_114 : decode cX3_sign 114 = .ok (.iload_n 2, 1) := by decide +kernel
theorem dX3_sign_115 : decode cX3_sign 115 = .ok (.iaload, 1) := by decide +kernel
theorem dX3_sign_116 : decode cX3_sign 116 = .ok (.aload_n 0, 1) := by decide +kernel
theorem dX3_sign_117 : decode cX3_sign 117 = .ok (.getfield 19, 3) := by decide +kernel
theorem dX3_sign_120 : decode cX3_sign 120 = .ok (.iload_n 2, 1) := by decide +kernel
theorem dX3_sign_121 : decode cX3_sign 121 = .ok (.iaload, 1) := by decide +kernel
theorem dX3_sign_122 : decode cX3_sign 122 = .ok (.invokestatic 85, 3) := by decide +kernel
theorem dX3_sign_125 : decode cX3_sign 125 = .ok (.ifCond .eq 9, 3) := by decide +kernel
theorem dX3_sign_128 : decode cX3_sign 128 = .ok (.iload_n 3, 1) := by decide +kernel
theorem dX3_sign_129 : decode cX3_sign 129 = .ok (.iconst 1, 1) := by decide +kernel
theorem dX3_sign_130 : decode cX3_sign 130 = .ok (.iadd, 1) := by decide +kernel
theorem dX3_sign_131 : decode cX3_sign 131 = .ok (.goto 4, 3) := by decide +kernel
theorem dX3_sign_134 : decode cX3_sign 134 = .ok (.iconst (-1), 1) := by decide +kernel
theorem dX3_sign_135 : decode cX3_sign 135 = .ok (.invokevirtual 140, 3) := by decide +kernel
theorem dX3_sign_138 : decode cX3_sign 138 = .ok (.goto 36, 3) := by decide +kernel
theorem dX3_sign_141 : decode cX3_sign 141 = .ok (.aload_n 0, 1) := by decide +kernel
theorem dX3_sign_142 : decode cX3_sign 142 = .ok (.iload 4, 2) := by decide +kernel
theorem dX3_sign_144 : decode cX3_sign 144 = .ok (.ifCond .eq 9, 3) := by decide +kernel
theorem dX3_sign_147 : decode cX3_sign 147 = .ok (.iload_n 3, 1) := by decide +kernel
theorem dX3_sign_148 : decode cX3_sign 148 = .ok (.iconst 1, 1) := by decide +kernel
theorem dX3_sign_149 : decode cX3_sign 149 = .ok (.iadd, 1) := by decide +kernel
theorem dX3_sign_150 : decode cX3_sign 150 = .ok (.goto 4, 3) := by decide +kernel
theorem dX3_sign_153 : decode cX3_sign 153 = .ok (.iconst (-1), 1) := by decide +kernel
theorem dX3_sign_154 : decode cX3_sign 154 = .ok (.invokevirtual 140, 3) := by decide +kernel
theorem dX3_sign_157 : decode cX3_sign 157 = .ok (.goto 17, 3) := by decide +kernel
theorem dX3_sign_160 : decode cX3_sign 160 = .ok (.aload_n 0, 1) := by decide +kernel
theorem dX3_sign_161 : decode cX3_sign 161 = .ok (.iload 4, 2) := by decide +kernel
theorem dX3_sign_163 : decode cX3_sign 163 = .ok (.ifCond .eq 7, 3) := by decide +kernel
theorem dX3_sign_166 : decode cX3_sign 166 = .ok (.iconst (-1), 1) := by decide +kernel
theorem dX3_sign_167 : decode cX3_sign 167 = .ok (.goto 4, 3) := by decide +kernel
theorem dX3_sign_170 : decode cX3_sign 170 = .ok (.iload_n 3, 1) := by decide +kernel
theorem dX3_sign_171 : decode cX3_sign 171 = .ok (.invokevirtual 140, 3) := by decide +kernel
theorem dX3_sign_174 : decode cX3_sign 174 = .ok (.return_, 1) := by decide +kernel
set_option maxRecDepth 20000 in
theorem ggX3_joins_X3_keep : GoodIn wsX3_joins wsX3_keep := goodIn_r _ [12, 13, 14, 15, 16, 17, 18, 50, 51, 52, 53, 54, 55, 56, 57, 58, 59, 60, 61, 62, 63, 64, 65, 66, 67, 68, 69, 70, 71, 72, 73, 74, 75, 76, 77, 78, 79, 80, 81, 82, 83, 84, 85] (by decide +kernel) (by decide +kernel)
set_option maxRecDepth 20000 in
theorem gX3_joins_X3_keep : GoodIn wsX3_joins (wsV RX3 143 RX3 yX3_keep wsX3_keep) := goodIn_app (goodIn_of _ (by decide +kernel)) ggX3_joins_X3_keep
set_option maxRecDepth 20000 in
theorem ggX3_joins_X3_asks : GoodIn wsX3_joins wsX3_asks := goodIn_r _ [22, 2, 23, 24, 25, 26, 11, 27, 28, 29, 30, 31, 32, 1, 33, 7, 34, 14, 35, 16, 36, 18, 37, 50, 51, 52, 53, 54, 55, 56, 57, 58, 59, 60, 61, 62, 63, 64, 65, 66, 67, 68, 69, 70, 71, 72, 73, 74, 75, 76, 77, 78, 79, 80, 81, 82, 83, 84, 85] (by decide +kernel) (by decide +kernel)
set_option maxRecDepth 20000 in
theorem gX3_joins_X3_asks : GoodIn wsX3_joins (wsV RX3 146 RX3 yX3_asks wsX3_asks) := goodIn_app (goodIn_of _ (by decide +kernel)) ggX3_joins_X3_asks
set_option maxRecDepth 20000 in
theorem ggX3_joins_X3_ends : GoodIn wsX3_joins wsX3_ends := goodIn_r _ [41, 23, 5, 42, 43, 44, 11, 45, 34, 14, 35, 16, 36, 18, 50, 51, 52, 53, 54, 55, 56, 57, 58, 59, 60, 61, 62, 63, 64, 65, 66, 67, 68, 69, 70, 71, 72, 73, 74, 75, 76, 77, 78, 79, 80, 81, 82, 83, 84, 85] (by decide +kernel) (by decide +kernel)
set_option maxRecDepth 20000 in
theorem gX3_joins_X3_ends : GoodIn wsX3_joins (wsV RX3 140 RX3 yX3_ends wsX3_ends) := goodIn_app (goodIn_of _ (by decide +kernel)) ggX3_joins_X3_ends
set_option maxRecDepth 20000 in
theorem ggX3_joins_X3_again : GoodIn wsX3_joins wsX3_again := goodIn_r _ [49, 5, 33, 4, 13, 14, 15, 16, 17, 18, 8, 9, 10, 11, 12, 19, 20, 21, 22, 2, 23, 24, 25, 26, 27, 28, 29, 30, 31, 32, 1, 7, 34, 35, 36, 37, 38, 39, 40, 41, 42, 43, 44, 45, 50, 51, 52, 53, 54, 55, 56, 57, 58, 59, 60, 61, 62, 63, 64, 65, 66, 67, 68, 69, 70, 71, 72, 73, 74, 75, 76, 77, 78, 79, 80, 81, 82, 83, 84, 85] (by decide +kernel) (by decide +kernel)
set_option maxRecDepth 20000 in
theorem gX3_joins_X3_again : GoodIn wsX3_joins (wsV RX3 149 RX3 yX3_again wsX3_again) := goodIn_app (goodIn_of _ (by decide +kernel)) ggX3_joins_X3_again
set_option maxRecDepth 20000 in
theorem ggX3_joins_X3_takeBack : GoodIn wsX3_joins wsX3_takeBack := goodIn_r _ [45, 34, 14, 35, 16, 36, 18, 50, 51, 52, 53, 54, 55, 56, 57, 58, 59, 60, 61, 62, 63, 64, 65, 66, 67, 68, 69, 70, 71, 72, 73, 74, 75, 76, 77, 78, 79, 80, 81, 82, 83, 84, 85] (by decide +kernel) (by decide +kernel)
set_option maxRecDepth 20000 in
theorem gX3_joins_X3_takeBack : GoodIn wsX3_joins (wsV RX3 124 RX3 yX3_takeBack wsX3_takeBack) := goodIn_app (goodIn_of _ (by decide +kernel)) ggX3_joins_X3_takeBack
theorem dX3_joins_0 : decode cX3_joins 0 = .ok (.aload_n 0, 1) := by decide +kernel
theorem dX3_joins_1 : decode cX3_joins 1 = .ok (.getfield 53, 3) := by decide +kernel
theorem dX3_joins_4 : decode cX3_joins 4 = .ok (.iload_n 1, 1) := by decide +kernel
theorem dX3_joins_5 : decode cX3_joins 5 = .ok (.iaload, 1) := by decide +kernel
theorem dX3_joins_6 : decode cX3_joins 6 = .ok (.istore_n 3, 1) := by decide +kernel
theorem dX3_joins_7 : decode cX3_joins 7 = .ok (.aload_n 0, 1) := by decide +kernel
theorem dX3_joins_8 : decode cX3_joins 8 = .ok (.getfield 50, 3) := by decide +kernel
theorem dX3_joins_11 : decode cX3_joins 11 = .ok (.iload_n 1, 1) := by decide +kernel
theorem dX3_joins_12 : decode cX3_joins 12 = .ok (.iaload, 1) := by decide +kernel
theorem dX3_joins_13 : decode cX3_joins 13 = .ok (.ifCond .ne 31, 3) := by decide +kernel
theorem dX3_joins_16 : decode cX3_joins 16 = .ok (.aload_n 0, 1) := by decide +kernel
theorem dX3_joins_17 : decode cX3_joins 17 = .ok (.getfield 13, 3) := by decide +kernel
theorem dX3_joins_20 : decode cX3_joins 20 = .ok (.iload_n 2, 1) := by decide +kernel
theorem dX3_joins_21 : decode cX3_joins 21 = .ok (.iaload, 1) := by decide +kernel
theorem dX3_joins_22 : decode cX3_joins 22 = .ok (.bipush 6, 2) := by decide +kernel
theorem dX3_joins_24 : decode cX3_joins 24 = .ok (.if_icmp .ne 8, 3) := by decide +kernel
theorem dX3_joins_27 : decode cX3_joins 27 = .ok (.aload_n 0, 1) := by decide +kernel
theorem dX3_joins_28 : decode cX3_joins 28 = .ok (.iload_n 1, 1) := by decide +kernel
theorem dX3_joins_29 : decode cX3_joins 29 = .ok (.invokevirtual 143, 3) := by decide +kernel
theorem dX3_joins_32 : decode cX3_joins 32 = .ok (.aload_n 0, 1) := by decide +kernel
theorem dX3_joins_33 : decode cX3_joins 33 = .ok (.aload_n 0, 1) := by decide +kernel
theorem dX3_joins_34 : decode cX3_joins 34 = .ok (.getfield 16, 3) := by decide +kernel
theorem dX3_joins_37 : decode cX3_joins 37 = .ok (.iload_n 2, 1) := by decide +kernel
theorem dX3_joins_38 : decode cX3_joins 38 = .ok (.iaload, 1) := by decide +kernel
theorem dX3_joins_39 : decode cX3_joins 39 = .ok (.iload_n 3, 1) := by decide +kernel
theorem dX3_joins_40 : decode cX3_joins 40 = .ok (.invokevirtual 146, 3) := by decide +kernel
theorem dX3_joins_43 : decode cX3_joins 43 = .ok (.return_, 1) := by decide +kernel
theorem dX3_joins_44 : decode cX3_joins 44 = .ok (.aload_n 0, 1) := by decide +kernel
theorem dX3_joins_45 : decode cX3_joins 45 = .ok (.getfield 128, 3) := by decide +kernel
theorem dX3_joins_48 : decode cX3_joins 48 = .ok (.iconst (-1), 1) := by decide +kernel
theorem dX3_joins_49 : decode cX3_joins 49 = .ok (.if_icmp .ne 7, 3) := by decide +kernel
theorem dX3_joins_52 : decode cX3_joins 52 = .ok (.iconst 1, 1) := by decide +kernel
theorem dX3_joins_53 : decode cX3_joins 53 = .ok (.goto 4, 3) := by decide +kernel
theorem dX3_joins_56 : decode cX3_joins 56 = .ok (.iconst 0, 1) := by decide +kernel
theorem dX3_joins_57 : decode cX3_joins 57 = .ok (.istore 4, 2) := by decide +kernel
theorem dX3_joins_59 : decode cX3_joins 59 = .ok (.aload_n 0, 1) := by decide +kernel
theorem dX3_joins_60 : decode cX3_joins 60 = .ok (.getfield 13, 3) := by decide +kernel
theorem dX3_joins_63 : decode cX3_joins 63 = .ok (.iload_n 2, 1) := by decide +kernel
theorem dX3_joins_64 : decode cX3_joins 64 = .ok (.iaload, 1) := by decide +kernel
theorem dX3_joins_65 : decode cX3_joins 65 = .ok (.tableswitch 175 4 8 #[35, 78, 127, 138, 158], 35) := by decide +kernel
theorem dX3_joins_100 : decode cX3_joins 100 = .ok (.aload_n 0, 1) := by decide +kernel
theorem dX3_joins_101 : decode cX3_joins 101 = .ok (.getfield 50, 3) := by decide +kernel
theorem dX3_joins_104 : decode cX3_joins 104 = .ok (.iload_n 1, 1) := by decide +kernel
theorem dX3_joins_105 : decode cX3_joins 105 = .ok (.iaload, 1) := by decide +kernel
theorem dX3_joins_106 : decode cX3_joins 106 = .ok (.iconst 1, 1) := by decide +kernel
theorem dX3_joins_107 : decode cX3_joins 107 = .ok (.if_icmp .ne 25, 3) := by decide +kernel
theorem dX3_joins_110 : decode cX3_joins 110 = .ok (.iload 4, 2) := by decide +kernel
theorem dX3_joins_112 : decode cX3_joins 112 = .ok (.ifCond .ne 20, 3) := by decide +kernel
theorem dX3_joins_115 : decode cX3_joins 115 = .ok (.aload_n 0, 1) := by decide +kernel
theorem dX3_joins_116 : decode cX3_joins 116 = .ok (.aload_n 0, 1) := by decide +kernel
theorem dX3_joins_117 : decode cX3_joins 117 = .ok (.getfield 19, 3) := by decide +kernel
theorem dX3_joins_120 : decode cX3_joins 120 = .ok (.iload_n 2, 1) := by decide +kernel
theorem dX3_joins_121 : decode cX3_joins 121 = .ok (.iaload, 1) := by decide +kernel
theorem dX3_joins_122 : decode cX3_joins 122 = .ok (.aload_n 0, 1) := by decide +kernel
theorem dX3_joins_123 : decode cX3_joins 123 = .ok (.getfield 128, 3) := by decide +kernel
theorem dX3_joins_126 : decode cX3_joins 126 = .ok (.invokevirtual 146, 3) := by decide +kernel
theorem dX3_joins_129 : decode cX3_joins 129 = .ok (.goto 135, 3) := by decide +kernel
theorem dX3_joins_132 : decode cX3_joins 132 = .ok (.aload_n 0, 1) := by decide +kernel
theorem dX3_joins_133 : decode cX3_joins 133 = .ok (.aload_n 0, 1) := by decide +kernel
theorem dX3_joins_134 : decode cX3_joins 134 = .ok (.getfield 128, 3) := by decide +kernel
theorem dX3_joins_137 : decode cX3_joins 137 = .ok (.invokevirtual 140, 3) := by decide +kernel
theorem dX3_joins_140 : decode cX3_joins 140 = .ok (.goto 124, 3) := by decide +kernel
theorem dX3_joins_143 : decode cX3_joins 143 = .ok (.aload_n 0, 1) := by decide +kernel
theorem dX3_joins_144 : decode cX3_joins 144 = .ok (.getfield 50, 3) := by decide +kernel
theorem dX3_joins_147 : decode cX3_joins 147 = .ok (.iload_n 1, 1) := by decide +kernel
theorem dX3_joins_148 : decode cX3_joins 148 = .ok (.iaload, 1) := by decide +kernel
theorem dX3_joins_149 : decode cX3_joins 149 = .ok (.iconst 1, 1) := by decide +kernel
theorem dX3_joins_150 : decode cX3_joins 150 = .ok (.if_icmp .ne 31, 3) := by decide +kernel
theorem dX3_joins_153 : decode cX3_joins 153 = .ok (.iload 4, 2) := by decide +kernel
theorem dX3_joins_155 : decode cX3_joins 155 = .ok (.ifCond .eq 26, 3) := by decide +kernel
theorem dX3_joins_158 : decode cX3_joins 158 = .ok (.aload_n 0, 1) := by decide +kernel
theorem dX3_joins_159 : decode cX3_joins 159 = .ok (.getfield 59, 3) := by decide +kernel
theorem dX3_joins_162 : decode cX3_joins 162 = .ok (.iload_n 1, 1) := by decide +kernel
theorem dX3_joins_163 : decode cX3_joins 163 = .ok (.baload, 1) := by decide +kernel
theorem dX3_joins_164 : decode cX3_joins 164 = .ok (.ifCond .ne 17, 3) := by decide +kernel
theorem dX3_joins_167 : decode cX3_joins 167 = .ok (.aload_n 0, 1) := by decide +kernel
theorem dX3_joins_168 : decode cX3_joins 168 = .ok (.aload_n 0, 1) := by decide +kernel
theorem dX3_joins_169 : decode cX3_joins 169 = .ok (.getfield 19, 3) := by decide +kernel
theorem dX3_joins_172 : decode cX3_joins 172 = .ok (.iload_n 2, 1) := by decide +kernel
theorem dX3_joins_173 : decode cX3_joins 173 = .ok (.iaload, 1) := by decide +kernel
theorem dX3_joins_174 : decode cX3_joins 174 = .ok (.iload_n 3, 1) := by decide +kernel
theorem dX3_joins_175 : decode cX3_joins 175 = .ok (.invokevirtual 146, 3) := by decide +kernel
theorem dX3_joins_178 : decode cX3_joins 178 = .ok (.goto 86, 3) := by decide +kernel
theorem dX3_joins_181 : decode cX3_joins 181 = .ok (.aload_n 0, 1) := by decide +kernel
theorem dX3_joins_182 : decode cX3_joins 182 = .ok (.aload_n 0, 1) := by decide +kernel
theorem dX3_joins_183 : decode cX3_joins 183 = .ok (.getfield 128, 3) := by decide +kernel
theorem dX3_joins_186 : decode cX3_joins 186 = .ok (.invokevirtual 140, 3) := by decide +kernel
theorem dX3_joins_189 : decode cX3_joins 189 = .ok (.goto 75, 3) := by decide +kernel
theorem dX3_joins_192 : decode cX3_joins 192 = .ok (.aload_n 0, 1) := by decide +kernel
theorem dX3_joins_193 : decode cX3_joins 193 = .ok (.iload_n 1, 1) := by decide +kernel
theorem dX3_joins_194 : decode cX3_joins 194 = .ok (.iload_n 2, 1) := by decide +kernel
theorem dX3_joins_195 : decode cX3_joins 195 = .ok (.iload 4, 2) := by decide +kernel
theorem dX3_joins_197 : decode cX3_joins 197 = .ok (.invokevirtual 149, 3) := by decide +kernel
theorem dX3_joins_200 : decode cX3_joins 200 = .ok (.goto 64, 3) := by decide +kernel
theorem dX3_joins_203 : decode cX3_joins 203 = .ok (.aload_n 0, 1) := by decide +kernel
theorem dX3_joins_204 : decode cX3_joins 204 = .ok (.iload 4, 2) := by decide +kernel
theorem dX3_joins_206 : decode cX3_joins 206 = .ok (.ifCond .eq 7, 3) := by decide +kernel
theorem dX3_joins_209 : decode cX3_joins 209 = .ok (.iload_n 3, 1) := by decide +kernel
theorem dX3_joins_210 : decode cX3_joins 210 = .ok (.goto 7, 3) := by decide +kernel
theorem dX3_joins_213 : decode cX3_joins 213 = .ok (.aload_n 0, 1) := by decide +kernel
theorem dX3_joins_214 : decode cX3_joins 214 = .ok (.getfield 128, 3) := by decide +kernel
theorem dX3_joins_217 : decode cX3_joins 217 = .ok (.invokevirtual 140, 3) := by decide +kernel
theorem dX3_joins_220 : decode cX3_joins 220 = .ok (.goto 44, 3) := by decide +kernel
theorem dX3_joins_223 : decode cX3_joins 223 = .ok (.aload_n 0, 1) := by decide +kernel
theorem dX3_joins_224 : decode cX3_joins 224 = .ok (.iload 4, 2) := by decide +kernel
theorem dX3_joins_226 : decode cX3_joins 226 = .ok (.ifCond .eq 7, 3) := by decide +kernel
theorem dX3_joins_229 : decode cX3_joins 229 = .ok (.iload_n 3, 1) := by decide +kernel
theorem dX3_joins_230 : decode cX3_joins 230 = .ok (.goto 4, 3) := by decide +kernel
theorem dX3_joins_233 : decode cX3_joins 233 = .ok (.iconst (-1), 1) := by decide +kernel
theorem dX3_joins_234 : decode cX3_joins 234 = .ok (.invokevirtual 140, 3) := by decide +kernel
theorem dX3_joins_237 : decode cX3_joins 237 = .ok (.goto 27, 3) := by decide +kernel
theorem dX3_joins_240 : decode cX3_joins 240 = .ok (.iload 4, 2) := by decide +kernel
theorem dX3_joins_242 : decode cX3_joins 242 = .ok (.ifCond .ne 8, 3) := by decide +kernel
theorem dX3_joins_245 : decode cX3_joins 245 = .ok (.aload_n 0, 1) := by decide +kernel
theorem dX3_joins_246 : decode cX3_joins 246 = .ok (.iload_n 1, 1) := by decide +kernel
theorem dX3_joins_247 : decode cX3_joins 247 = .ok (.invokevirtual 124, 3) := by decide +kernel
theorem dX3_joins_250 : decode cX3_joins 250 = .ok (.aload_n 0, 1) := by decide +kernel
theorem dX3_joins_251 : decode cX3_joins 251 = .ok (.iload 4, 2) := by decide +kernel
theorem dX3_joins_253 : decode cX3_joins 253 = .ok (.ifCond .eq 7, 3) := by decide +kernel
theorem dX3_joins_256 : decode cX3_joins 256 = .ok (.iconst (-1), 1) := by decide +kernel
theorem dX3_joins_257 : decode cX3_joins 257 = .ok (.goto 4, 3) := by decide +kernel
theorem dX3_joins_260 : decode cX3_joins 260 = .ok (.iload_n 3, 1) := by decide +kernel
theorem dX3_joins_261 : decode cX3_joins 261 = .ok (.invokevirtual 140, 3) := by decide +kernel
theorem dX3_joins_264 : decode cX3_joins 264 = .ok (.return_, 1) := by decide +kernel
set_option maxRecDepth 20000 in
theorem ggX3_again_X3_keep : GoodIn wsX3_again wsX3_keep := goodIn_r _ [14, 4, 5, 6, 7, 8, 9, 44, 45, 46, 47, 48, 49, 50, 51, 52, 53, 54, 55, 56, 57, 58, 59, 60, 61, 62, 63, 64, 65, 66, 67, 68, 69, 70, 71, 72, 73, 74, 75, 76, 77, 78, 79] (by decide +kernel) (by decide +kernel)
set_option maxRecDepth 20000 in
theorem gX3_again_X3_keep : GoodIn wsX3_again (wsV RX3 143 RX3 yX3_keep wsX3_keep) := goodIn_app (goodIn_of _ (by decide +kernel)) ggX3_again_X3_keep
set_option maxRecDepth 20000 in
theorem ggX3_again_X3_asks : GoodIn wsX3_again wsX3_asks := goodIn_r _ [18, 19, 20, 21, 22, 23, 13, 24, 25, 26, 27, 28, 29, 30, 2, 31, 32, 5, 33, 7, 34, 9, 35, 44, 45, 46, 47, 48, 49, 50, 51, 52, 53, 54, 55, 56, 57, 58, 59, 60, 61, 62, 63, 64, 65, 66, 67, 68, 69, 70, 71, 72, 73, 74, 75, 76, 77, 78, 79] (by decide +kernel) (by decide +kernel)
set_option maxRecDepth 20000 in
theorem gX3_again_X3_asks : GoodIn wsX3_again (wsV RX3 146 RX3 yX3_asks wsX3_asks) := goodIn_app (goodIn_of _ (by decide +kernel)) ggX3_again_X3_asks
set_option maxRecDepth 20000 in
theorem ggX3_again_X3_ends : GoodIn wsX3_again wsX3_ends := goodIn_r _ [39, 20, 1, 40, 41, 42, 13, 43, 32, 5, 33, 7, 34, 9, 44, 45, 46, 47, 48, 49, 50, 51, 52, 53, 54, 55, 56, 57, 58, 59, 60, 61, 62, 63, 64, 65, 66, 67, 68, 69, 70, 71, 72, 73, 74, 75, 76, 77, 78, 79] (by decide +kernel) (by decide +kernel)
set_option maxRecDepth 20000 in
theorem gX3_again_X3_ends : GoodIn wsX3_again (wsV RX3 140 RX3 yX3_ends wsX3_ends) := goodIn_app (goodIn_of _ (by decide +kernel)) ggX3_again_X3_ends
theorem dX3_again_0 : decode cX3_again 0 = .ok (.iload_n 3, 1) := by decide +kernel
theorem dX3_again_1 : decode cX3_again 1 = .ok (.ifCond .ne 48, 3) := by decide +kernel
theorem dX3_again_4 : decode cX3_again 4 = .ok (.aload_n 0, 1) := by decide +kernel
theorem dX3_again_5 : decode cX3_again 5 = .ok (.getfield 128, 3) := by decide +kernel
theorem dX3_again_8 : decode cX3_again 8 = .ok (.aload_n 0, 1) := by decide +kernel
theorem dX3_again_9 : decode cX3_again 9 = .ok (.getfield 56, 3) := by decide +kernel
theorem dX3_again_12 : decode cX3_again 12 = .ok (.iload_n 1, 1) := by decide +kernel
theorem dX3_again_13 : decode cX3_again 13 = .ok (.iaload, 1) := by decide +kernel
theorem dX3_again_14 : decode cX3_again 14 = .ok (.if_icmp .le 35, 3) := by decide +kernel
theorem dX3_again_17 : decode cX3_again 17 = .ok (.aload_n 0, 1) := by decide +kernel
theorem dX3_again_18 : decode cX3_again 18 = .ok (.getfield 56, 3) := by decide +kernel
theorem dX3_again_21 : decode cX3_again 21 = .ok (.iload_n 1, 1) := by decide +kernel
theorem dX3_again_22 : decode cX3_again 22 = .ok (.aload_n 0, 1) := by decide +kernel
theorem dX3_again_23 : decode cX3_again 23 = .ok (.getfield 128, 3) := by decide +kernel
theorem dX3_again_26 : decode cX3_again 26 = .ok (.iastore, 1) := by decide +kernel
theorem dX3_again_27 : decode cX3_again 27 = .ok (.aload_n 0, 1) := by decide +kernel
theorem dX3_again_28 : decode cX3_again 28 = .ok (.iload_n 1, 1) := by decide +kernel
theorem dX3_again_29 : decode cX3_again 29 = .ok (.invokevirtual 143, 3) := by decide +kernel
theorem dX3_again_32 : decode cX3_again 32 = .ok (.aload_n 0, 1) := by decide +kernel
theorem dX3_again_33 : decode cX3_again 33 = .ok (.aload_n 0, 1) := by decide +kernel
theorem dX3_again_34 : decode cX3_again 34 = .ok (.getfield 16, 3) := by decide +kernel
theorem dX3_again_37 : decode cX3_again 37 = .ok (.iload_n 2, 1) := by decide +kernel
theorem dX3_again_38 : decode cX3_again 38 = .ok (.iaload, 1) := by decide +kernel
theorem dX3_again_39 : decode cX3_again 39 = .ok (.aload_n 0, 1) := by decide +kernel
theorem dX3_again_40 : decode cX3_again 40 = .ok (.getfield 56, 3) := by decide +kernel
theorem dX3_again_43 : decode cX3_again 43 = .ok (.iload_n 1, 1) := by decide +kernel
theorem dX3_again_44 : decode cX3_again 44 = .ok (.iaload, 1) := by decide +kernel
theorem dX3_again_45 : decode cX3_again 45 = .ok (.invokevirtual 146, 3) := by decide +kernel
theorem dX3_again_48 : decode cX3_again 48 = .ok (.return_, 1) := by decide +kernel
theorem dX3_again_49 : decode cX3_again 49 = .ok (.aload_n 0, 1) := by decide +kernel
theorem dX3_again_50 : decode cX3_again 50 = .ok (.aload_n 0, 1) := by decide +kernel
theorem dX3_again_51 : decode cX3_again 51 = .ok (.getfield 72, 3) := by decide +kernel
theorem dX3_again_54 : decode cX3_again 54 = .ok (.iload_n 1, 1) := by decide +kernel
theorem dX3_again_55 : decode cX3_again 55 = .ok (.iaload, 1) := by decide +kernel
theorem dX3_again_56 : decode cX3_again 56 = .ok (.putfield 108, 3) := by decide +kernel
theorem dX3_again_59 : decode cX3_again 59 = .ok (.aload_n 0, 1) := by decide +kernel
theorem dX3_again_60 : decode cX3_again 60 = .ok (.aload_n 0, 1) := by decide +kernel
theorem dX3_again_61 : decode cX3_again 61 = .ok (.getfield 75, 3) := by decide +kernel
theorem dX3_again_64 : decode cX3_again 64 = .ok (.iload_n 1, 1) := by decide +kernel
theorem dX3_again_65 : decode cX3_again 65 = .ok (.iaload, 1) := by decide +kernel
theorem dX3_again_66 : decode cX3_again 66 = .ok (.putfield 111, 3) := by decide +kernel
theorem dX3_again_69 : decode cX3_again 69 = .ok (.aload_n 0, 1) := by decide +kernel
theorem dX3_again_70 : decode cX3_again 70 = .ok (.aload_n 0, 1) := by decide +kernel
theorem dX3_again_71 : decode cX3_again 71 = .ok (.getfield 78, 3) := by decide +kernel
theorem dX3_again_74 : decode cX3_again 74 = .ok (.iload_n 1, 1) := by decide +kernel
theorem dX3_again_75 : decode cX3_again 75 = .ok (.iaload, 1) := by decide +kernel
theorem dX3_again_76 : decode cX3_again 76 = .ok (.putfield 114, 3) := by decide +kernel
theorem dX3_again_79 : decode cX3_again 79 = .ok (.aload_n 0, 1) := by decide +kernel
theorem dX3_again_80 : decode cX3_again 80 = .ok (.aload_n 0, 1) := by decide +kernel
theorem dX3_again_81 : decode cX3_again 81 = .ok (.getfield 56, 3) := by decide +kernel
theorem dX3_again_84 : decode cX3_again 84 = .ok (.iload_n 1, 1) := by decide +kernel
theorem dX3_again_85 : decode cX3_again 85 = .ok (.iaload, 1) := by decide +kernel
theorem dX3_again_86 : decode cX3_again 86 = .ok (.invokevirtual 140, 3) := by decide +kernel
theorem dX3_again_89 : decode cX3_again 89 = .ok (.return_, 1) := by decide +kernel
set_option maxRecDepth 20000 in
theorem ggX3_others_X3_ends : GoodIn wsX3_others wsX3_ends := goodIn_r _ [18, 19, 4, 20, 21, 22, 17, 23, 24, 13, 25, 26, 27, 9, 73, 74, 75, 76, 77, 78, 79, 80, 81, 82, 83, 84, 85, 86, 87, 88, 89, 90, 91, 92, 93, 94, 95, 96, 97, 98, 99, 100, 101, 102, 103, 104, 105, 106, 107, 108] (by decide +kernel) (by decide +kernel)
set_option maxRecDepth 20000 in
theorem gX3_others_X3_ends : GoodIn wsX3_others (wsV RX3 140 RX3 yX3_ends wsX3_ends) := goodIn_app (goodIn_of _ (by decide +kernel)) ggX3_others_X3_ends
set_option maxRecDepth 20000 in
theorem ggX3_others_X3_asks : GoodIn wsX3_others wsX3_asks := goodIn_r _ [31, 3, 19, 32, 33, 34, 17, 35, 7, 36, 37, 38, 39, 1, 40, 41, 24, 13, 25, 26, 27, 9, 42, 73, 74, 75, 76, 77, 78, 79, 80, 81, 82, 83, 84, 85, 86, 87, 88, 89, 90, 91, 92, 93, 94, 95, 96, 97, 98, 99, 100, 101, 102, 103, 104, 105, 106, 107, 108] (by decide +kernel) (by decide +kernel)
set_option maxRecDepth 20000 in
theorem gX3_others_X3_asks : GoodIn wsX3_others (wsV RX3 146 RX3 yX3_asks wsX3_asks) := goodIn_app (goodIn_of _ (by decide +kernel)) ggX3_others_X3_asks
set_option maxRecDepth 20000 in
theorem ggX3_others_X3_bars : GoodIn wsX3_others wsX3_bars := goodIn_r _ [46, 2, 39, 3, 41, 73, 74, 75, 76, 77, 78, 79, 80, 81, 82, 83, 84, 85, 86, 87, 88, 89, 90, 91, 92, 93, 94, 95, 96, 97, 98, 99, 100, 101, 102, 103, 104, 105, 106, 107, 108] (by decide +kernel) (by decide +kernel)
set_option maxRecDepth 20000 in
theorem gX3_others_X3_bars : GoodIn wsX3_others (wsV RX3 153 RX3 yX3_bars wsX3_bars) := goodIn_app (goodIn_of _ (by decide +kernel)) ggX3_others_X3_bars
set_option maxRecDepth 20000 in
theorem ggX3_others_X3_lay : GoodIn wsX3_others wsX3_lay := goodIn_r _ [50, 26, 51, 52, 53, 13, 73, 74, 75, 76, 77, 78, 79, 80, 81, 82, 83, 84, 85, 86, 87, 88, 89, 90, 91, 92, 93, 94, 95, 96, 97, 98, 99, 100, 101, 102, 103, 104, 105, 106, 107, 108] (by decide +kernel) (by decide +kernel)
set_option maxRecDepth 20000 in
theorem gX3_others_X3_lay : GoodIn wsX3_others (wsV RX3 156 RX3 yX3_lay wsX3_lay) := goodIn_app (goodIn_of _ (by decide +kernel)) ggX3_others_X3_lay
set_option maxRecDepth 20000 in
theorem ggX3_others_X3_figure : GoodIn wsX3_others wsX3_figure := goodIn_r _ [57, 58, 59, 13, 7, 60, 51, 61, 52, 62, 63, 17, 64, 14, 15, 16, 18, 19, 4, 20, 21, 22, 23, 24, 25, 26, 27, 9, 47, 48, 49, 50, 53, 73, 74, 75, 76, 77, 78, 79, 80, 81, 82, 83, 84, 85, 86, 87, 88, 89, 90, 91, 92, 93, 94, 95, 96, 97, 98, 99, 100, 101, 102, 103, 104, 105, 106, 107, 108] (by decide +kernel) (by decide +kernel)
set_option maxRecDepth 20000 in
theorem gX3_others_X3_figure : GoodIn wsX3_others (wsV RX3 160 RX3 yX3_figure wsX3_figure) := goodIn_app (goodIn_of _ (by decide +kernel)) ggX3_others_X3_figure
set_option maxRecDepth 20000 in
theorem ggX3_others_X3_acts : GoodIn wsX3_others wsX3_acts := goodIn_r _ [68, 7, 51, 13, 52, 69, 70, 71, 17, 72, 53, 47, 48, 49, 50, 26, 14, 15, 16, 18, 19, 4, 20, 21, 22, 23, 24, 25, 27, 9, 73, 74, 75, 76, 77, 78, 79, 80, 81, 82, 83, 84, 85, 86, 87, 88, 89, 90, 91, 92, 93, 94, 95, 96, 97, 98, 99, 100, 101, 102, 103, 104, 105, 106, 107, 108] (by decide +kernel) (by decide +kernel)
set_option maxRecDepth 20000 in
theorem gX3_others_X3_acts : GoodIn wsX3_others (wsV RX3 163 RX3 yX3_acts wsX3_acts) := goodIn_app (goodIn_of _ (by decide +kernel)) ggX3_others_X3_acts
theorem dX3_others_0 : decode cX3_others 0 = .ok (.aload_n 0, 1) := by decide +kernel
theorem dX3_others_1 : decode cX3_others 1 = .ok (.getfield 53, 3) := by decide +kernel
theorem dX3_others_4 : decode cX3_others 4 = .ok (.iload_n 1, 1) := by decide +kernel
theorem dX3_others_5 : decode cX3_others 5 = .ok (.iaload, 1) := by decide +kernel
theorem dX3_others_6 : decode cX3_others 6 = .ok (.istore_n 3, 1) := by decide +kernel
theorem dX3_others_7 : decode cX3_others 7 = .ok (.aload_n 0, 1) := by decide +kernel
theorem dX3_others_8 : decode cX3_others 8 = .ok (.getfield 13, 3) := by decide +kernel
theorem dX3_others_11 : decode cX3_others 11 = .ok (.iload_n 2, 1) := by decide +kernel
theorem dX3_others_12 : decode cX3_others 12 = .ok (.iaload, 1) := by decide +kernel
theorem dX3_others_13 : decode cX3_others 13 = .ok (.tableswitch 231 10 14 #[35, 97, 187, 200, 223], 35) := by decide +kernel
theorem dX3_others_48 : decode cX3_others 48 = .ok (.aload_n 0, 1) := by decide +kernel
theorem dX3_others_49 : decode cX3_others 49 = .ok (.getfield 50, 3) := by decide +kernel
theorem dX3_others_52 : decode cX3_others 52 = .ok (.iload_n 1, 1) := by decide +kernel
theorem dX3_others_53 : decode cX3_others 53 = .ok (.iaload, 1) := by decide +kernel
theorem dX3_others_54 : decode cX3_others 54 = .ok (.ifCond .le 14, 3) := by decide +kernel
theorem dX3_others_57 : decode cX3_others 57 = .ok (.aload_n 0, 1) := by decide +kernel
theorem dX3_others_58 : decode cX3_others 58 = .ok (.aload_n 0, 1) := by decide +kernel
theorem dX3_others_59 : decode cX3_others 59 = .ok (.getfield 128, 3) := by decide +kernel
theorem dX3_others_62 : decode cX3_others 62 = .ok (.invokevirtual 140, 3) := by decide +kernel
theorem dX3_others_65 : decode cX3_others 65 = .ok (.goto 190, 3) := by decide +kernel
theorem dX3_others_68 : decode cX3_others 68 = .ok (.aload_n 0, 1) := by decide +kernel
theorem dX3_others_69 : decode cX3_others 69 = .ok (.getfield 25, 3) := by decide +kernel
theorem dX3_others_72 : decode cX3_others 72 = .ok (.aload_n 0, 1) := by decide +kernel
theorem dX3_others_73 : decode cX3_others 73 = .ok (.getfield 16, 3) := by decide +kernel
theorem dX3_others_76 : decode cX3_others 76 = .ok (.iload_n 2, 1) := by decide +kernel
theorem dX3_others_77 : decode cX3_others 77 = .ok (.iaload, 1) := by decide +kernel
theorem dX3_others_78 : decode cX3_others 78 = .ok (.iaload, 1) := by decide +kernel
theorem dX3_others_79 : decode cX3_others 79 = .ok (.iconst (-1), 1) := by decide +kernel
theorem dX3_others_80 : decode cX3_others 80 = .ok (.if_icmp .ne 11, 3) := by decide +kernel
theorem dX3_others_83 : decode cX3_others 83 = .ok (.aload_n 0, 1) := by decide +kernel
theorem dX3_others_84 : decode cX3_others 84 = .ok (.iconst 1, 1) := by decide +kernel
theorem dX3_others_85 : decode cX3_others 85 = .ok (.putfield 99, 3) := by decide +kernel
theorem dX3_others_88 : decode cX3_others 88 = .ok (.goto 167, 3) := by decide +kernel
theorem dX3_others_91 : decode cX3_others 91 = .ok (.aload_n 0, 1) := by decide +kernel
theorem dX3_others_92 : decode cX3_others 92 = .ok (.aload_n 0, 1) := by decide +kernel
theorem dX3_others_93 : decode cX3_others 93 = .ok (.getfield 25, 3) := by decide +kernel
theorem dX3_others_96 : decode cX3_others 96 = .ok (.aload_n 0, 1) := by decide +kernel
theorem dX3_others_97 : decode cX3_others 97 = .ok (.getfield 16, 3) := by decide +kernel
theorem dX3_others_100 : decode cX3_others 100 = .ok (.iload_n 2, 1) := by decide +kernel
theorem dX3_others_101 : decode cX3_others 101 = .ok (.iaload, 1) := by decide +kernel
theorem dX3_others_102 : decode cX3_others 102 = .ok (.iaload, 1) := by decide +kernel
theorem dX3_others_103 : decode cX3_others 103 = .ok (.iload_n 3, 1) := by decide +kernel
theorem dX3_others_104 : decode cX3_others 104 = .ok (.invokevirtual 146, 3) := by decide +kernel
theorem dX3_others_107 : decode cX3_others 107 = .ok (.goto 148, 3) := by decide +kernel
theorem dX3_others_110 : decode cX3_others 110 = .ok (.aload_n 0, 1) := by decide +kernel
theorem dX3_others_111 : decode cX3_others 111 = .ok (.getfield 50, 3) := by decide +kernel
theorem dX3_others_114 : decode cX3_others 114 = .ok (.iload_n 1, 1) := by decide +kernel
theorem dX3_others_115 : decode cX3_others 115 = .ok (.iaload, 1) := by decide +kernel
theorem dX3_others_116 : decode cX3_others 116 = .ok (.ifCond .ne 17, 3) := by decide +kernel
theorem dX3_others_119 : decode cX3_others 119 = .ok (.aload_n 0, 1) := by decide +kernel
theorem dX3_others_120 : decode cX3_others 120 = .ok (.aload_n 0, 1) := by decide +kernel
theorem dX3_others_121 : decode cX3_others 121 = .ok (.getfield 16, 3) := by decide +kernel
theorem dX3_others_124 : decode cX3_others 124 = .ok (.iload_n 2, 1) := by decide +kernel
theorem dX3_others_125 : decode cX3_others 125 = .ok (.iaload, 1) := by decide +kernel
theorem dX3_others_126 : decode cX3_others 126 = .ok (.iload_n 3, 1) := by decide +kernel
theorem dX3_others_127 : decode cX3_others 127 = .ok (.invokevirtual 146, 3) := by decide +kernel
theorem dX3_others_130 : decode cX3_others 130 = .ok (.goto 125, 3) := by decide +kernel
theorem dX3_others_133 : decode cX3_others 133 = .ok (.aload_n 0, 1) := by decide +kernel
theorem dX3_others_134 : decode cX3_others 134 = .ok (.getfield 128, 3) := by decide +kernel
theorem dX3_others_137 : decode cX3_others 137 = .ok (.iconst (-1), 1) := by decide +kernel
theorem dX3_others_138 : decode cX3_others 138 = .ok (.if_icmp .eq 51, 3) := by decide +kernel
theorem dX3_others_141 : decode cX3_others 141 = .ok (.aload_n 0, 1) := by decide +kernel
theorem dX3_others_142 : decode cX3_others 142 = .ok (.getfield 38, 3) := by decide +kernel
theorem dX3_others_145 : decode cX3_others 145 = .ok (.aload_n 0, 1) := by decide +kernel
theorem dX3_others_146 : decode cX3_others 146 = .ok (.getfield 114, 3) := by decide +kernel
theorem dX3_others_149 : decode cX3_others 149 = .ok (.aload_n 0, 1) := by decide +kernel
theorem dX3_others_150 : decode cX3_others 150 = .ok (.getfield 19, 3) := by decide +kernel
theorem dX3_others_153 : decode cX3_others 153 = .ok (.iload_n 2, 1) := by decide +kernel
theorem dX3_others_154 : decode cX3_others 154 = .ok (.iaload, 1) := by decide +kernel
theorem dX3_others_155 : decode cX3_others 155 = .ok (.iastore, 1) := by decide +kernel
theorem dX3_others_156 : decode cX3_others 156 = .ok (.aload_n 0, 1) := by decide +kernel
theorem dX3_others_157 : decode cX3_others 157 = .ok (.getfield 41, 3) := by decide +kernel
theorem dX3_others_160 : decode cX3_others 160 = .ok (.aload_n 0, 1) := by decide +kernel
theorem dX3_others_161 : decode cX3_others 161 = .ok (.getfield 114, 3) := by decide +kernel
theorem dX3_others_164 : decode cX3_others 164 = .ok (.iload_n 3, 1) := by decide +kernel
theorem dX3_others_165 : decode cX3_others 165 = .ok (.iastore, 1) := by decide +kernel
theorem dX3_others_166 : decode cX3_others 166 = .ok (.aload_n 0, 1) := by decide +kernel
theorem dX3_others_167 : decode cX3_others 167 = .ok (.getfield 44, 3) := by decide +kernel
theorem dX3_others_170 : decode cX3_others 170 = .ok (.aload_n 0, 1) := by decide +kernel
theorem dX3_others_171 : decode cX3_others 171 = .ok (.getfield 114, 3) := by decide +kernel
theorem dX3_others_174 : decode cX3_others 174 = .ok (.aload_n 0, 1) := by decide +kernel
theorem dX3_others_175 : decode cX3_others 175 = .ok (.getfield 128, 3) := by decide +kernel
theorem dX3_others_178 : decode cX3_others 178 = .ok (.iastore, 1) := by decide +kernel
theorem dX3_others_179 : decode cX3_others 179 = .ok (.aload_n 0, 1) := by decide +kernel
theorem dX3_others_180 : decode cX3_others 180 = .ok (.dup, 1) := by decide +kernel
theorem dX3_others_181 : decode cX3_others 181 = .ok (.getfield 114, 3) := by decide +kernel
theorem dX3_others_184 : decode cX3_others 184 = .ok (.iconst 1, 1) := by decide +kernel
theorem dX3_others_185 : decode cX3_others 185 = .ok (.iadd, 1) := by decide +kernel
theorem dX3_others_186 : decode cX3_others 186 = .ok (.putfield 114, 3) := by decide +kernel
theorem dX3_others_189 : decode cX3_others 189 = .ok (.aload_n 0, 1) := by decide +kernel
theorem dX3_others_190 : decode cX3_others 190 = .ok (.aload_n 0, 1) := by decide +kernel
theorem dX3_others_191 : decode cX3_others 191 = .ok (.getfield 128, 3) := by decide +kernel
theorem dX3_others_194 : decode cX3_others 194 = .ok (.invokevirtual 140, 3) := by decide +kernel
theorem dX3_others_197 : decode cX3_others 197 = .ok (.goto 58, 3) := by decide +kernel
theorem dX3_others_200 : decode cX3_others 200 = .ok (.aload_n 0, 1) := by decide +kernel
theorem dX3_others_201 : decode cX3_others 201 = .ok (.iload_n 1, 1) := by decide +kernel
theorem dX3_others_202 : decode cX3_others 202 = .ok (.invokevirtual 153, 3) := by decide +kernel
theorem dX3_others_205 : decode cX3_others 205 = .ok (.aload_n 0, 1) := by decide +kernel
theorem dX3_others_206 : decode cX3_others 206 = .ok (.iload_n 3, 1) := by decide +kernel
theorem dX3_others_207 : decode cX3_others 207 = .ok (.invokevirtual 140, 3) := by decide +kernel
theorem dX3_others_210 : decode cX3_others 210 = .ok (.goto 45, 3) := by decide +kernel
theorem dX3_others_213 : decode cX3_others 213 = .ok (.aload_n 0, 1) := by decide +kernel
theorem dX3_others_214 : decode cX3_others 214 = .ok (.aload_n 0, 1) := by decide +kernel
theorem dX3_others_215 : decode cX3_others 215 = .ok (.getfield 16, 3) := by decide +kernel
theorem dX3_others_218 : decode cX3_others 218 = .ok (.iload_n 2, 1) := by decide +kernel
theorem dX3_others_219 : decode cX3_others 219 = .ok (.iaload, 1) := by decide +kernel
theorem dX3_others_220 : decode cX3_others 220 = .ok (.i2l, 1) := by decide +kernel
theorem dX3_others_221 : decode cX3_others 221 = .ok (.aload_n 0, 1) := by decide +kernel
theorem dX3_others_222 : decode cX3_others 222 = .ok (.getfield 108, 3) := by decide +kernel
theorem dX3_others_225 : decode cX3_others 225 = .ok (.invokevirtual 156, 3) := by decide +kernel
theorem dX3_others_228 : decode cX3_others 228 = .ok (.aload_n 0, 1) := by decide +kernel
theorem dX3_others_229 : decode cX3_others 229 = .ok (.iload_n 3, 1) := by decide +kernel
theorem dX3_others_230 : decode cX3_others 230 = .ok (.invokevirtual 140, 3) := by decide +kernel
theorem dX3_others_233 : decode cX3_others 233 = .ok (.goto 22, 3) := by decide +kernel
theorem dX3_others_236 : decode cX3_others 236 = .ok (.aload_n 0, 1) := by decide +kernel
theorem dX3_others_237 : decode cX3_others 237 = .ok (.iload_n 3, 1) := by decide +kernel
theorem dX3_others_238 : decode cX3_others 238 = .ok (.invokevirtual 160, 3) := by decide +kernel
theorem dX3_others_241 : decode cX3_others 241 = .ok (.goto 14, 3) := by decide +kernel
theorem dX3_others_244 : decode cX3_others 244 = .ok (.aload_n 0, 1) := by decide +kernel
theorem dX3_others_245 : decode cX3_others 245 = .ok (.iload_n 3, 1) := by decide +kernel
theorem dX3_others_246 : decode cX3_others 246 = .ok (.aload_n 0, 1) := by decide +kernel
theorem dX3_others_247 : decode cX3_others 247 = .ok (.getfield 16, 3) := by decide +kernel
theorem dX3_others_250 : decode cX3_others 250 = .ok (.iload_n 2, 1) := by decide +kernel
theorem dX3_others_251 : decode cX3_others 251 = .ok (.iaload, 1) := by decide +kernel
theorem dX3_others_252 : decode cX3_others 252 = .ok (.invokevirtual 163, 3) := by decide +kernel
theorem dX3_others_255 : decode cX3_others 255 = .ok (.return_, 1) := by decide +kernel
theorem dX3_bars_0 : decode cX3_bars 0 = .ok (.iload_n 1, 1) := by decide +kernel
theorem dX3_bars_1 : decode cX3_bars 1 = .ok (.iconst 1, 1) := by decide +kernel
theorem dX3_bars_2 : decode cX3_bars 2 = .ok (.isub, 1) := by decide +kernel
theorem dX3_bars_3 : decode cX3_bars 3 = .ok (.istore_n 2, 1) := by decide +kernel
theorem dX3_bars_4 : decode cX3_bars 4 = .ok (.iload_n 2, 1) := by decide +kernel
theorem dX3_bars_5 : decode cX3_bars 5 = .ok (.ifCond .lt 34, 3) := by decide +kernel
theorem dX3_bars_8 : decode cX3_bars 8 = .ok (.aload_n 0, 1) := by decide +kernel
theorem dX3_bars_9 : decode cX3_bars 9 = .ok (.getfield 13, 3) := by decide +kernel
theorem dX3_bars_12 : decode cX3_bars 12 = .ok (.aload_n 0, 1) := by decide +kernel
theorem dX3_bars_13 : decode cX3_bars 13 = .ok (.getfield 47, 3) := by decide +kernel
theorem dX3_bars_16 : decode cX3_bars 16 = .ok (.iload_n 2, 1) := by decide +kernel
theorem dX3_bars_17 : decode cX3_bars 17 = .ok (.iaload, 1) := by decide +kernel
theorem dX3_bars_18 : decode cX3_bars 18 = .ok (.iaload, 1) := by decide +kernel
theorem dX3_bars_19 : decode cX3_bars 19 = .ok (.iconst 5, 1) := by decide +kernel
theorem dX3_bars_20 : decode cX3_bars 20 = .ok (.if_icmp .ne 13, 3) := by decide +kernel
theorem dX3_bars_23 : decode cX3_bars 23 = .ok (.aload_n 0, 1) := by decide +kernel
theorem dX3_bars_24 : decode cX3_bars 24 = .ok (.getfield 50, 3) := by decide +kernel
theorem dX3_bars_27 : decode cX3_bars 27 = .ok (.iload_n 2, 1) := by decide +kernel
theorem dX3_bars_28 : decode cX3_bars 28 = .ok (.iaload, 1) := by decide +kernel
theorem dX3_bars_29 : decode cX3_bars 29 = .ok (.iconst 1, 1) := by decide +kernel
theorem dX3_bars_30 : decode cX3_bars 30 = .ok (.if_icmp .eq 9, 3) := by decide +kernel
theorem dX3_bars_33 : decode cX3_bars 33 = .ok (.iinc 2 (-1), 3) := by decide +kernel
theorem dX3_bars_36 : decode cX3_bars 36 = .ok (.goto (-32), 3) := by decide +kernel
theorem dX3_bars_39 : decode cX3_bars 39 = .ok (.iload_n 2, 1) := by decide +kernel
theorem dX3_bars_40 : decode cX3_bars 40 = .ok (.ifCond .lt 10, 3) := by decide +kernel
theorem dX3_bars_43 : decode cX3_bars 43 = .ok (.aload_n 0, 1) := by decide +kernel
theorem dX3_bars_44 : decode cX3_bars 44 = .ok (.getfield 59, 3) := by decide +kernel
theorem dX3_bars_47 : decode cX3_bars 47 = .ok (.iload_n 2, 1) := by decide +kernel
theorem dX3_bars_48 : decode cX3_bars 48 = .ok (.iconst 1, 1) := by decide +kernel
theorem dX3_bars_49 : decode cX3_bars 49 = .ok (.bastore, 1) := by decide +kernel
theorem dX3_bars_50 : decode cX3_bars 50 = .ok (.return_, 1) := by decide +kernel
set_option maxRecDepth 20000 in
theorem ggX3_figure_X3_in : GoodIn wsX3_figure wsX3_in := goodIn_r _ [12] (by decide +kernel) (by decide +kernel)
set_option maxRecDepth 20000 in
theorem gX3_figure_X3_in : GoodIn wsX3_figure (va_wsS RX3 85 yX3_in wsX3_in) := goodIn_app (goodIn_of _ (by decide +kernel)) ggX3_figure_X3_in
set_option maxRecDepth 20000 in
theorem ggX3_figure_X3_ends : GoodIn wsX3_figure wsX3_ends := goodIn_r _ [16, 17, 18, 19, 20, 21, 11, 22, 23, 3, 24, 25, 26, 27, 33, 34, 35, 36, 37, 38, 39, 40, 41, 42, 43, 44, 45, 46, 47, 48, 49, 50, 51, 52, 53, 54, 55, 56, 57, 58, 59, 60, 61, 62, 63, 64, 65, 66, 67, 68] (by decide +kernel) (by decide +kernel)
set_option maxRecDepth 20000 in
theorem gX3_figure_X3_ends : GoodIn wsX3_figure (wsV RX3 140 RX3 yX3_ends wsX3_ends) := goodIn_app (goodIn_of _ (by decide +kernel)) ggX3_figure_X3_ends
set_option maxRecDepth 20000 in
theorem ggX3_figure_X3_lay : GoodIn wsX3_figure wsX3_lay := goodIn_r _ [31, 25, 6, 8, 32, 3, 33, 34, 35, 36, 37, 38, 39, 40, 41, 42, 43, 44, 45, 46, 47, 48, 49, 50, 51, 52, 53, 54, 55, 56, 57, 58, 59, 60, 61, 62, 63, 64, 65, 66, 67, 68] (by decide +kernel) (by decide +kernel)
set_option maxRecDepth 20000 in
theorem gX3_figure_X3_lay : GoodIn wsX3_figure (wsV RX3 156 RX3 yX3_lay wsX3_lay) := goodIn_app (goodIn_of _ (by decide +kernel)) ggX3_figure_X3_lay
theorem dX3_figure_0 : decode cX3_figure 0 = .ok (.iload_n 1, 1) := by decide +kernel
theorem dX3_figure_1 : decode cX3_figure 1 = .ok (.aload_n 0, 1) := by decide +kernel
theorem dX3_figure_2 : decode cX3_figure 2 = .ok (.getfield 89, 3) := by decide +kernel
theorem dX3_figure_5 : decode cX3_figure 5 = .ok (.if_icmp .ge 19, 3) := by decide +kernel
theorem dX3_figure_8 : decode cX3_figure 8 = .ok (.aload_n 0, 1) := by decide +kernel
theorem dX3_figure_9 : decode cX3_figure 9 = .ok (.getfield 7, 3) := by decide +kernel
theorem dX3_figure_12 : decode cX3_figure 12 = .ok (.iload_n 1, 1) := by decide +kernel
theorem dX3_figure_13 : decode cX3_figure 13 = .ok (.iaload, 1) := by decide +kernel
theorem dX3_figure_14 : decode cX3_figure 14 = .ok (.bipush 48, 2) := by decide +kernel
theorem dX3_figure_16 : decode cX3_figure 16 = .ok (.bipush 57, 2) := by decide +kernel
theorem dX3_figure_18 : decode cX3_figure 18 = .ok (.invokestatic 85, 3) := by decide +kernel
theorem dX3_figure_21 : decode cX3_figure 21 = .ok (.ifCond .ne 11, 3) := by decide +kernel
theorem dX3_figure_24 : decode cX3_figure 24 = .ok (.aload_n 0, 1) := by decide +kernel
theorem dX3_figure_25 : decode cX3_figure 25 = .ok (.iconst (-1), 1) := by decide +kernel
theorem dX3_figure_26 : decode cX3_figure 26 = .ok (.invokevirtual 140, 3) := by decide +kernel
theorem dX3_figure_29 : decode cX3_figure 29 = .ok (.goto 63, 3) := by decide +kernel
theorem dX3_figure_32 : decode cX3_figure 32 = .ok (.aload_n 0, 1) := by decide +kernel
theorem dX3_figure_33 : decode cX3_figure 33 = .ok (.getfield 108, 3) := by decide +kernel
theorem dX3_figure_36 : decode cX3_figure 36 = .ok (.ifCond .ne 11, 3) := by decide +kernel
theorem dX3_figure_39 : decode cX3_figure 39 = .ok (.aload_n 0, 1) := by decide +kernel
theorem dX3_figure_40 : decode cX3_figure 40 = .ok (.iconst 3, 1) := by decide +kernel
theorem dX3_figure_41 : decode cX3_figure 41 = .ok (.putfield 99, 3) := by decide +kernel
theorem dX3_figure_44 : decode cX3_figure 44 = .ok (.goto 48, 3) := by decide +kernel
theorem dX3_figure_47 : decode cX3_figure 47 = .ok (.aload_n 0, 1) := by decide +kernel
theorem dX3_figure_48 : decode cX3_figure 48 = .ok (.ldc2_w 166, 3) := by decide +kernel
theorem dX3_figure_51 : decode cX3_figure 51 = .ok (.aload_n 0, 1) := by decide +kernel
theorem dX3_figure_52 : decode cX3_figure 52 = .ok (.getfield 28, 3) := by decide +kernel
theorem dX3_figure_55 : decode cX3_figure 55 = .ok (.aload_n 0, 1) := by decide +kernel
theorem dX3_figure_56 : decode cX3_figure 56 = .ok (.getfield 108, 3) := by decide +kernel
theorem dX3_figure_59 : decode cX3_figure 59 = .ok (.laload, 1) := by decide +kernel
theorem dX3_figure_60 : decode cX3_figure 60 = .ok (.lmul, 1) := by decide +kernel
theorem dX3_figure_61 : decode cX3_figure 61 = .ok (.aload_n 0, 1) := by decide +kernel
theorem dX3_figure_62 : decode cX3_figure 62 = .ok (.getfield 7, 3) := by decide +kernel
theorem dX3_figure_65 : decode cX3_figure 65 = .ok (.iload_n 1, 1) := by decide +kernel
theorem dX3_figure_66 : decode cX3_figure 66 = .ok (.iaload, 1) := by decide +kernel
theorem dX3_figure_67 : decode cX3_figure 67 = .ok (.i2l, 1) := by decide +kernel
theorem dX3_figure_68 : decode cX3_figure 68 = .ok (.ladd, 1) := by decide +kernel
theorem dX3_figure_69 : decode cX3_figure 69 = .ok (.ldc2_w 168, 3) := by decide +kernel
theorem dX3_figure_72 : decode cX3_figure 72 = .ok (.lsub, 1) := by decide +kernel
theorem dX3_figure_73 : decode cX3_figure 73 = .ok (.aload_n 0, 1) := by decide +kernel
theorem dX3_figure_74 : decode cX3_figure 74 = .ok (.getfield 32, 3) := by decide +kernel
theorem dX3_figure_77 : decode cX3_figure 77 = .ok (.aload_n 0, 1) := by decide +kernel
theorem dX3_figure_78 : decode cX3_figure 78 = .ok (.getfield 108, 3) := by decide +kernel
theorem dX3_figure_81 : decode cX3_figure 81 = .ok (.iaload, 1) := by decide +kernel
theorem dX3_figure_82 : decode cX3_figure 82 = .ok (.invokevirtual 156, 3) := by decide +kernel
theorem dX3_figure_85 : decode cX3_figure 85 = .ok (.aload_n 0, 1) := by decide +kernel
theorem dX3_figure_86 : decode cX3_figure 86 = .ok (.iload_n 1, 1) := by decide +kernel
theorem dX3_figure_87 : decode cX3_figure 87 = .ok (.iconst 1, 1) := by decide +kernel
theorem dX3_figure_88 : decode cX3_figure 88 = .ok (.iadd, 1) := by decide +kernel
theorem dX3_figure_89 : decode cX3_figure 89 = .ok (.invokevirtual 140, 3) := by decide +kernel
theorem dX3_figure_92 : decode cX3_figure 92 = .ok (.return_, 1) := by decide +kernel
set_option maxRecDepth 20000 in
theorem ggX3_acts_X3_height : GoodIn wsX3_acts wsX3_height := goodIn_r _ [9, 3, 10, 30, 31, 32, 33, 34, 35, 36, 37, 38, 39, 40, 41, 42, 43, 44, 45, 46, 47, 48, 49, 50, 51, 52, 53, 54, 55, 56, 57, 58, 59, 60, 61, 62, 63, 64, 65] (by decide +kernel) (by decide +kernel)
set_option maxRecDepth 20000 in
theorem gX3_acts_X3_height : GoodIn wsX3_acts (wsV RX3 170 RX3 yX3_height wsX3_height) := goodIn_app (goodIn_of _ (by decide +kernel)) ggX3_acts_X3_height
set_option maxRecDepth 20000 in
theorem ggX3_acts_X3_lay : GoodIn wsX3_acts wsX3_lay := goodIn_r _ [14, 15, 2, 4, 10, 3, 30, 31, 32, 33, 34, 35, 36, 37, 38, 39, 40, 41, 42, 43, 44, 45, 46, 47, 48, 49, 50, 51, 52, 53, 54, 55, 56, 57, 58, 59, 60, 61, 62, 63, 64, 65] (by decide +kernel) (by decide +kernel)
set_option maxRecDepth 20000 in
theorem gX3_acts_X3_lay : GoodIn wsX3_acts (wsV RX3 156 RX3 yX3_lay wsX3_lay) := goodIn_app (goodIn_of _ (by decide +kernel)) ggX3_acts_X3_lay
set_option maxRecDepth 20000 in
theorem ggX3_acts_X3_ends : GoodIn wsX3_acts wsX3_ends := goodIn_r _ [19, 20, 21, 22, 23, 24, 8, 25, 26, 3, 27, 15, 28, 29, 30, 31, 32, 33, 34, 35, 36, 37, 38, 39, 40, 41, 42, 43, 44, 45, 46, 47, 48, 49, 50, 51, 52, 53, 54, 55, 56, 57, 58, 59, 60, 61, 62, 63, 64, 65] (by decide +kernel) (by decide +kernel)
set_option maxRecDepth 20000 in
theorem gX3_acts_X3_ends : GoodIn wsX3_acts (wsV RX3 140 RX3 yX3_ends wsX3_ends) := goodIn_app (goodIn_of _ (by decide +kernel)) ggX3_acts_X3_ends
theorem dX3_acts_0 : decode cX3_acts 0 = .ok (.aload_n 0, 1) := by decide +kernel
theorem dX3_acts_1 : decode cX3_acts 1 = .ok (.invokevirtual 170, 3) := by decide +kernel
theorem dX3_acts_4 : decode cX3_acts 4 = .ok (.iconst 2, 1) := by decide +kernel
theorem dX3_acts_5 : decode cX3_acts 5 = .ok (.if_icmp .ge 9, 3) := by decide +kernel
theorem dX3_acts_8 : decode cX3_acts 8 = .ok (.aload_n 0, 1) := by decide +kernel
theorem dX3_acts_9 : decode cX3_acts 9 = .ok (.iconst 3, 1) := by decide +kernel
theorem dX3_acts_10 : decode cX3_acts 10 = .ok (.putfield 99, 3) := by decide +kernel
theorem dX3_acts_13 : decode cX3_acts 13 = .ok (.return_, 1) := by decide +kernel
theorem dX3_acts_14 : decode cX3_acts 14 = .ok (.aload_n 0, 1) := by decide +kernel
theorem dX3_acts_15 : decode cX3_acts 15 = .ok (.getfield 28, 3) := by decide +kernel
theorem dX3_acts_18 : decode cX3_acts 18 = .ok (.aload_n 0, 1) := by decide +kernel
theorem dX3_acts_19 : decode cX3_acts 19 = .ok (.getfield 108, 3) := by decide +kernel
theorem dX3_acts_22 : decode cX3_acts 22 = .ok (.laload, 1) := by decide +kernel
theorem dX3_acts_23 : decode cX3_acts 23 = .ok (.lstore_n 3, 1) := by decide +kernel
theorem dX3_acts_24 : decode cX3_acts 24 = .ok (.aload_n 0, 1) := by decide +kernel
theorem dX3_acts_25 : decode cX3_acts 25 = .ok (.getfield 28, 3) := by decide +kernel
theorem dX3_acts_28 : decode cX3_acts 28 = .ok (.aload_n 0, 1) := by decide +kernel
theorem dX3_acts_29 : decode cX3_acts 29 = .ok (.getfield 32, 3) := by decide +kernel
theorem dX3_acts_32 : decode cX3_acts 32 = .ok (.aload_n 0, 1) := by decide +kernel
theorem dX3_acts_33 : decode cX3_acts 33 = .ok (.getfield 108, 3) := by decide +kernel
theorem dX3_acts_36 : decode cX3_acts 36 = .ok (.iaload, 1) := by decide +kernel
theorem dX3_acts_37 : decode cX3_acts 37 = .ok (.laload, 1) := by decide +kernel
theorem dX3_acts_38 : decode cX3_acts 38 = .ok (.lstore 5, 2) := by decide +kernel
theorem dX3_acts_40 : decode cX3_acts 40 = .ok (.iload_n 2, 1) := by decide +kernel
theorem dX3_acts_41 : decode cX3_acts 41 = .ok (.iconst 3, 1) := by decide +kernel
theorem dX3_acts_42 : decode cX3_acts 42 = .ok (.if_icmp .ne 15, 3) := by decide +kernel
theorem dX3_acts_45 : decode cX3_acts 45 = .ok (.lload_n 3, 1) := by decide +kernel
theorem dX3_acts_46 : decode cX3_acts 46 = .ok (.lconst 0, 1) := by decide +kernel
theorem dX3_acts_47 : decode cX3_acts 47 = .ok (.lcmp, 1) := by decide +kernel
theorem dX3_acts_48 : decode cX3_acts 48 = .ok (.ifCond .ne 9, 3) := by decide +kernel
theorem dX3_acts_51 : decode cX3_acts 51 = .ok (.aload_n 0, 1) := by decide +kernel
theorem dX3_acts_52 : decode cX3_acts 52 = .ok (.iconst 2, 1) := by decide +kernel
theorem dX3_acts_53 : decode cX3_acts 53 = .ok (.putfield 99, 3) := by decide +kernel
theorem dX3_acts_56 : decode cX3_acts 56 = .ok (.return_, 1) := by decide +kernel
theorem dX3_acts_57 : decode cX3_acts 57 = .ok (.aload_n 0, 1) := by decide +kernel
theorem dX3_acts_58 : decode cX3_acts 58 = .ok (.iload_n 2, 1) := by decide +kernel
theorem dX3_acts_59 : decode cX3_acts 59 = .ok (.ifCond .ne 10, 3) := by decide +kernel
theorem dX3_acts_62 : decode cX3_acts 62 = .ok (.lload 5, 2) := by decide +kernel
theorem dX3_acts_64 : decode cX3_acts 64 = .ok (.lload_n 3, 1) := by decide +kernel
theorem dX3_acts_65 : decode cX3_acts 65 = .ok (.ladd, 1) := by decide +kernel
theorem dX3_acts_66 : decode cX3_acts 66 = .ok (.goto 31, 3) := by decide +kernel
theorem dX3_acts_69 : decode cX3_acts 69 = .ok (.iload_n 2, 1) := by decide +kernel
theorem dX3_acts_70 : decode cX3_acts 70 = .ok (.iconst 1, 1) := by decide +kernel
theorem dX3_acts_71 : decode cX3_acts 71 = .ok (.if_icmp .ne 10, 3) := by decide +kernel
theorem dX3_acts_74 : decode cX3_acts 74 = .ok (.lload 5, 2) := by decide +kernel
theorem dX3_acts_76 : decode cX3_acts 76 = .ok (.lload_n 3, 1) := by decide +kernel
theorem dX3_acts_77 : decode cX3_acts 77 = .ok (.lsub, 1) := by decide +kernel
theorem dX3_acts_78 : decode cX3_acts 78 = .ok (.goto 19, 3) := by decide +kernel
theorem dX3_acts_81 : decode cX3_acts 81 = .ok (.iload_n 2, 1) := by decide +kernel
theorem dX3_acts_82 : decode cX3_acts 82 = .ok (.iconst 2, 1) := by decide +kernel
theorem dX3_acts_83 : decode cX3_acts 83 = .ok (.if_icmp .ne 10, 3) := by decide +kernel
theorem dX3_acts_86 : decode cX3_acts 86 = .ok (.lload 5, 2) := by decide +kernel
theorem dX3_acts_88 : decode cX3_acts 88 = .ok (.lload_n 3, 1) := by decide +kernel
theorem dX3_acts_89 : decode cX3_acts 89 = .ok (.lmul, 1) := by decide +kernel
theorem dX3_acts_90 : decode cX3_acts 90 = .ok (.goto 7, 3) := by decide +kernel
theorem dX3_acts_93 : decode cX3_acts 93 = .ok (.lload 5, 2) := by decide +kernel
theorem dX3_acts_95 : decode cX3_acts 95 = .ok (.lload_n 3, 1) := by decide +kernel
theorem dX3_acts_96 : decode cX3_acts 96 = .ok (.ldiv, 1) := by decide +kernel
theorem dX3_acts_97 : decode cX3_acts 97 = .ok (.aload_n 0, 1) := by decide +kernel
theorem dX3_acts_98 : decode cX3_acts 98 = .ok (.getfield 32, 3) := by decide +kernel
theorem dX3_acts_101 : decode cX3_acts 101 = .ok (.aload_n 0, 1) := by decide +kernel
theorem dX3_acts_102 : decode cX3_acts 102 = .ok (.getfield 32, 3) := by decide +kernel
theorem dX3_acts_105 : decode cX3_acts 105 = .ok (.aload_n 0, 1) := by decide +kernel
theorem dX3_acts_106 : decode cX3_acts 106 = .ok (.getfield 108, 3) := by decide +kernel
theorem dX3_acts_109 : decode cX3_acts 109 = .ok (.iaload, 1) := by decide +kernel
theorem dX3_acts_110 : decode cX3_acts 110 = .ok (.iaload, 1) := by decide +kernel
theorem dX3_acts_111 : decode cX3_acts 111 = .ok (.invokevirtual 156, 3) := by decide +kernel
theorem dX3_acts_114 : decode cX3_acts 114 = .ok (.aload_n 0, 1) := by decide +kernel
theorem dX3_acts_115 : decode cX3_acts 115 = .ok (.iload_n 1, 1) := by decide +kernel
theorem dX3_acts_116 : decode cX3_acts 116 = .ok (.invokevirtual 140, 3) := by decide +kernel
theorem dX3_acts_119 : decode cX3_acts 119 = .ok (.return_, 1) := by decide +kernel
theorem dX3_ready_0 : decode cX3_ready 0 = .ok (.aload_n 0, 1) := by decide +kernel
theorem dX3_ready_1 : decode cX3_ready 1 = .ok (.iconst 0, 1) := by decide +kernel
theorem dX3_ready_2 : decode cX3_ready 2 = .ok (.putfield 111, 3) := by decide +kernel
theorem dX3_ready_5 : decode cX3_ready 5 = .ok (.aload_n 0, 1) := by decide +kernel
theorem dX3_ready_6 : decode cX3_ready 6 = .ok (.iconst 0, 1) := by decide +kernel
theorem dX3_ready_7 : decode cX3_ready 7 = .ok (.putfield 108, 3) := by decide +kernel
theorem dX3_ready_10 : decode cX3_ready 10 = .ok (.aload_n 0, 1) := by decide +kernel
theorem dX3_ready_11 : decode cX3_ready 11 = .ok (.iconst 0, 1) := by decide +kernel
theorem dX3_ready_12 : decode cX3_ready 12 = .ok (.putfield 114, 3) := by decide +kernel
theorem dX3_ready_15 : decode cX3_ready 15 = .ok (.aload_n 0, 1) := by decide +kernel
theorem dX3_ready_16 : decode cX3_ready 16 = .ok (.iconst 0, 1) := by decide +kernel
theorem dX3_ready_17 : decode cX3_ready 17 = .ok (.putfield 99, 3) := by decide +kernel
theorem dX3_ready_20 : decode cX3_ready 20 = .ok (.aload_n 0, 1) := by decide +kernel
theorem dX3_ready_21 : decode cX3_ready 21 = .ok (.iconst 0, 1) := by decide +kernel
theorem dX3_ready_22 : decode cX3_ready 22 = .ok (.putfield 102, 3) := by decide +kernel
theorem dX3_ready_25 : decode cX3_ready 25 = .ok (.aload_n 0, 1) := by decide +kernel
theorem dX3_ready_26 : decode cX3_ready 26 = .ok (.iconst 0, 1) := by decide +kernel
theorem dX3_ready_27 : decode cX3_ready 27 = .ok (.putfield 96, 3) := by decide +kernel
theorem dX3_ready_30 : decode cX3_ready 30 = .ok (.aload_n 0, 1) := by decide +kernel
theorem dX3_ready_31 : decode cX3_ready 31 = .ok (.iconst 0, 1) := by decide +kernel
theorem dX3_ready_32 : decode cX3_ready 32 = .ok (.putfield 117, 3) := by decide +kernel
theorem dX3_ready_35 : decode cX3_ready 35 = .ok (.return_, 1) := by decide +kernel
set_option maxRecDepth 20000 in
theorem ggX3_reads_X3_begin : GoodIn wsX3_reads wsX3_begin := goodIn_r _ [7, 1, 2, 8, 9, 10, 11, 12, 13, 14, 15, 16, 17, 18, 19, 20, 21, 22, 100, 101, 102, 103, 104, 105, 106, 107, 108, 109, 110, 111, 112, 113, 114, 115, 116, 117, 118, 119, 120, 121, 122, 123, 124, 125, 126, 127, 128, 129, 130, 131, 132, 133, 134, 135] (by decide +kernel) (by decide +kernel)
set_option maxRecDepth 20000 in
theorem gX3_reads_X3_begin : GoodIn wsX3_reads (wsV RX3 120 RX3 yX3_begin wsX3_begin) := goodIn_app (goodIn_of _ (by decide +kernel)) ggX3_reads_X3_begin
set_option maxRecDepth 20000 in
theorem ggX3_reads_X3_goesOn : GoodIn wsX3_reads wsX3_goesOn := goodIn_r _ [26, 1, 11, 27, 28, 29, 30, 6, 31, 13, 32, 33, 34, 35, 36, 37, 38, 39, 40, 41, 42, 43, 44, 16, 17, 18, 19, 20, 21, 45, 46, 47, 48, 49, 50, 51, 12, 15, 52, 53, 54, 55, 56, 57, 58, 59, 60, 61, 62, 3, 4, 5, 7, 2, 8, 9, 10, 14, 22, 63, 64, 65, 66, 67, 68, 69, 70, 71, 72, 73, 74, 75, 76, 77, 78, 79, 80, 81, 82, 83, 84, 85, 86, 87, 88, 89, 90, 91, 92, 93, 94, 95, 96, 97, 98, 99, 100, 101, 102, 103, 104, 105, 106, 107, 108, 109, 110, 111, 112, 113, 114, 115, 116, 117, 118, 119, 120, 121, 122, 123, 124, 125, 126, 127, 128, 129, 130, 131, 132, 133, 134, 135] (by decide +kernel) (by decide +kernel)
set_option maxRecDepth 20000 in
theorem gX3_reads_X3_goesOn : GoodIn wsX3_reads (wsV RX3 174 RX3 yX3_goesOn wsX3_goesOn) := goodIn_app (goodIn_of _ (by decide +kernel)) ggX3_reads_X3_goesOn
theorem dX3_reads_0 : decode cX3_reads 0 = .ok (.aload_n 0, 1) := by decide +kernel
theorem dX3_reads_1 : decode cX3_reads 1 = .ok (.iconst 0, 1) := by decide +kernel
theorem dX3_reads_2 : decode cX3_reads 2 = .ok (.putfield 96, 3) := by decide +kernel
theorem dX3_reads_5 : decode cX3_reads 5 = .ok (.aload_n 0, 1) := by decide +kernel
theorem dX3_reads_6 : decode cX3_reads 6 = .ok (.iload_n 1, 1) := by decide +kernel
theorem dX3_reads_7 : decode cX3_reads 7 = .ok (.iload_n 2, 1) := by decide +kernel
theorem dX3_reads_8 : decode cX3_reads 8 = .ok (.invokevirtual 120, 3) := by decide +kernel
theorem dX3_reads_11 : decode cX3_reads 11 = .ok (.aload_n 0, 1) := by decide +kernel
theorem dX3_reads_12 : decode cX3_reads 12 = .ok (.getfield 96, 3) := by decide +kernel
theorem dX3_reads_15 : decode cX3_reads 15 = .ok (.ifCond .le 17, 3) := by decide +kernel
theorem dX3_reads_18 : decode cX3_reads 18 = .ok (.aload_n 0, 1) := by decide +kernel
theorem dX3_reads_19 : decode cX3_reads 19 = .ok (.getfield 99, 3) := by decide +kernel
theorem dX3_reads_22 : decode cX3_reads 22 = .ok (.ifCond .ne 10, 3) := by decide +kernel
theorem dX3_reads_25 : decode cX3_reads 25 = .ok (.aload_n 0, 1) := by decide +kernel
theorem dX3_reads_26 : decode cX3_reads 26 = .ok (.invokevirtual 174, 3) := by decide +kernel
theorem dX3_reads_29 : decode cX3_reads 29 = .ok (.goto (-18), 3) := by decide +kernel
theorem dX3_reads_32 : decode cX3_reads 32 = .ok (.return_, 1) := by decide +kernel
theorem dX3_faulty_0 : decode cX3_faulty 0 = .ok (.aload_n 0, 1) := by decide +kernel
theorem dX3_faulty_1 : decode cX3_faulty 1 = .ok (.dup, 1) := by decide +kernel
theorem dX3_faulty_2 : decode cX3_faulty 2 = .ok (.getfield 177, 3) := by decide +kernel
theorem dX3_faulty_5 : decode cX3_faulty 5 = .ok (.iconst 1, 1) := by decide +kernel
theorem dX3_faulty_6 : decode cX3_faulty 6 = .ok (.iadd, 1) := by decide +kernel
theorem dX3_faulty_7 : decode cX3_faulty 7 = .ok (.putfield 177, 3) := by decide +kernel
theorem dX3_faulty_10 : decode cX3_faulty 10 = .ok (.aload_n 0, 1) := by decide +kernel
theorem dX3_faulty_11 : decode cX3_faulty 11 = .ok (.aload_n 0, 1) := by decide +kernel
theorem dX3_faulty_12 : decode cX3_faulty 12 = .ok (.getfield 99, 3) := by decide +kernel
theorem dX3_faulty_15 : decode cX3_faulty 15 = .ok (.putfield 180, 3) := by decide +kernel
theorem dX3_faulty_18 : decode cX3_faulty 18 = .ok (.bipush (-10), 2) := by decide +kernel
end
section
theorem dX3_faulty_20 : decode cX3_faulty 20 = .ok (.aload_n 0, 1) := by decide +kernel
theorem dX3_faulty_21 : decode cX3_faulty 21 = .ok (.getfield 99, 3) := by decide +kernel
theorem dX3_faulty_24 : decode cX3_faulty 24 = .ok (.isub, 1) := by decide +kernel
theorem dX3_faulty_25 : decode cX3_faulty 25 = .ok (.ireturn, 1) := by decide +kernel
set_option maxRecDepth 20000 in
theorem ggX3_read_X3_isReader : GoodIn wsX3_read wsX3_isReader := goodIn_r _ [8, 9, 10, 11, 7, 12, 119, 120, 121, 122, 123, 124, 125, 126, 127, 128, 129, 130, 131, 132, 133, 134, 135, 136, 137, 138, 139, 140, 141, 142, 143, 144, 145, 146, 147, 148, 149, 150, 151, 152, 153, 154] (by decide +kernel) (by decide +kernel)
set_option maxRecDepth 20000 in
theorem gX3_read_X3_isReader : GoodIn wsX3_read (wsV RX3 92 RX3 yX3_isReader wsX3_isReader) := goodIn_app (goodIn_of _ (by decide +kernel)) ggX3_read_X3_isReader
set_option maxRecDepth 20000 in
theorem ggX3_read_X3_in : GoodIn wsX3_read wsX3_in := goodIn_r _ [12] (by decide +kernel) (by decide +kernel)
set_option maxRecDepth 20000 in
theorem gX3_read_X3_in : GoodIn wsX3_read (va_wsS RX3 85 yX3_in wsX3_in) := goodIn_app (goodIn_of _ (by decide +kernel)) ggX3_read_X3_in
set_option maxRecDepth 20000 in
theorem ggX3_read_X3_ready : GoodIn wsX3_read wsX3_ready := goodIn_r _ [16, 17, 18, 19, 2, 20, 21, 22, 119, 120, 121, 122, 123, 124, 125, 126, 127, 128, 129, 130, 131, 132, 133, 134, 135, 136, 137, 138, 139, 140, 141, 142, 143, 144, 145, 146, 147, 148, 149, 150, 151, 152, 153, 154] (by decide +kernel) (by decide +kernel)
set_option maxRecDepth 20000 in
theorem gX3_read_X3_ready : GoodIn wsX3_read (wsV RX3 183 RX3 yX3_ready wsX3_ready) := goodIn_app (goodIn_of _ (by decide +kernel)) ggX3_read_X3_ready
set_option maxRecDepth 20000 in
theorem ggX3_read_X3_reads : GoodIn wsX3_read wsX3_reads := goodIn_r _ [26, 21, 2, 27, 28, 29, 7, 30, 20, 31, 32, 33, 34, 35, 36, 37, 38, 18, 39, 17, 40, 19, 22, 41, 42, 43, 44, 45, 46, 47, 48, 49, 1, 50, 51, 52, 53, 54, 55, 56, 3, 57, 58, 59, 60, 10, 11, 12, 61, 62, 63, 64, 65, 66, 67, 68, 69, 70, 71, 72, 73, 74, 75, 76, 77, 78, 79, 80, 81, 82, 83, 84, 85, 86, 87, 88, 89, 90, 91, 92, 93, 94, 95, 96, 97, 98, 99, 100, 101, 102, 103, 104, 105, 106, 107, 108, 109, 110, 111, 112, 119, 120, 121, 122, 123, 124, 125, 126, 127, 128, 129, 130, 131, 132, 133, 134, 135, 136, 137, 138, 139, 140, 141, 142, 143, 144, 145, 146, 147, 148, 149, 150, 151, 152, 153, 154] (by decide +kernel) (by decide +kernel)
set_option maxRecDepth 20000 in
theorem gX3_read_X3_reads : GoodIn wsX3_read (wsV RX3 186 RX3 yX3_reads wsX3_reads) := goodIn_app (goodIn_of _ (by decide +kernel)) ggX3_read_X3_reads
set_option maxRecDepth 20000 in
theorem ggX3_read_X3_faulty : GoodIn wsX3_read wsX3_faulty := goodIn_r _ [116, 117, 2, 118, 119, 120, 121, 122, 123, 124, 125, 126, 127, 128, 129, 130, 131, 132, 133, 134, 135, 136, 137, 138, 139, 140, 141, 142, 143, 144, 145, 146, 147, 148, 149, 150, 151, 152, 153, 154] (by decide +kernel) (by decide +kernel)
set_option maxRecDepth 20000 in
theorem gX3_read_X3_faulty : GoodIn wsX3_read (wsV RX3 189 RX3 yX3_faulty wsX3_faulty) := goodIn_app (goodIn_of _ (by decide +kernel)) ggX3_read_X3_faulty
theorem dX3_read_0 : decode cX3_read 0 = .ok (.aload_n 0, 1) := by decide +kernel
theorem dX3_read_1 : decode cX3_read 1 = .ok (.iload_n 1, 1) := by decide +kernel
theorem dX3_read_2 : decode cX3_read 2 = .ok (.invokevirtual 92, 3) := by decide +kernel
theorem dX3_read_5 : decode cX3_read 5 = .ok (.ifCond .eq 15, 3) := by decide +kernel
theorem dX3_read_8 : decode cX3_read 8 = .ok (.iload_n 2, 1) := by decide +kernel
theorem dX3_read_9 : decode cX3_read 9 = .ok (.iconst 0, 1) := by decide +kernel
theorem dX3_read_10 : decode cX3_read 10 = .ok (.aload_n 0, 1) := by decide +kernel
theorem dX3_read_11 : decode cX3_read 11 = .ok (.getfield 89, 3) := by decide +kernel
theorem dX3_read_14 : decode cX3_read 14 = .ok (.invokestatic 85, 3) := by decide +kernel
theorem dX3_read_17 : decode cX3_read 17 = .ok (.ifCond .ne 6, 3) := by decide +kernel
theorem dX3_read_20 : decode cX3_read 20 = .ok (.bipush (-2), 2) := by decide +kernel
theorem dX3_read_22 : decode cX3_read 22 = .ok (.ireturn, 1) := by decide +kernel
theorem dX3_read_23 : decode cX3_read 23 = .ok (.aload_n 0, 1) := by decide +kernel
theorem dX3_read_24 : decode cX3_read 24 = .ok (.invokevirtual 183, 3) := by decide +kernel
theorem dX3_read_27 : decode cX3_read 27 = .ok (.aload_n 0, 1) := by decide +kernel
theorem dX3_read_28 : decode cX3_read 28 = .ok (.iload_n 1, 1) := by decide +kernel
theorem dX3_read_29 : decode cX3_read 29 = .ok (.iload_n 2, 1) := by decide +kernel
theorem dX3_read_30 : decode cX3_read 30 = .ok (.invokevirtual 186, 3) := by decide +kernel
theorem dX3_read_33 : decode cX3_read 33 = .ok (.aload_n 0, 1) := by decide +kernel
theorem dX3_read_34 : decode cX3_read 34 = .ok (.getfield 99, 3) := by decide +kernel
theorem dX3_read_37 : decode cX3_read 37 = .ok (.ifCond .le 10, 3) := by decide +kernel
theorem dX3_read_40 : decode cX3_read 40 = .ok (.aload_n 0, 1) := by decide +kernel
theorem dX3_read_41 : decode cX3_read 41 = .ok (.invokevirtual 189, 3) := by decide +kernel
theorem dX3_read_44 : decode cX3_read 44 = .ok (.goto 7, 3) := by decide +kernel
theorem dX3_read_47 : decode cX3_read 47 = .ok (.aload_n 0, 1) := by decide +kernel
theorem dX3_read_48 : decode cX3_read 48 = .ok (.getfield 128, 3) := by decide +kernel
theorem dX3_read_51 : decode cX3_read 51 = .ok (.ireturn, 1) := by decide +kernel
set_option maxRecDepth 20000 in
theorem ggX3_all_X3_isReader : GoodIn wsX3_all wsX3_isReader := goodIn_r _ [10, 11, 12, 13, 9, 14, 119, 120, 121, 122, 123, 124, 125, 126, 127, 128, 129, 130, 131, 132, 133, 134, 135, 136, 137, 138, 139, 140, 141, 142, 143, 144, 145, 146, 147, 148, 149, 150, 151, 152, 153, 154] (by decide +kernel) (by decide +kernel)
set_option maxRecDepth 20000 in
theorem gX3_all_X3_isReader : GoodIn wsX3_all (wsV RX3 92 RX3 yX3_isReader wsX3_isReader) := goodIn_app (goodIn_of _ (by decide +kernel)) ggX3_all_X3_isReader
set_option maxRecDepth 20000 in
theorem ggX3_all_X3_ready : GoodIn wsX3_all wsX3_ready := goodIn_r _ [18, 2, 1, 3, 4, 19, 20, 21, 119, 120, 121, 122, 123, 124, 125, 126, 127, 128, 129, 130, 131, 132, 133, 134, 135, 136, 137, 138, 139, 140, 141, 142, 143, 144, 145, 146, 147, 148, 149, 150, 151, 152, 153, 154] (by decide +kernel) (by decide +kernel)
set_option maxRecDepth 20000 in
theorem gX3_all_X3_ready : GoodIn wsX3_all (wsV RX3 183 RX3 yX3_ready wsX3_ready) := goodIn_app (goodIn_of _ (by decide +kernel)) ggX3_all_X3_ready
set_option maxRecDepth 20000 in
theorem ggX3_all_X3_reads : GoodIn wsX3_all wsX3_reads := goodIn_r _ [25, 20, 4, 26, 27, 28, 9, 29, 19, 30, 31, 32, 33, 34, 35, 36, 37, 1, 38, 2, 39, 3, 21, 40, 41, 42, 43, 44, 45, 46, 47, 48, 49, 50, 51, 52, 53, 54, 55, 56, 5, 57, 58, 59, 60, 12, 13, 14, 61, 62, 63, 64, 65, 66, 67, 68, 69, 70, 71, 72, 73, 74, 75, 76, 77, 78, 79, 80, 81, 82, 83, 84, 85, 86, 87, 88, 89, 90, 91, 92, 93, 94, 95, 96, 97, 98, 99, 100, 101, 102, 103, 104, 105, 106, 107, 108, 109, 110, 111, 112, 119, 120, 121, 122, 123, 124, 125, 126, 127, 128, 129, 130, 131, 132, 133, 134, 135, 136, 137, 138, 139, 140, 141, 142, 143, 144, 145, 146, 147, 148, 149, 150, 151, 152, 153, 154] (by decide +kernel) (by decide +kernel)
set_option maxRecDepth 20000 in
theorem gX3_all_X3_reads : GoodIn wsX3_all (wsV RX3 186 RX3 yX3_reads wsX3_reads) := goodIn_app (goodIn_of _ (by decide +kernel)) ggX3_all_X3_reads
set_option maxRecDepth 20000 in
theorem ggX3_all_X3_faulty : GoodIn wsX3_all wsX3_faulty := goodIn_r _ [116, 117, 4, 118, 119, 120, 121, 122, 123, 124, 125, 126, 127, 128, 129, 130, 131, 132, 133, 134, 135, 136, 137, 138, 139, 140, 141, 142, 143, 144, 145, 146, 147, 148, 149, 150, 151, 152, 153, 154] (by decide +kernel) (by decide +kernel)
set_option maxRecDepth 20000 in
theorem gX3_all_X3_faulty : GoodIn wsX3_all (wsV RX3 189 RX3 yX3_faulty wsX3_faulty) := goodIn_app (goodIn_of _ (by decide +kernel)) ggX3_all_X3_faulty
theorem dX3_all_0 : decode cX3_all 0 = .ok (.aload_n 0, 1) := by decide +kernel
theorem dX3_all_1 : decode cX3_all 1 = .ok (.iload_n 1, 1) := by decide +kernel
theorem dX3_all_2 : decode cX3_all 2 = .ok (.invokevirtual 92, 3) := by decide +kernel
theorem dX3_all_5 : decode cX3_all 5 = .ok (.ifCond .ne 6, 3) := by decide +kernel
theorem dX3_all_8 : decode cX3_all 8 = .ok (.bipush (-2), 2) := by decide +kernel
theorem dX3_all_10 : decode cX3_all 10 = .ok (.ireturn, 1) := by decide +kernel
theorem dX3_all_11 : decode cX3_all 11 = .ok (.aload_n 0, 1) := by decide +kernel
theorem dX3_all_12 : decode cX3_all 12 = .ok (.invokevirtual 183, 3) := by decide +kernel
theorem dX3_all_15 : decode cX3_all 15 = .ok (.iconst 0, 1) := by decide +kernel
theorem dX3_all_16 : decode cX3_all 16 = .ok (.istore_n 2, 1) := by decide +kernel
theorem dX3_all_17 : decode cX3_all 17 = .ok (.iconst 0, 1) := by decide +kernel
theorem dX3_all_18 : decode cX3_all 18 = .ok (.istore_n 3, 1) := by decide +kernel
theorem dX3_all_19 : decode cX3_all 19 = .ok (.iconst 1, 1) := by decide +kernel
theorem dX3_all_20 : decode cX3_all 20 = .ok (.istore 4, 2) := by decide +kernel
theorem dX3_all_22 : decode cX3_all 22 = .ok (.iload 4, 2) := by decide +kernel
theorem dX3_all_24 : decode cX3_all 24 = .ok (.ifCond .eq 91, 3) := by decide +kernel
theorem dX3_all_27 : decode cX3_all 27 = .ok (.aload_n 0, 1) := by decide +kernel
theorem dX3_all_28 : decode cX3_all 28 = .ok (.getfield 108, 3) := by decide +kernel
theorem dX3_all_31 : decode cX3_all 31 = .ok (.istore 5, 2) := by decide +kernel
theorem dX3_all_33 : decode cX3_all 33 = .ok (.aload_n 0, 1) := by decide +kernel
theorem dX3_all_34 : decode cX3_all 34 = .ok (.getfield 111, 3) := by decide +kernel
theorem dX3_all_37 : decode cX3_all 37 = .ok (.istore 6, 2) := by decide +kernel
theorem dX3_all_39 : decode cX3_all 39 = .ok (.aload_n 0, 1) := by decide +kernel
theorem dX3_all_40 : decode cX3_all 40 = .ok (.getfield 114, 3) := by decide +kernel
theorem dX3_all_43 : decode cX3_all 43 = .ok (.istore 7, 2) := by decide +kernel
theorem dX3_all_45 : decode cX3_all 45 = .ok (.aload_n 0, 1) := by decide +kernel
theorem dX3_all_46 : decode cX3_all 46 = .ok (.iload_n 1, 1) := by decide +kernel
theorem dX3_all_47 : decode cX3_all 47 = .ok (.iload_n 2, 1) := by decide +kernel
theorem dX3_all_48 : decode cX3_all 48 = .ok (.invokevirtual 186, 3) := by decide +kernel
theorem dX3_all_51 : decode cX3_all 51 = .ok (.aload_n 0, 1) := by decide +kernel
theorem dX3_all_52 : decode cX3_all 52 = .ok (.getfield 99, 3) := by decide +kernel
theorem dX3_all_55 : decode cX3_all 55 = .ok (.ifCond .le 8, 3) := by decide +kernel
theorem dX3_all_58 : decode cX3_all 58 = .ok (.aload_n 0, 1) := by decide +kernel
theorem dX3_all_59 : decode cX3_all 59 = .ok (.invokevirtual 189, 3) := by decide +kernel
theorem dX3_all_62 : decode cX3_all 62 = .ok (.ireturn, 1) := by decide +kernel
theorem dX3_all_63 : decode cX3_all 63 = .ok (.aload_n 0, 1) := by decide +kernel
theorem dX3_all_64 : decode cX3_all 64 = .ok (.getfield 128, 3) := by decide +kernel
theorem dX3_all_67 : decode cX3_all 67 = .ok (.iload_n 2, 1) := by decide +kernel
theorem dX3_all_68 : decode cX3_all 68 = .ok (.if_icmp .le 7, 3) := by decide +kernel
theorem dX3_all_71 : decode cX3_all 71 = .ok (.iconst 1, 1) := by decide +kernel
theorem dX3_all_72 : decode cX3_all 72 = .ok (.goto 4, 3) := by decide +kernel
theorem dX3_all_75 : decode cX3_all 75 = .ok (.iconst 0, 1) := by decide +kernel
theorem dX3_all_76 : decode cX3_all 76 = .ok (.istore 4, 2) := by decide +kernel
theorem dX3_all_78 : decode cX3_all 78 = .ok (.iload 4, 2) := by decide +kernel
theorem dX3_all_80 : decode cX3_all 80 = .ok (.ifCond .eq 14, 3) := by decide +kernel
theorem dX3_all_83 : decode cX3_all 83 = .ok (.aload_n 0, 1) := by decide +kernel
theorem dX3_all_84 : decode cX3_all 84 = .ok (.getfield 128, 3) := by decide +kernel
theorem dX3_all_87 : decode cX3_all 87 = .ok (.istore_n 2, 1) := by decide +kernel
theorem dX3_all_88 : decode cX3_all 88 = .ok (.iinc 3 1, 3) := by decide +kernel
theorem dX3_all_91 : decode cX3_all 91 = .ok (.goto 21, 3) := by decide +kernel
theorem dX3_all_94 : decode cX3_all 94 = .ok (.aload_n 0, 1) := by decide +kernel
theorem dX3_all_95 : decode cX3_all 95 = .ok (.iload 5, 2) := by decide +kernel
theorem dX3_all_97 : decode cX3_all 97 = .ok (.putfield 108, 3) := by decide +kernel
theorem dX3_all_100 : decode cX3_all 100 = .ok (.aload_n 0, 1) := by decide +kernel
theorem dX3_all_101 : decode cX3_all 101 = .ok (.iload 6, 2) := by decide +kernel
theorem dX3_all_103 : decode cX3_all 103 = .ok (.putfield 111, 3) := by decide +kernel
theorem dX3_all_106 : decode cX3_all 106 = .ok (.aload_n 0, 1) := by decide +kernel
theorem dX3_all_107 : decode cX3_all 107 = .ok (.iload 7, 2) := by decide +kernel
theorem dX3_all_109 : decode cX3_all 109 = .ok (.putfield 114, 3) := by decide +kernel
theorem dX3_all_112 : decode cX3_all 112 = .ok (.goto (-90), 3) := by decide +kernel
theorem dX3_all_115 : decode cX3_all 115 = .ok (.iload_n 3, 1) := by decide +kernel
theorem dX3_all_116 : decode cX3_all 116 = .ok (.ireturn, 1) := by decide +kernel
set_option maxRecDepth 20000 in
theorem ggX3_pile_X3_height : GoodIn wsX3_pile wsX3_height := goodIn_r _ [8, 1, 9, 13, 14, 15, 16, 17, 18, 19, 20, 21, 22, 23, 24, 25, 26, 27, 28, 29, 30, 31, 32, 33, 34, 35, 36, 37, 38, 39, 40, 41, 42, 43, 44, 45, 46, 47, 48] (by decide +kernel) (by decide +kernel)
set_option maxRecDepth 20000 in
theorem gX3_pile_X3_height : GoodIn wsX3_pile (wsV RX3 170 RX3 yX3_height wsX3_height) := goodIn_app (goodIn_of _ (by decide +kernel)) ggX3_pile_X3_height
set_option maxRecDepth 20000 in
theorem ggX3_pile_X3_in : GoodIn wsX3_pile wsX3_in := goodIn_r _ [12] (by decide +kernel) (by decide +kernel)
set_option maxRecDepth 20000 in
theorem gX3_pile_X3_in : GoodIn wsX3_pile (va_wsS RX3 85 yX3_in wsX3_in) := goodIn_app (goodIn_of _ (by decide +kernel)) ggX3_pile_X3_in
theorem dX3_pile_0 : decode cX3_pile 0 = .ok (.iload_n 1, 1) := by decide +kernel
theorem dX3_pile_1 : decode cX3_pile 1 = .ok (.iconst 0, 1) := by decide +kernel
theorem dX3_pile_2 : decode cX3_pile 2 = .ok (.aload_n 0, 1) := by decide +kernel
theorem dX3_pile_3 : decode cX3_pile 3 = .ok (.invokevirtual 170, 3) := by decide +kernel
theorem dX3_pile_6 : decode cX3_pile 6 = .ok (.iconst 1, 1) := by decide +kernel
theorem dX3_pile_7 : decode cX3_pile 7 = .ok (.isub, 1) := by decide +kernel
theorem dX3_pile_8 : decode cX3_pile 8 = .ok (.invokestatic 85, 3) := by decide +kernel
theorem dX3_pile_11 : decode cX3_pile 11 = .ok (.ifCond .ne 5, 3) := by decide +kernel
theorem dX3_pile_14 : decode cX3_pile 14 = .ok (.lconst 0, 1) := by decide +kernel
theorem dX3_pile_15 : decode cX3_pile 15 = .ok (.lreturn, 1) := by decide +kernel
theorem dX3_pile_16 : decode cX3_pile 16 = .ok (.aload_n 0, 1) := by decide +kernel
theorem dX3_pile_17 : decode cX3_pile 17 = .ok (.getfield 108, 3) := by decide +kernel
theorem dX3_pile_20 : decode cX3_pile 20 = .ok (.istore_n 2, 1) := by decide +kernel
theorem dX3_pile_21 : decode cX3_pile 21 = .ok (.iconst 0, 1) := by decide +kernel
theorem dX3_pile_22 : decode cX3_pile 22 = .ok (.istore_n 3, 1) := by decide +kernel
theorem dX3_pile_23 : decode cX3_pile 23 = .ok (.iload_n 3, 1) := by decide +kernel
theorem dX3_pile_24 : decode cX3_pile 24 = .ok (.iload_n 1, 1) := by decide +kernel
theorem dX3_pile_25 : decode cX3_pile 25 = .ok (.if_icmp .ge 16, 3) := by decide +kernel
theorem dX3_pile_28 : decode cX3_pile 28 = .ok (.aload_n 0, 1) := by decide +kernel
theorem dX3_pile_29 : decode cX3_pile 29 = .ok (.getfield 32, 3) := by decide +kernel
theorem dX3_pile_32 : decode cX3_pile 32 = .ok (.iload_n 2, 1) := by decide +kernel
theorem dX3_pile_33 : decode cX3_pile 33 = .ok (.iaload, 1) := by decide +kernel
theorem dX3_pile_34 : decode cX3_pile 34 = .ok (.istore_n 2, 1) := by decide +kernel
theorem dX3_pile_35 : decode cX3_pile 35 = .ok (.iinc 3 1, 3) := by decide +kernel
theorem dX3_pile_38 : decode cX3_pile 38 = .ok (.goto (-15), 3) := by decide +kernel
theorem dX3_pile_41 : decode cX3_pile 41 = .ok (.aload_n 0, 1) := by decide +kernel
theorem dX3_pile_42 : decode cX3_pile 42 = .ok (.getfield 28, 3) := by decide +kernel
theorem dX3_pile_45 : decode cX3_pile 45 = .ok (.iload_n 2, 1) := by decide +kernel
theorem dX3_pile_46 : decode cX3_pile 46 = .ok (.laload, 1) := by decide +kernel
theorem dX3_pile_47 : decode cX3_pile 47 = .ok (.lreturn, 1) := by decide +kernel
set_option maxRecDepth 20000 in
theorem ggX3_mark_X3_in : GoodIn wsX3_mark wsX3_in := goodIn_r _ [8] (by decide +kernel) (by decide +kernel)
set_option maxRecDepth 20000 in
theorem gX3_mark_X3_in : GoodIn wsX3_mark (va_wsS RX3 85 yX3_in wsX3_in) := goodIn_app (goodIn_of _ (by decide +kernel)) ggX3_mark_X3_in
theorem dX3_mark_0 : decode cX3_mark 0 = .ok (.iload_n 2, 1) := by decide +kernel
theorem dX3_mark_1 : decode cX3_mark 1 = .ok (.iconst 0, 1) := by decide +kernel
theorem dX3_mark_2 : decode cX3_mark 2 = .ok (.iconst 2, 1) := by decide +kernel
theorem dX3_mark_3 : decode cX3_mark 3 = .ok (.invokestatic 85, 3) := by decide +kernel
theorem dX3_mark_6 : decode cX3_mark 6 = .ok (.ifCond .ne 6, 3) := by decide +kernel
theorem dX3_mark_9 : decode cX3_mark 9 = .ok (.bipush (-2), 2) := by decide +kernel
theorem dX3_mark_11 : decode cX3_mark 11 = .ok (.ireturn, 1) := by decide +kernel
theorem dX3_mark_12 : decode cX3_mark 12 = .ok (.iload_n 1, 1) := by decide +kernel
theorem dX3_mark_13 : decode cX3_mark 13 = .ok (.iconst 0, 1) := by decide +kernel
theorem dX3_mark_14 : decode cX3_mark 14 = .ok (.aload_n 0, 1) := by decide +kernel
theorem dX3_mark_15 : decode cX3_mark 15 = .ok (.getfield 114, 3) := by decide +kernel
theorem dX3_mark_18 : decode cX3_mark 18 = .ok (.iconst 1, 1) := by decide +kernel
theorem dX3_mark_19 : decode cX3_mark 19 = .ok (.isub, 1) := by decide +kernel
theorem dX3_mark_20 : decode cX3_mark 20 = .ok (.invokestatic 85, 3) := by decide +kernel
theorem dX3_mark_23 : decode cX3_mark 23 = .ok (.ifCond .ne 5, 3) := by decide +kernel
theorem dX3_mark_26 : decode cX3_mark 26 = .ok (.iconst (-1), 1) := by decide +kernel
theorem dX3_mark_27 : decode cX3_mark 27 = .ok (.ireturn, 1) := by decide +kernel
theorem dX3_mark_28 : decode cX3_mark 28 = .ok (.iload_n 2, 1) := by decide +kernel
theorem dX3_mark_29 : decode cX3_mark 29 = .ok (.ifCond .ne 12, 3) := by decide +kernel
theorem dX3_mark_32 : decode cX3_mark 32 = .ok (.aload_n 0, 1) := by decide +kernel
theorem dX3_mark_33 : decode cX3_mark 33 = .ok (.getfield 38, 3) := by decide +kernel
theorem dX3_mark_36 : decode cX3_mark 36 = .ok (.iload_n 1, 1) := by decide +kernel
theorem dX3_mark_37 : decode cX3_mark 37 = .ok (.iaload, 1) := by decide +kernel
theorem dX3_mark_38 : decode cX3_mark 38 = .ok (.goto 23, 3) := by decide +kernel
theorem dX3_mark_41 : decode cX3_mark 41 = .ok (.iload_n 2, 1) := by decide +kernel
theorem dX3_mark_42 : decode cX3_mark 42 = .ok (.iconst 1, 1) := by decide +kernel
theorem dX3_mark_43 : decode cX3_mark 43 = .ok (.if_icmp .ne 12, 3) := by decide +kernel
theorem dX3_mark_46 : decode cX3_mark 46 = .ok (.aload_n 0, 1) := by decide +kernel
theorem dX3_mark_47 : decode cX3_mark 47 = .ok (.getfield 41, 3) := by decide +kernel
theorem dX3_mark_50 : decode cX3_mark 50 = .ok (.iload_n 1, 1) := by decide +kernel
theorem dX3_mark_51 : decode cX3_mark 51 = .ok (.iaload, 1) := by decide +kernel
theorem dX3_mark_52 : decode cX3_mark 52 = .ok (.goto 9, 3) := by decide +kernel
theorem dX3_mark_55 : decode cX3_mark 55 = .ok (.aload_n 0, 1) := by decide +kernel
theorem dX3_mark_56 : decode cX3_mark 56 = .ok (.getfield 44, 3) := by decide +kernel
theorem dX3_mark_59 : decode cX3_mark 59 = .ok (.iload_n 1, 1) := by decide +kernel
theorem dX3_mark_60 : decode cX3_mark 60 = .ok (.iaload, 1) := by decide +kernel
theorem dX3_mark_61 : decode cX3_mark 61 = .ok (.ireturn, 1) := by decide +kernel
set_option maxRecDepth 20000 in
theorem ggX3_count_X3_height : GoodIn wsX3_count wsX3_height := goodIn_r _ [13, 14, 15, 16, 17, 18, 19, 20, 21, 22, 23, 24, 25, 26, 27, 28, 29, 30, 31, 32, 33, 34, 35, 36, 37, 38, 39, 40, 41, 42, 43, 44, 45, 46, 47, 48, 49, 50, 51] (by decide +kernel) (by decide +kernel)
set_option maxRecDepth 20000 in
theorem gX3_count_X3_height : GoodIn wsX3_count (wsV RX3 170 RX3 yX3_height wsX3_height) := goodIn_app (goodIn_of _ (by decide +kernel)) ggX3_count_X3_height
theorem dX3_count_0 : decode cX3_count 0 = .ok (.iload_n 1, 1) := by decide +kernel
theorem dX3_count_1 : decode cX3_count 1 = .ok (.tableswitch 96 0 8 #[51, 56, 61, 66, 71, 76, 81, 86, 91], 51) := by decide +kernel
theorem dX3_count_52 : decode cX3_count 52 = .ok (.aload_n 0, 1) := by decide +kernel
theorem dX3_count_53 : decode cX3_count 53 = .ok (.getfield 89, 3) := by decide +kernel
theorem dX3_count_56 : decode cX3_count 56 = .ok (.ireturn, 1) := by decide +kernel
theorem dX3_count_57 : decode cX3_count 57 = .ok (.aload_n 0, 1) := by decide +kernel
theorem dX3_count_58 : decode cX3_count 58 = .ok (.getfield 81, 3) := by decide +kernel
theorem dX3_count_61 : decode cX3_count 61 = .ok (.ireturn, 1) := by decide +kernel
theorem dX3_count_62 : decode cX3_count 62 = .ok (.aload_n 0, 1) := by decide +kernel
theorem dX3_count_63 : decode cX3_count 63 = .ok (.invokevirtual 170, 3) := by decide +kernel
theorem dX3_count_66 : decode cX3_count 66 = .ok (.ireturn, 1) := by decide +kernel
theorem dX3_count_67 : decode cX3_count 67 = .ok (.aload_n 0, 1) := by decide +kernel
theorem dX3_count_68 : decode cX3_count 68 = .ok (.getfield 114, 3) := by decide +kernel
theorem dX3_count_71 : decode cX3_count 71 = .ok (.ireturn, 1) := by decide +kernel
theorem dX3_count_72 : decode cX3_count 72 = .ok (.aload_n 0, 1) := by decide +kernel
theorem dX3_count_73 : decode cX3_count 73 = .ok (.getfield 102, 3) := by decide +kernel
theorem dX3_count_76 : decode cX3_count 76 = .ok (.ireturn, 1) := by decide +kernel
theorem dX3_count_77 : decode cX3_count 77 = .ok (.aload_n 0, 1) := by decide +kernel
theorem dX3_count_78 : decode cX3_count 78 = .ok (.getfield 117, 3) := by decide +kernel
theorem dX3_count_81 : decode cX3_count 81 = .ok (.ireturn, 1) := by decide +kernel
theorem dX3_count_82 : decode cX3_count 82 = .ok (.aload_n 0, 1) := by decide +kernel
theorem dX3_count_83 : decode cX3_count 83 = .ok (.getfield 105, 3) := by decide +kernel
theorem dX3_count_86 : decode cX3_count 86 = .ok (.ireturn, 1) := by decide +kernel
theorem dX3_count_87 : decode cX3_count 87 = .ok (.aload_n 0, 1) := by decide +kernel
theorem dX3_count_88 : decode cX3_count 88 = .ok (.getfield 177, 3) := by decide +kernel
theorem dX3_count_91 : decode cX3_count 91 = .ok (.ireturn, 1) := by decide +kernel
theorem dX3_count_92 : decode cX3_count 92 = .ok (.aload_n 0, 1) := by decide +kernel
theorem dX3_count_93 : decode cX3_count 93 = .ok (.getfield 180, 3) := by decide +kernel
theorem dX3_count_96 : decode cX3_count 96 = .ok (.ireturn, 1) := by decide +kernel
theorem dX3_count_97 : decode cX3_count 97 = .ok (.bipush (-2), 2) := by decide +kernel
theorem dX3_count_99 : decode cX3_count 99 = .ok (.ireturn, 1) := by decide +kernel
set_option maxRecDepth 20000 in
theorem ggX3_began_X3_isReader : GoodIn wsX3_began wsX3_isReader := goodIn_r _ [6, 7, 8, 9, 5, 10, 11, 12, 13, 14, 15, 16, 17, 18, 19, 20, 21, 22, 23, 24, 25, 26, 27, 28, 29, 30, 31, 32, 33, 34, 35, 36, 37, 38, 39, 40, 41, 42, 43, 44, 45, 46] (by decide +kernel) (by decide +kernel)
set_option maxRecDepth 20000 in
theorem gX3_began_X3_isReader : GoodIn wsX3_began (wsV RX3 92 RX3 yX3_isReader wsX3_isReader) := goodIn_app (goodIn_of _ (by decide +kernel)) ggX3_began_X3_isReader
theorem dX3_began_0 : decode cX3_began 0 = .ok (.aload_n 0, 1) := by decide +kernel
theorem dX3_began_1 : decode cX3_began 1 = .ok (.iload_n 1, 1) := by decide +kernel
theorem dX3_began_2 : decode cX3_began 2 = .ok (.invokevirtual 92, 3) := by decide +kernel
theorem dX3_began_5 : decode cX3_began 5 = .ok (.ifCond .eq 12, 3) := by decide +kernel
theorem dX3_began_8 : decode cX3_began 8 = .ok (.aload_n 0, 1) := by decide +kernel
theorem dX3_began_9 : decode cX3_began 9 = .ok (.getfield 22, 3) := by decide +kernel
theorem dX3_began_12 : decode cX3_began 12 = .ok (.iload_n 1, 1) := by decide +kernel
theorem dX3_began_13 : decode cX3_began 13 = .ok (.iaload, 1) := by decide +kernel
theorem dX3_began_14 : decode cX3_began 14 = .ok (.goto 5, 3) := by decide +kernel
theorem dX3_began_17 : decode cX3_began 17 = .ok (.bipush (-2), 2) := by decide +kernel
theorem dX3_began_19 : decode cX3_began 19 = .ok (.ireturn, 1) := by decide +kernel
theorem dJ9_max_7cf53_0 : decode cJ9_max_7cf53 0 = .ok (.iload_n 0, 1) := by decide +kernel
theorem dJ9_max_7cf53_1 : decode cJ9_max_7cf53 1 = .ok (.iload_n 1, 1) := by decide +kernel
theorem dJ9_max_7cf53_2 : decode cJ9_max_7cf53 2 = .ok (.if_icmp .lt 7, 3) := by decide +kernel
theorem dJ9_max_7cf53_5 : decode cJ9_max_7cf53 5 = .ok (.iload_n 0, 1) := by decide +kernel
theorem dJ9_max_7cf53_6 : decode cJ9_max_7cf53 6 = .ok (.goto 4, 3) := by decide +kernel
theorem dJ9_max_7cf53_9 : decode cJ9_max_7cf53 9 = .ok (.iload_n 1, 1) := by decide +kernel
theorem dJ9_max_7cf53_10 : decode cJ9_max_7cf53 10 = .ok (.ireturn, 1) := by decide +kernel
theorem dJ7_fill_53178_0 : decode cJ7_fill_53178 0 = .ok (.iconst 0, 1) := by decide +kernel
theorem dJ7_fill_53178_1 : decode cJ7_fill_53178 1 = .ok (.istore_n 2, 1) := by decide +kernel
theorem dJ7_fill_53178_2 : decode cJ7_fill_53178 2 = .ok (.aload_n 0, 1) := by decide +kernel
theorem dJ7_fill_53178_3 : decode cJ7_fill_53178 3 = .ok (.arraylength, 1) := by decide +kernel
theorem dJ7_fill_53178_4 : decode cJ7_fill_53178 4 = .ok (.istore_n 3, 1) := by decide +kernel
theorem dJ7_fill_53178_5 : decode cJ7_fill_53178 5 = .ok (.iload_n 2, 1) := by decide +kernel
theorem dJ7_fill_53178_6 : decode cJ7_fill_53178 6 = .ok (.iload_n 3, 1) := by decide +kernel
theorem dJ7_fill_53178_7 : decode cJ7_fill_53178 7 = .ok (.if_icmp .ge 13, 3) := by decide +kernel
theorem dJ7_fill_53178_10 : decode cJ7_fill_53178 10 = .ok (.aload_n 0, 1) := by decide +kernel
theorem dJ7_fill_53178_11 : decode cJ7_fill_53178 11 = .ok (.iload_n 2, 1) := by decide +kernel
theorem dJ7_fill_53178_12 : decode cJ7_fill_53178 12 = .ok (.iload_n 1, 1) := by decide +kernel
theorem dJ7_fill_53178_13 : decode cJ7_fill_53178 13 = .ok (.iastore, 1) := by decide +kernel
theorem dJ7_fill_53178_14 : decode cJ7_fill_53178 14 = .ok (.iinc 2 1, 3) := by decide +kernel
theorem dJ7_fill_53178_17 : decode cJ7_fill_53178 17 = .ok (.goto (-12), 3) := by decide +kernel
theorem dJ7_fill_53178_20 : decode cJ7_fill_53178 20 = .ok (.return_, 1) := by decide +kernel
set_option maxRecDepth 20000 in
theorem ggL_law_X2_init : GoodIn wsL_law wsX2_init := goodIn_r _ [9, 10, 11, 12, 13, 14, 15, 16, 17, 18, 19, 20, 21, 22, 23, 24, 25, 26, 27, 28, 29, 30, 31, 32, 33, 34, 35, 36, 37, 38, 39, 40, 41, 42, 43, 44, 45, 46, 47, 48, 49, 50, 2, 51, 52, 364, 365, 366, 367, 368, 369, 370, 371, 372, 373, 374, 375, 376, 377, 378, 379, 416, 417, 418, 419, 420, 421, 422, 423, 424] (by decide +kernel) (by decide +kernel)
set_option maxRecDepth 20000 in
theorem gL_law_X2_init : GoodIn wsL_law (wsX2_init) := ggL_law_X2_init
set_option maxRecDepth 20000 in
theorem ggL_law_X3_init : GoodIn wsL_law wsX3_init := goodIn_r _ [55, 56, 11, 12, 15, 57, 58, 59, 60, 61, 62, 34, 63, 64, 65, 66, 67, 68, 69, 70, 71, 72, 21, 73, 74, 75, 76, 77, 78, 79, 80, 380, 381, 382, 383, 384, 385, 386, 387, 388, 389, 390, 391, 392, 393, 394, 395, 396, 397, 398, 399, 400, 401, 402, 403, 404, 405, 406, 407, 408, 409, 410, 411, 412, 413, 414, 415] (by decide +kernel) (by decide +kernel)
set_option maxRecDepth 20000 in
theorem gL_law_X3_init : GoodIn wsL_law (wsX3_init) := ggL_law_X3_init
set_option maxRecDepth 20000 in
theorem ggL_law_X2_text : GoodIn wsL_law wsX2_text := goodIn_r _ [84, 85, 14, 86, 364, 365, 366, 367, 368, 369, 370, 371, 372, 373, 374, 375, 376, 377, 378, 379] (by decide +kernel) (by decide +kernel)
set_option maxRecDepth 20000 in
theorem gL_law_X2_text : GoodIn wsL_law (wsV RL 15 RX2 yX2_text wsX2_text) := goodIn_app (goodIn_of _ (by decide +kernel)) ggL_law_X2_text
set_option maxRecDepth 20000 in
theorem ggL_law_X3_text : GoodIn wsL_law wsX3_text := goodIn_r _ [90, 91, 57, 92, 93, 5, 94, 380, 381, 382, 383, 384, 385, 386, 387, 388, 389, 390, 391, 392, 393, 394, 395, 396, 397, 398, 399, 400, 401, 402, 403, 404, 405, 406, 407, 408, 409, 410, 411, 412, 413, 414, 415] (by decide +kernel) (by decide +kernel)
set_option maxRecDepth 20000 in
theorem gL_law_X3_text : GoodIn wsL_law (wsV RL 19 RX3 yX3_text wsX3_text) := goodIn_app (goodIn_of _ (by decide +kernel)) ggL_law_X3_text
set_option maxRecDepth 20000 in
theorem ggL_law_X2_clear : GoodIn wsL_law wsX2_clear := goodIn_r _ [98, 85, 364, 365, 366, 367, 368, 369, 370, 371, 372, 373, 374, 375, 376, 377, 378, 379] (by decide +kernel) (by decide +kernel)
set_option maxRecDepth 20000 in
theorem gL_law_X2_clear : GoodIn wsL_law (wsV RL 20 RX2 yX2_clear wsX2_clear) := goodIn_app (goodIn_of _ (by decide +kernel)) ggL_law_X2_clear
set_option maxRecDepth 20000 in
theorem ggL_law_X3_clear : GoodIn wsL_law wsX3_clear := goodIn_r _ [102, 91, 380, 381, 382, 383, 384, 385, 386, 387, 388, 389, 390, 391, 392, 393, 394, 395, 396, 397, 398, 399, 400, 401, 402, 403, 404, 405, 406, 407, 408, 409, 410, 411, 412, 413, 414, 415] (by decide +kernel) (by decide +kernel)
set_option maxRecDepth 20000 in
theorem gL_law_X3_clear : GoodIn wsL_law (wsV RL 24 RX3 yX3_clear wsX3_clear) := goodIn_app (goodIn_of _ (by decide +kernel)) ggL_law_X3_clear
set_option maxRecDepth 20000 in
theorem ggL_law_X2_reader : GoodIn wsL_law wsX2_reader := goodIn_r _ [106, 52, 107, 108, 109, 2, 110, 111, 112, 113, 114, 115, 116, 117, 118, 119, 120, 121, 48, 49, 50, 51, 16, 17, 18, 364, 365, 366, 367, 368, 369, 370, 371, 372, 373, 374, 375, 376, 377, 378, 379] (by decide +kernel) (by decide +kernel)
set_option maxRecDepth 20000 in
theorem gL_law_X2_reader : GoodIn wsL_law (wsV RL 25 RX2 yX2_reader wsX2_reader) := goodIn_app (goodIn_of _ (by decide +kernel)) ggL_law_X2_reader
set_option maxRecDepth 20000 in
theorem ggL_law_X3_reader : GoodIn wsL_law wsX3_reader := goodIn_r _ [125, 80, 58, 59, 60, 92, 93, 5, 94, 126, 127, 128, 129, 380, 381, 382, 383, 384, 385, 386, 387, 388, 389, 390, 391, 392, 393, 394, 395, 396, 397, 398, 399, 400, 401, 402, 403, 404, 405, 406, 407, 408, 409, 410, 411, 412, 413, 414, 415] (by decide +kernel) (by decide +kernel)
set_option maxRecDepth 20000 in
theorem gL_law_X3_reader : GoodIn wsL_law (wsV RL 29 RX3 yX3_reader wsX3_reader) := goodIn_app (goodIn_of _ (by decide +kernel)) ggL_law_X3_reader
set_option maxRecDepth 20000 in
theorem ggL_law_X2_name : GoodIn wsL_law wsX2_name := goodIn_r _ [133, 20, 115, 116, 2, 117, 111, 112, 113, 114, 52, 364, 365, 366, 367, 368, 369, 370, 371, 372, 373, 374, 375, 376, 377, 378, 379] (by decide +kernel) (by decide +kernel)
set_option maxRecDepth 20000 in
theorem gL_law_X2_name : GoodIn wsL_law (wsV RL 30 RX2 yX2_name wsX2_name) := goodIn_app (goodIn_of _ (by decide +kernel)) ggL_law_X2_name
set_option maxRecDepth 20000 in
theorem ggL_law_X3_name : GoodIn wsL_law wsX3_name := goodIn_r _ [137, 62, 92, 93, 5, 94, 126, 127, 128, 129, 80, 380, 381, 382, 383, 384, 385, 386, 387, 388, 389, 390, 391, 392, 393, 394, 395, 396, 397, 398, 399, 400, 401, 402, 403, 404, 405, 406, 407, 408, 409, 410, 411, 412, 413, 414, 415] (by decide +kernel) (by decide +kernel)
set_option maxRecDepth 20000 in
theorem gL_law_X3_name : GoodIn wsL_law (wsV RL 34 RX3 yX3_name wsX3_name) := goodIn_app (goodIn_of _ (by decide +kernel)) ggL_law_X3_name
set_option maxRecDepth 20000 in
theorem ggL_law_X2_read : GoodIn wsL_law wsX2_read := goodIn_r _ [141, 85, 111, 112, 113, 2, 114, 52, 142, 143, 144, 145, 26, 30, 146, 147, 148, 149, 150, 151, 25, 152, 153, 154, 155, 156, 157, 158, 159, 17, 16, 18, 22, 20, 160, 161, 162, 163, 164, 19, 165, 166, 167, 168, 169, 170, 171, 172, 173, 174, 175, 176, 177, 178, 179, 180, 181, 182, 183, 184, 185, 29, 186, 187, 41, 42, 43, 188, 189, 190, 191, 192, 193, 194, 195, 14, 196, 197, 198, 199, 35, 36, 37, 200, 201, 202, 203, 204, 205, 206, 207, 208, 209, 210, 211, 212, 213, 214, 215, 216, 217, 218, 219, 220, 221, 222, 223, 224, 225, 226, 227, 228, 229, 230, 231, 364, 365, 366, 367, 368, 369, 370, 371, 372, 373, 374, 375, 376, 377, 378, 379, 421, 422, 423, 424, 416, 417, 418, 419, 420] (by decide +kernel) (by decide +kernel)
set_option maxRecDepth 20000 in
theorem gL_law_X2_read : GoodIn wsL_law (wsV RL 35 RX2 yX2_read wsX2_read) := goodIn_app (goodIn_of _ (by decide +kernel)) ggL_law_X2_read
set_option maxRecDepth 20000 in
theorem ggL_law_X3_read : GoodIn wsL_law wsX3_read := goodIn_r _ [235, 91, 236, 237, 126, 127, 128, 5, 129, 80, 92, 93, 94, 238, 239, 240, 241, 242, 243, 244, 245, 246, 247, 248, 249, 250, 251, 252, 253, 254, 255, 256, 61, 69, 70, 71, 72, 73, 74, 75, 76, 257, 258, 259, 260, 58, 261, 262, 263, 264, 57, 59, 60, 265, 266, 267, 268, 269, 270, 271, 272, 273, 274, 275, 276, 277, 278, 279, 280, 77, 78, 79, 281, 282, 283, 284, 285, 286, 287, 288, 289, 290, 291, 292, 62, 66, 67, 68, 293, 294, 295, 296, 297, 298, 299, 300, 63, 64, 65, 301, 302, 303, 304, 305, 306, 307, 308, 309, 310, 311, 312, 313, 314, 315, 316, 317, 318, 319, 320, 380, 381, 382, 383, 384, 385, 386, 387, 388, 389, 390, 391, 392, 393, 394, 395, 396, 397, 398, 399, 400, 401, 402, 403, 404, 405, 406, 407, 408, 409, 410, 411, 412, 413, 414, 415] (by decide +kernel) (by decide +kernel)
set_option maxRecDepth 20000 in
theorem gL_law_X3_read : GoodIn wsL_law (wsV RL 38 RX3 yX3_read wsX3_read) := goodIn_app (goodIn_of _ (by decide +kernel)) ggL_law_X3_read
set_option maxRecDepth 20000 in
theorem ggL_law_X2_all : GoodIn wsL_law wsX2_all := goodIn_r _ [324, 26, 159, 30, 146, 111, 112, 113, 2, 114, 52, 142, 143, 144, 145, 147, 148, 149, 150, 151, 25, 152, 153, 154, 155, 156, 157, 158, 17, 16, 18, 22, 20, 160, 161, 162, 163, 164, 19, 165, 166, 167, 168, 169, 170, 171, 172, 173, 174, 175, 176, 177, 178, 179, 180, 181, 182, 183, 184, 185, 29, 186, 187, 41, 42, 43, 188, 189, 190, 191, 85, 192, 193, 194, 195, 14, 196, 197, 198, 199, 35, 36, 37, 200, 201, 202, 203, 204, 205, 206, 207, 208, 209, 210, 211, 212, 213, 214, 215, 216, 217, 218, 219, 220, 221, 222, 223, 224, 225, 226, 227, 228, 229, 230, 231, 364, 365, 366, 367, 368, 369, 370, 371, 372, 373, 374, 375, 376, 377, 378, 379, 416, 417, 418, 419, 420, 421, 422, 423, 424] (by decide +kernel) (by decide +kernel)
set_option maxRecDepth 20000 in
theorem gL_law_X2_all : GoodIn wsL_law (wsV RL 39 RX2 yX2_all wsX2_all) := goodIn_app (goodIn_of _ (by decide +kernel)) ggL_law_X2_all
set_option maxRecDepth 20000 in
theorem ggL_law_X3_all : GoodIn wsL_law wsX3_all := goodIn_r _ [328, 243, 242, 244, 236, 237, 126, 127, 128, 5, 129, 80, 92, 93, 94, 238, 239, 240, 241, 245, 246, 247, 248, 249, 250, 251, 252, 253, 254, 255, 256, 61, 69, 70, 71, 72, 73, 74, 75, 76, 257, 258, 259, 260, 58, 261, 262, 263, 264, 91, 57, 59, 60, 265, 266, 267, 268, 269, 270, 271, 272, 273, 274, 275, 276, 277, 278, 279, 280, 77, 78, 79, 281, 282, 283, 284, 285, 286, 287, 288, 289, 290, 291, 292, 62, 66, 67, 68, 293, 294, 295, 296, 297, 298, 299, 300, 63, 64, 65, 301, 302, 303, 304, 305, 306, 307, 308, 309, 310, 311, 312, 313, 314, 315, 316, 317, 318, 319, 320, 380, 381, 382, 383, 384, 385, 386, 387, 388, 389, 390, 391, 392, 393, 394, 395, 396, 397, 398, 399, 400, 401, 402, 403, 404, 405, 406, 407, 408, 409, 410, 411, 412, 413, 414, 415] (by decide +kernel) (by decide +kernel)
set_option maxRecDepth 20000 in
theorem gL_law_X3_all : GoodIn wsL_law (wsV RL 43 RX3 yX3_all wsX3_all) := goodIn_app (goodIn_of _ (by decide +kernel)) ggL_law_X3_all
set_option maxRecDepth 20000 in
theorem ggL_law_X2_pile : GoodIn wsL_law wsX2_pile := goodIn_r _ [332, 26, 214, 215, 216, 25, 217, 35, 218, 211, 212, 213, 37, 154, 200, 201, 202, 203, 36, 364, 365, 366, 367, 368, 369, 370, 371, 372, 373, 374, 375, 376, 377, 378, 379, 416, 417, 418, 419, 420] (by decide +kernel) (by decide +kernel)
set_option maxRecDepth 20000 in
theorem gL_law_X2_pile : GoodIn wsL_law (wsV RL 44 RX2 yX2_pile wsX2_pile) := goodIn_app (goodIn_of _ (by decide +kernel)) ggL_law_X2_pile
set_option maxRecDepth 20000 in
theorem ggL_law_X3_pile : GoodIn wsL_law wsX3_pile := goodIn_r _ [336, 243, 64, 63, 311, 312, 313, 5, 314, 65, 92, 93, 94, 380, 381, 382, 383, 384, 385, 386, 387, 388, 389, 390, 391, 392, 393, 394, 395, 396, 397, 398, 399, 400, 401, 402, 403, 404, 405, 406, 407, 408, 409, 410, 411, 412, 413, 414, 415] (by decide +kernel) (by decide +kernel)
set_option maxRecDepth 20000 in
theorem gL_law_X3_pile : GoodIn wsL_law (wsV RL 48 RX3 yX3_pile wsX3_pile) := goodIn_app (goodIn_of _ (by decide +kernel)) ggL_law_X3_pile
set_option maxRecDepth 20000 in
theorem ggL_law_X2_mark : GoodIn wsL_law wsX2_mark := goodIn_r _ [340, 30, 146, 341, 342, 343, 364, 365, 366, 367, 368, 369, 370, 371, 372, 373, 374, 375, 376, 377, 378, 379, 421, 422, 423, 424] (by decide +kernel) (by decide +kernel)
set_option maxRecDepth 20000 in
theorem gL_law_X2_mark : GoodIn wsL_law (wsV RL 49 RX2 yX2_mark wsX2_mark) := goodIn_app (goodIn_of _ (by decide +kernel)) ggL_law_X2_mark
set_option maxRecDepth 20000 in
theorem ggL_law_X3_mark : GoodIn wsL_law wsX3_mark := goodIn_r _ [347, 244, 66, 67, 68, 92, 93, 5, 94, 380, 381, 382, 383, 384, 385, 386, 387, 388, 389, 390, 391, 392, 393, 394, 395, 396, 397, 398, 399, 400, 401, 402, 403, 404, 405, 406, 407, 408, 409, 410, 411, 412, 413, 414, 415] (by decide +kernel) (by decide +kernel)
set_option maxRecDepth 20000 in
theorem gL_law_X3_mark : GoodIn wsL_law (wsV RL 52 RX3 yX3_mark wsX3_mark) := goodIn_app (goodIn_of _ (by decide +kernel)) ggL_law_X3_mark
set_option maxRecDepth 20000 in
theorem ggL_law_X2_count : GoodIn wsL_law wsX2_count := goodIn_r _ [351, 85, 52, 26, 30, 146, 147, 148, 164, 230, 231, 210, 211, 212, 25, 213, 37, 154, 364, 365, 366, 367, 368, 369, 370, 371, 372, 373, 374, 375, 376, 377, 378, 379, 421, 422, 423, 424, 416, 417, 418, 419, 420] (by decide +kernel) (by decide +kernel)
set_option maxRecDepth 20000 in
theorem gL_law_X2_count : GoodIn wsL_law (wsV RL 53 RX2 yX2_count wsX2_count) := goodIn_app (goodIn_of _ (by decide +kernel)) ggL_law_X2_count
set_option maxRecDepth 20000 in
theorem ggL_law_X3_count : GoodIn wsL_law wsX3_count := goodIn_r _ [355, 91, 80, 244, 245, 247, 256, 319, 320, 311, 312, 313, 5, 314, 243, 65, 380, 381, 382, 383, 384, 385, 386, 387, 388, 389, 390, 391, 392, 393, 394, 395, 396, 397, 398, 399, 400, 401, 402, 403, 404, 405, 406, 407, 408, 409, 410, 411, 412, 413, 414, 415] (by decide +kernel) (by decide +kernel)
set_option maxRecDepth 20000 in
theorem gL_law_X3_count : GoodIn wsL_law (wsV RL 56 RX3 yX3_count wsX3_count) := goodIn_app (goodIn_of _ (by decide +kernel)) ggL_law_X3_count
set_option maxRecDepth 20000 in
theorem ggL_law_X2_began : GoodIn wsL_law wsX2_began := goodIn_r _ [359, 19, 111, 112, 113, 2, 114, 52, 364, 365, 366, 367, 368, 369, 370, 371, 372, 373, 374, 375, 376, 377, 378, 379] (by decide +kernel) (by decide +kernel)
set_option maxRecDepth 20000 in
theorem gL_law_X2_began : GoodIn wsL_law (wsV RL 57 RX2 yX2_began wsX2_began) := goodIn_app (goodIn_of _ (by decide +kernel)) ggL_law_X2_began
set_option maxRecDepth 20000 in
theorem ggL_law_X3_began : GoodIn wsL_law wsX3_began := goodIn_r _ [363, 61, 126, 127, 128, 5, 129, 80, 92, 93, 94, 380, 381, 382, 383, 384, 385, 386, 387, 388, 389, 390, 391, 392, 393, 394, 395, 396, 397, 398, 399, 400, 401, 402, 403, 404, 405, 406, 407, 408, 409, 410, 411, 412, 413, 414, 415] (by decide +kernel) (by decide +kernel)
set_option maxRecDepth 20000 in
theorem gL_law_X3_began : GoodIn wsL_law (wsV RL 60 RX3 yX3_began wsX3_began) := goodIn_app (goodIn_of _ (by decide +kernel)) ggL_law_X3_began
theorem dL_law_0 : decode cL_law 0 = .ok (.new 7, 3) := by decide +kernel
theorem dL_law_3 : decode cL_law 3 = .ok (.dup, 1) := by decide +kernel
theorem dL_law_4 : decode cL_law 4 = .ok (.invokespecial 9, 3) := by decide +kernel
theorem dL_law_7 : decode cL_law 7 = .ok (.astore_n 1, 1) := by decide +kernel
theorem dL_law_8 : decode cL_law 8 = .ok (.new 10, 3) := by decide +kernel
theorem dL_law_11 : decode cL_law 11 = .ok (.dup, 1) := by decide +kernel
theorem dL_law_12 : decode cL_law 12 = .ok (.invokespecial 12, 3) := by decide +kernel
theorem dL_law_15 : decode cL_law 15 = .ok (.astore_n 2, 1) := by decide +kernel
theorem dL_law_16 : decode cL_law 16 = .ok (.iconst 0, 1) := by decide +kernel
theorem dL_law_17 : decode cL_law 17 = .ok (.istore_n 3, 1) := by decide +kernel
theorem dL_law_18 : decode cL_law 18 = .ok (.iload_n 3, 1) := by decide +kernel
theorem dL_law_19 : decode cL_law 19 = .ok (.aload_n 0, 1) := by decide +kernel
theorem dL_law_20 : decode cL_law 20 = .ok (.arraylength, 1) := by decide +kernel
theorem dL_law_21 : decode cL_law 21 = .ok (.iconst 4, 1) := by decide +kernel
theorem dL_law_22 : decode cL_law 22 = .ok (.isub, 1) := by decide +kernel
theorem dL_law_23 : decode cL_law 23 = .ok (.if_icmp .gt 382, 3) := by decide +kernel
theorem dL_law_26 : decode cL_law 26 = .ok (.aload_n 0, 1) := by decide +kernel
theorem dL_law_27 : decode cL_law 27 = .ok (.iload_n 3, 1) := by decide +kernel
theorem dL_law_28 : decode cL_law 28 = .ok (.iaload, 1) := by decide +kernel
theorem dL_law_29 : decode cL_law 29 = .ok (.bipush 15, 2) := by decide +kernel
theorem dL_law_31 : decode cL_law 31 = .ok (.iand, 1) := by decide +kernel
theorem dL_law_32 : decode cL_law 32 = .ok (.tableswitch 367 0 9 #[56, 119, 132, 175, 208, 241, 264, 288, 321, 344], 56) := by decide +kernel
theorem dL_law_88 : decode cL_law 88 = .ok (.aload_n 1, 1) := by decide +kernel
theorem dL_law_89 : decode cL_law 89 = .ok (.aload_n 0, 1) := by decide +kernel
theorem dL_law_90 : decode cL_law 90 = .ok (.iload_n 3, 1) := by decide +kernel
theorem dL_law_91 : decode cL_law 91 = .ok (.iconst 1, 1) := by decide +kernel
theorem dL_law_92 : decode cL_law 92 = .ok (.iadd, 1) := by decide +kernel
theorem dL_law_93 : decode cL_law 93 = .ok (.iaload, 1) := by decide +kernel
theorem dL_law_94 : decode cL_law 94 = .ok (.aload_n 0, 1) := by decide +kernel
theorem dL_law_95 : decode cL_law 95 = .ok (.iload_n 3, 1) := by decide +kernel
theorem dL_law_96 : decode cL_law 96 = .ok (.iconst 2, 1) := by decide +kernel
theorem dL_law_97 : decode cL_law 97 = .ok (.iadd, 1) := by decide +kernel
theorem dL_law_98 : decode cL_law 98 = .ok (.iaload, 1) := by decide +kernel
theorem dL_law_99 : decode cL_law 99 = .ok (.i2l, 1) := by decide +kernel
theorem dL_law_100 : decode cL_law 100 = .ok (.bipush 32, 2) := by decide +kernel
theorem dL_law_102 : decode cL_law 102 = .ok (.lshl, 1) := by decide +kernel
theorem dL_law_103 : decode cL_law 103 = .ok (.aload_n 0, 1) := by decide +kernel
theorem dL_law_104 : decode cL_law 104 = .ok (.iload_n 3, 1) := by decide +kernel
theorem dL_law_105 : decode cL_law 105 = .ok (.iconst 3, 1) := by decide +kernel
theorem dL_law_106 : decode cL_law 106 = .ok (.iadd, 1) := by decide +kernel
theorem dL_law_107 : decode cL_law 107 = .ok (.iaload, 1) := by decide +kernel
theorem dL_law_108 : decode cL_law 108 = .ok (.i2l, 1) := by decide +kernel
theorem dL_law_109 : decode cL_law 109 = .ok (.ldc2_w 13, 3) := by decide +kernel
theorem dL_law_112 : decode cL_law 112 = .ok (.land, 1) := by decide +kernel
theorem dL_law_113 : decode cL_law 113 = .ok (.lor, 1) := by decide +kernel
theorem dL_law_114 : decode cL_law 114 = .ok (.invokevirtual 15, 3) := by decide +kernel
theorem dL_law_117 : decode cL_law 117 = .ok (.aload_n 2, 1) := by decide +kernel
theorem dL_law_118 : decode cL_law 118 = .ok (.aload_n 0, 1) := by decide +kernel
theorem dL_law_119 : decode cL_law 119 = .ok (.iload_n 3, 1) := by decide +kernel
theorem dL_law_120 : decode cL_law 120 = .ok (.iconst 1, 1) := by decide +kernel
theorem dL_law_121 : decode cL_law 121 = .ok (.iadd, 1) := by decide +kernel
theorem dL_law_122 : decode cL_law 122 = .ok (.iaload, 1) := by decide +kernel
theorem dL_law_123 : decode cL_law 123 = .ok (.aload_n 0, 1) := by decide +kernel
theorem dL_law_124 : decode cL_law 124 = .ok (.iload_n 3, 1) := by decide +kernel
theorem dL_law_125 : decode cL_law 125 = .ok (.iconst 2, 1) := by decide +kernel
theorem dL_law_126 : decode cL_law 126 = .ok (.iadd, 1) := by decide +kernel
theorem dL_law_127 : decode cL_law 127 = .ok (.iaload, 1) := by decide +kernel
theorem dL_law_128 : decode cL_law 128 = .ok (.i2l, 1) := by decide +kernel
theorem dL_law_129 : decode cL_law 129 = .ok (.bipush 32, 2) := by decide +kernel
theorem dL_law_131 : decode cL_law 131 = .ok (.lshl, 1) := by decide +kernel
theorem dL_law_132 : decode cL_law 132 = .ok (.aload_n 0, 1) := by decide +kernel
theorem dL_law_133 : decode cL_law 133 = .ok (.iload_n 3, 1) := by decide +kernel
theorem dL_law_134 : decode cL_law 134 = .ok (.iconst 3, 1) := by decide +kernel
theorem dL_law_135 : decode cL_law 135 = .ok (.iadd, 1) := by decide +kernel
theorem dL_law_136 : decode cL_law 136 = .ok (.iaload, 1) := by decide +kernel
theorem dL_law_137 : decode cL_law 137 = .ok (.i2l, 1) := by decide +kernel
theorem dL_law_138 : decode cL_law 138 = .ok (.ldc2_w 13, 3) := by decide +kernel
theorem dL_law_141 : decode cL_law 141 = .ok (.land, 1) := by decide +kernel
theorem dL_law_142 : decode cL_law 142 = .ok (.lor, 1) := by decide +kernel
theorem dL_law_143 : decode cL_law 143 = .ok (.invokevirtual 19, 3) := by decide +kernel
theorem dL_law_146 : decode cL_law 146 = .ok (.if_icmp .eq 253, 3) := by decide +kernel
theorem dL_law_149 : decode cL_law 149 = .ok (.iconst 0, 1) := by decide +kernel
theorem dL_law_150 : decode cL_law 150 = .ok (.ireturn, 1) := by decide +kernel
theorem dL_law_151 : decode cL_law 151 = .ok (.aload_n 1, 1) := by decide +kernel
theorem dL_law_152 : decode cL_law 152 = .ok (.invokevirtual 20, 3) := by decide +kernel
theorem dL_law_155 : decode cL_law 155 = .ok (.aload_n 2, 1) := by decide +kernel
theorem dL_law_156 : decode cL_law 156 = .ok (.invokevirtual 24, 3) := by decide +kernel
theorem dL_law_159 : decode cL_law 159 = .ok (.if_icmp .eq 240, 3) := by decide +kernel
theorem dL_law_162 : decode cL_law 162 = .ok (.iconst 0, 1) := by decide +kernel
theorem dL_law_163 : decode cL_law 163 = .ok (.ireturn, 1) := by decide +kernel
theorem dL_law_164 : decode cL_law 164 = .ok (.aload_n 1, 1) := by decide +kernel
theorem dL_law_165 : decode cL_law 165 = .ok (.aload_n 0, 1) := by decide +kernel
theorem dL_law_166 : decode cL_law 166 = .ok (.iload_n 3, 1) := by decide +kernel
theorem dL_law_167 : decode cL_law 167 = .ok (.iconst 1, 1) := by decide +kernel
theorem dL_law_168 : decode cL_law 168 = .ok (.iadd, 1) := by decide +kernel
theorem dL_law_169 : decode cL_law 169 = .ok (.iaload, 1) := by decide +kernel
theorem dL_law_170 : decode cL_law 170 = .ok (.aload_n 0, 1) := by decide +kernel
theorem dL_law_171 : decode cL_law 171 = .ok (.iload_n 3, 1) := by decide +kernel
theorem dL_law_172 : decode cL_law 172 = .ok (.iconst 2, 1) := by decide +kernel
theorem dL_law_173 : decode cL_law 173 = .ok (.iadd, 1) := by decide +kernel
theorem dL_law_174 : decode cL_law 174 = .ok (.iaload, 1) := by decide +kernel
theorem dL_law_175 : decode cL_law 175 = .ok (.aload_n 0, 1) := by decide +kernel
theorem dL_law_176 : decode cL_law 176 = .ok (.iload_n 3, 1) := by decide +kernel
theorem dL_law_177 : decode cL_law 177 = .ok (.iconst 3, 1) := by decide +kernel
theorem dL_law_178 : decode cL_law 178 = .ok (.iadd, 1) := by decide +kernel
theorem dL_law_179 : decode cL_law 179 = .ok (.iaload, 1) := by decide +kernel
theorem dL_law_180 : decode cL_law 180 = .ok (.invokevirtual 25, 3) := by decide +kernel
theorem dL_law_183 : decode cL_law 183 = .ok (.aload_n 2, 1) := by decide +kernel
theorem dL_law_184 : decode cL_law 184 = .ok (.aload_n 0, 1) := by decide +kernel
theorem dL_law_185 : decode cL_law 185 = .ok (.iload_n 3, 1) := by decide +kernel
theorem dL_law_186 : decode cL_law 186 = .ok (.iconst 1, 1) := by decide +kernel
theorem dL_law_187 : decode cL_law 187 = .ok (.iadd, 1) := by decide +kernel
theorem dL_law_188 : decode cL_law 188 = .ok (.iaload, 1) := by decide +kernel
theorem dL_law_189 : decode cL_law 189 = .ok (.aload_n 0, 1) := by decide +kernel
theorem dL_law_190 : decode cL_law 190 = .ok (.iload_n 3, 1) := by decide +kernel
theorem dL_law_191 : decode cL_law 191 = .ok (.iconst 2, 1) := by decide +kernel
theorem dL_law_192 : decode cL_law 192 = .ok (.iadd, 1) := by decide +kernel
theorem dL_law_193 : decode cL_law 193 = .ok (.iaload, 1) := by decide +kernel
theorem dL_law_194 : decode cL_law 194 = .ok (.aload_n 0, 1) := by decide +kernel
theorem dL_law_195 : decode cL_law 195 = .ok (.iload_n 3, 1) := by decide +kernel
theorem dL_law_196 : decode cL_law 196 = .ok (.iconst 3, 1) := by decide +kernel
theorem dL_law_197 : decode cL_law 197 = .ok (.iadd, 1) := by decide +kernel
theorem dL_law_198 : decode cL_law 198 = .ok (.iaload, 1) := by decide +kernel
theorem dL_law_199 : decode cL_law 199 = .ok (.invokevirtual 29, 3) := by decide +kernel
theorem dL_law_202 : decode cL_law 202 = .ok (.if_icmp .eq 197, 3) := by decide +kernel
theorem dL_law_205 : decode cL_law 205 = .ok (.iconst 0, 1) := by decide +kernel
theorem dL_law_206 : decode cL_law 206 = .ok (.ireturn, 1) := by decide +kernel
theorem dL_law_207 : decode cL_law 207 = .ok (.aload_n 1, 1) := by decide +kernel
theorem dL_law_208 : decode cL_law 208 = .ok (.aload_n 0, 1) := by decide +kernel
theorem dL_law_209 : decode cL_law 209 = .ok (.iload_n 3, 1) := by decide +kernel
theorem dL_law_210 : decode cL_law 210 = .ok (.iconst 1, 1) := by decide +kernel
theorem dL_law_211 : decode cL_law 211 = .ok (.iadd, 1) := by decide +kernel
theorem dL_law_212 : decode cL_law 212 = .ok (.iaload, 1) := by decide +kernel
theorem dL_law_213 : decode cL_law 213 = .ok (.aload_n 0, 1) := by decide +kernel
theorem dL_law_214 : decode cL_law 214 = .ok (.iload_n 3, 1) := by decide +kernel
theorem dL_law_215 : decode cL_law 215 = .ok (.iconst 2, 1) := by decide +kernel
theorem dL_law_216 : decode cL_law 216 = .ok (.iadd, 1) := by decide +kernel
theorem dL_law_217 : decode cL_law 217 = .ok (.iaload, 1) := by decide +kernel
theorem dL_law_218 : decode cL_law 218 = .ok (.invokevirtual 30, 3) := by decide +kernel
theorem dL_law_221 : decode cL_law 221 = .ok (.aload_n 2, 1) := by decide +kernel
theorem dL_law_222 : decode cL_law 222 = .ok (.aload_n 0, 1) := by decide +kernel
theorem dL_law_223 : decode cL_law 223 = .ok (.iload_n 3, 1) := by decide +kernel
theorem dL_law_224 : decode cL_law 224 = .ok (.iconst 1, 1) := by decide +kernel
theorem dL_law_225 : decode cL_law 225 = .ok (.iadd, 1) := by decide +kernel
theorem dL_law_226 : decode cL_law 226 = .ok (.iaload, 1) := by decide +kernel
theorem dL_law_227 : decode cL_law 227 = .ok (.aload_n 0, 1) := by decide +kernel
theorem dL_law_228 : decode cL_law 228 = .ok (.iload_n 3, 1) := by decide +kernel
theorem dL_law_229 : decode cL_law 229 = .ok (.iconst 2, 1) := by decide +kernel
theorem dL_law_230 : decode cL_law 230 = .ok (.iadd, 1) := by decide +kernel
theorem dL_law_231 : decode cL_law 231 = .ok (.iaload, 1) := by decide +kernel
theorem dL_law_232 : decode cL_law 232 = .ok (.invokevirtual 34, 3) := by decide +kernel
theorem dL_law_235 : decode cL_law 235 = .ok (.if_icmp .eq 164, 3) := by decide +kernel
theorem dL_law_238 : decode cL_law 238 = .ok (.iconst 0, 1) := by decide +kernel
theorem dL_law_239 : decode cL_law 239 = .ok (.ireturn, 1) := by decide +kernel
theorem dL_law_240 : decode cL_law 240 = .ok (.aload_n 1, 1) := by decide +kernel
theorem dL_law_241 : decode cL_law 241 = .ok (.aload_n 0, 1) := by decide +kernel
theorem dL_law_242 : decode cL_law 242 = .ok (.iload_n 3, 1) := by decide +kernel
theorem dL_law_243 : decode cL_law 243 = .ok (.iconst 1, 1) := by decide +kernel
theorem dL_law_244 : decode cL_law 244 = .ok (.iadd, 1) := by decide +kernel
theorem dL_law_245 : decode cL_law 245 = .ok (.iaload, 1) := by decide +kernel
theorem dL_law_246 : decode cL_law 246 = .ok (.aload_n 0, 1) := by decide +kernel
theorem dL_law_247 : decode cL_law 247 = .ok (.iload_n 3, 1) := by decide +kernel
theorem dL_law_248 : decode cL_law 248 = .ok (.iconst 2, 1) := by decide +kernel
theorem dL_law_249 : decode cL_law 249 = .ok (.iadd, 1) := by decide +kernel
theorem dL_law_250 : decode cL_law 250 = .ok (.iaload, 1) := by decide +kernel
theorem dL_law_251 : decode cL_law 251 = .ok (.invokevirtual 35, 3) := by decide +kernel
theorem dL_law_254 : decode cL_law 254 = .ok (.aload_n 2, 1) := by decide +kernel
theorem dL_law_255 : decode cL_law 255 = .ok (.aload_n 0, 1) := by decide +kernel
theorem dL_law_256 : decode cL_law 256 = .ok (.iload_n 3, 1) := by decide +kernel
theorem dL_law_257 : decode cL_law 257 = .ok (.iconst 1, 1) := by decide +kernel
theorem dL_law_258 : decode cL_law 258 = .ok (.iadd, 1) := by decide +kernel
theorem dL_law_259 : decode cL_law 259 = .ok (.iaload, 1) := by decide +kernel
theorem dL_law_260 : decode cL_law 260 = .ok (.aload_n 0, 1) := by decide +kernel
theorem dL_law_261 : decode cL_law 261 = .ok (.iload_n 3, 1) := by decide +kernel
theorem dL_law_262 : decode cL_law 262 = .ok (.iconst 2, 1) := by decide +kernel
theorem dL_law_263 : decode cL_law 263 = .ok (.iadd, 1) := by decide +kernel
theorem dL_law_264 : decode cL_law 264 = .ok (.iaload, 1) := by decide +kernel
theorem dL_law_265 : decode cL_law 265 = .ok (.invokevirtual 38, 3) := by decide +kernel
theorem dL_law_268 : decode cL_law 268 = .ok (.if_icmp .eq 131, 3) := by decide +kernel
theorem dL_law_271 : decode cL_law 271 = .ok (.iconst 0, 1) := by decide +kernel
theorem dL_law_272 : decode cL_law 272 = .ok (.ireturn, 1) := by decide +kernel
theorem dL_law_273 : decode cL_law 273 = .ok (.aload_n 1, 1) := by decide +kernel
theorem dL_law_274 : decode cL_law 274 = .ok (.aload_n 0, 1) := by decide +kernel
theorem dL_law_275 : decode cL_law 275 = .ok (.iload_n 3, 1) := by decide +kernel
theorem dL_law_276 : decode cL_law 276 = .ok (.iconst 1, 1) := by decide +kernel
theorem dL_law_277 : decode cL_law 277 = .ok (.iadd, 1) := by decide +kernel
theorem dL_law_278 : decode cL_law 278 = .ok (.iaload, 1) := by decide +kernel
theorem dL_law_279 : decode cL_law 279 = .ok (.invokevirtual 39, 3) := by decide +kernel
theorem dL_law_282 : decode cL_law 282 = .ok (.aload_n 2, 1) := by decide +kernel
theorem dL_law_283 : decode cL_law 283 = .ok (.aload_n 0, 1) := by decide +kernel
theorem dL_law_284 : decode cL_law 284 = .ok (.iload_n 3, 1) := by decide +kernel
theorem dL_law_285 : decode cL_law 285 = .ok (.iconst 1, 1) := by decide +kernel
theorem dL_law_286 : decode cL_law 286 = .ok (.iadd, 1) := by decide +kernel
theorem dL_law_287 : decode cL_law 287 = .ok (.iaload, 1) := by decide +kernel
theorem dL_law_288 : decode cL_law 288 = .ok (.invokevirtual 43, 3) := by decide +kernel
theorem dL_law_291 : decode cL_law 291 = .ok (.if_icmp .eq 108, 3) := by decide +kernel
theorem dL_law_294 : decode cL_law 294 = .ok (.iconst 0, 1) := by decide +kernel
theorem dL_law_295 : decode cL_law 295 = .ok (.ireturn, 1) := by decide +kernel
theorem dL_law_296 : decode cL_law 296 = .ok (.aload_n 1, 1) := by decide +kernel
theorem dL_law_297 : decode cL_law 297 = .ok (.aload_n 0, 1) := by decide +kernel
theorem dL_law_298 : decode cL_law 298 = .ok (.iload_n 3, 1) := by decide +kernel
theorem dL_law_299 : decode cL_law 299 = .ok (.iconst 1, 1) := by decide +kernel
theorem dL_law_300 : decode cL_law 300 = .ok (.iadd, 1) := by decide +kernel
theorem dL_law_301 : decode cL_law 301 = .ok (.iaload, 1) := by decide +kernel
theorem dL_law_302 : decode cL_law 302 = .ok (.invokevirtual 44, 3) := by decide +kernel
theorem dL_law_305 : decode cL_law 305 = .ok (.aload_n 2, 1) := by decide +kernel
theorem dL_law_306 : decode cL_law 306 = .ok (.aload_n 0, 1) := by decide +kernel
theorem dL_law_307 : decode cL_law 307 = .ok (.iload_n 3, 1) := by decide +kernel
theorem dL_law_308 : decode cL_law 308 = .ok (.iconst 1, 1) := by decide +kernel
theorem dL_law_309 : decode cL_law 309 = .ok (.iadd, 1) := by decide +kernel
theorem dL_law_310 : decode cL_law 310 = .ok (.iaload, 1) := by decide +kernel
theorem dL_law_311 : decode cL_law 311 = .ok (.invokevirtual 48, 3) := by decide +kernel
theorem dL_law_314 : decode cL_law 314 = .ok (.lcmp, 1) := by decide +kernel
theorem dL_law_315 : decode cL_law 315 = .ok (.ifCond .eq 84, 3) := by decide +kernel
theorem dL_law_318 : decode cL_law 318 = .ok (.iconst 0, 1) := by decide +kernel
theorem dL_law_319 : decode cL_law 319 = .ok (.ireturn, 1) := by decide +kernel
theorem dL_law_320 : decode cL_law 320 = .ok (.aload_n 1, 1) := by decide +kernel
theorem dL_law_321 : decode cL_law 321 = .ok (.aload_n 0, 1) := by decide +kernel
theorem dL_law_322 : decode cL_law 322 = .ok (.iload_n 3, 1) := by decide +kernel
theorem dL_law_323 : decode cL_law 323 = .ok (.iconst 1, 1) := by decide +kernel
theorem dL_law_324 : decode cL_law 324 = .ok (.iadd, 1) := by decide +kernel
theorem dL_law_325 : decode cL_law 325 = .ok (.iaload, 1) := by decide +kernel
theorem dL_law_326 : decode cL_law 326 = .ok (.aload_n 0, 1) := by decide +kernel
theorem dL_law_327 : decode cL_law 327 = .ok (.iload_n 3, 1) := by decide +kernel
theorem dL_law_328 : decode cL_law 328 = .ok (.iconst 2, 1) := by decide +kernel
theorem dL_law_329 : decode cL_law 329 = .ok (.iadd, 1) := by decide +kernel
theorem dL_law_330 : decode cL_law 330 = .ok (.iaload, 1) := by decide +kernel
theorem dL_law_331 : decode cL_law 331 = .ok (.invokevirtual 49, 3) := by decide +kernel
theorem dL_law_334 : decode cL_law 334 = .ok (.aload_n 2, 1) := by decide +kernel
theorem dL_law_335 : decode cL_law 335 = .ok (.aload_n 0, 1) := by decide +kernel
theorem dL_law_336 : decode cL_law 336 = .ok (.iload_n 3, 1) := by decide +kernel
theorem dL_law_337 : decode cL_law 337 = .ok (.iconst 1, 1) := by decide +kernel
theorem dL_law_338 : decode cL_law 338 = .ok (.iadd, 1) := by decide +kernel
theorem dL_law_339 : decode cL_law 339 = .ok (.iaload, 1) := by decide +kernel
theorem dL_law_340 : decode cL_law 340 = .ok (.aload_n 0, 1) := by decide +kernel
theorem dL_law_341 : decode cL_law 341 = .ok (.iload_n 3, 1) := by decide +kernel
theorem dL_law_342 : decode cL_law 342 = .ok (.iconst 2, 1) := by decide +kernel
theorem dL_law_343 : decode cL_law 343 = .ok (.iadd, 1) := by decide +kernel
theorem dL_law_344 : decode cL_law 344 = .ok (.iaload, 1) := by decide +kernel
theorem dL_law_345 : decode cL_law 345 = .ok (.invokevirtual 52, 3) := by decide +kernel
theorem dL_law_348 : decode cL_law 348 = .ok (.if_icmp .eq 51, 3) := by decide +kernel
theorem dL_law_351 : decode cL_law 351 = .ok (.iconst 0, 1) := by decide +kernel
theorem dL_law_352 : decode cL_law 352 = .ok (.ireturn, 1) := by decide +kernel
theorem dL_law_353 : decode cL_law 353 = .ok (.aload_n 1, 1) := by decide +kernel
theorem dL_law_354 : decode cL_law 354 = .ok (.aload_n 0, 1) := by decide +kernel
theorem dL_law_355 : decode cL_law 355 = .ok (.iload_n 3, 1) := by decide +kernel
theorem dL_law_356 : decode cL_law 356 = .ok (.iconst 1, 1) := by decide +kernel
theorem dL_law_357 : decode cL_law 357 = .ok (.iadd, 1) := by decide +kernel
theorem dL_law_358 : decode cL_law 358 = .ok (.iaload, 1) := by decide +kernel
theorem dL_law_359 : decode cL_law 359 = .ok (.invokevirtual 53, 3) := by decide +kernel
theorem dL_law_362 : decode cL_law 362 = .ok (.aload_n 2, 1) := by decide +kernel
theorem dL_law_363 : decode cL_law 363 = .ok (.aload_n 0, 1) := by decide +kernel
theorem dL_law_364 : decode cL_law 364 = .ok (.iload_n 3, 1) := by decide +kernel
theorem dL_law_365 : decode cL_law 365 = .ok (.iconst 1, 1) := by decide +kernel
theorem dL_law_366 : decode cL_law 366 = .ok (.iadd, 1) := by decide +kernel
theorem dL_law_367 : decode cL_law 367 = .ok (.iaload, 1) := by decide +kernel
theorem dL_law_368 : decode cL_law 368 = .ok (.invokevirtual 56, 3) := by decide +kernel
theorem dL_law_371 : decode cL_law 371 = .ok (.if_icmp .eq 28, 3) := by decide +kernel
theorem dL_law_374 : decode cL_law 374 = .ok (.iconst 0, 1) := by decide +kernel
theorem dL_law_375 : decode cL_law 375 = .ok (.ireturn, 1) := by decide +kernel
theorem dL_law_376 : decode cL_law 376 = .ok (.aload_n 1, 1) := by decide +kernel
theorem dL_law_377 : decode cL_law 377 = .ok (.aload_n 0, 1) := by decide +kernel
theorem dL_law_378 : decode cL_law 378 = .ok (.iload_n 3, 1) := by decide +kernel
theorem dL_law_379 : decode cL_law 379 = .ok (.iconst 1, 1) := by decide +kernel
theorem dL_law_380 : decode cL_law 380 = .ok (.iadd, 1) := by decide +kernel
theorem dL_law_381 : decode cL_law 381 = .ok (.iaload, 1) := by decide +kernel
theorem dL_law_382 : decode cL_law 382 = .ok (.invokevirtual 57, 3) := by decide +kernel
theorem dL_law_385 : decode cL_law 385 = .ok (.aload_n 2, 1) := by decide +kernel
theorem dL_law_386 : decode cL_law 386 = .ok (.aload_n 0, 1) := by decide +kernel
theorem dL_law_387 : decode cL_law 387 = .ok (.iload_n 3, 1) := by decide +kernel
theorem dL_law_388 : decode cL_law 388 = .ok (.iconst 1, 1) := by decide +kernel
theorem dL_law_389 : decode cL_law 389 = .ok (.iadd, 1) := by decide +kernel
theorem dL_law_390 : decode cL_law 390 = .ok (.iaload, 1) := by decide +kernel
theorem dL_law_391 : decode cL_law 391 = .ok (.invokevirtual 60, 3) := by decide +kernel
theorem dL_law_394 : decode cL_law 394 = .ok (.if_icmp .eq 5, 3) := by decide +kernel
theorem dL_law_397 : decode cL_law 397 = .ok (.iconst 0, 1) := by decide +kernel
theorem dL_law_398 : decode cL_law 398 = .ok (.ireturn, 1) := by decide +kernel
theorem dL_law_399 : decode cL_law 399 = .ok (.iinc 3 4, 3) := by decide +kernel
theorem dL_law_402 : decode cL_law 402 = .ok (.goto (-384), 3) := by decide +kernel
theorem dL_law_405 : decode cL_law 405 = .ok (.iconst 1, 1) := by decide +kernel
theorem dL_law_406 : decode cL_law 406 = .ok (.ireturn, 1) := by decide +kernel
end
section
/-! Worlds and rows: a method is walked beside a partial function of what its cells hold (none: an index outside its row, a divisor 0, or too little fuel). s: the int fields by number, a: the rows of ints by the number of their field, g: the row of longs. -/
abbrev q_s : Type := Nat → Int32
abbrev q_a : Type := Nat → Nat → Int32
abbrev q_g : Type := Nat → Int64
abbrev q_S : Type := q_s × q_a × q_g
def q_us (s : q_s) (k : Nat) (v : Int32) : q_s := fun j => if j = k then v else s j
def q_ua (a : q_a) (k i : Nat) (v : Int32) : q_a := fun j => if j = k then upd (a k) i v else a j
def q_ck {α : Type} (i : Int32) (n : Nat) (x : Option α) : Option α := if i < 0 ∨ n ≤ i.toNatClampNeg then none else x
def q_nz {α : Type} (y : Int64) (x : Option α) : Option α := if y = 0 then none else x
def q_bd {α β : Type} (x : α) (f : α → Option β) : Option β := f x
def q_ci {β : Type} (x : Option (Int32 × q_S)) (f : Int32 → q_s → q_a → q_g → Option β) : Option β := match x with
  | none => none
  | some (r, s, a, g) => f r s a g
def q_cl {β : Type} (x : Option (Int64 × q_S)) (f : Int64 → q_s → q_a → q_g → Option β) : Option β := match x with
  | none => none
  | some (r, s, a, g) => f r s a g
def q_cv {β : Type} (x : Option q_S) (f : q_s → q_a → q_g → Option β) : Option β := match x with
  | none => none
  | some (s, a, g) => f s a g
theorem q_ck_some {α : Type} {i : Int32} {n : Nat} {x : Option α} {y : α} (h : q_ck i n x = some y) : vp_in i n ∧ x = some y := by
  unfold q_ck at h
  split at h
  · cases h
  · next c => exact ⟨c, h⟩
theorem q_nz_some {α : Type} {z : Int64} {x : Option α} {y : α} (h : q_nz z x = some y) : ¬ z = 0 ∧ x = some y := by
  unfold q_nz at h
  split at h
  · cases h
  · next c => exact ⟨c, h⟩
theorem q_bd_some {α β : Type} {x : α} {f : α → Option β} {y : β} (h : q_bd x f = some y) : ∃ z, z = x ∧ f z = some y := ⟨x, rfl, h⟩
theorem q_ci_some {β : Type} {x : Option (Int32 × q_S)} {f : Int32 → q_s → q_a → q_g → Option β} {y : β} (h : q_ci x f = some y) : ∃ r s a g, x = some (r, s, a, g) ∧ f r s a g = some y := by
  unfold q_ci at h
  split at h
  · cases h
  · next r s a g => exact ⟨r, s, a, g, rfl, h⟩
theorem q_cl_some {β : Type} {x : Option (Int64 × q_S)} {f : Int64 → q_s → q_a → q_g → Option β} {y : β} (h : q_cl x f = some y) : ∃ r s a g, x = some (r, s, a, g) ∧ f r s a g = some y := by
  unfold q_cl at h
  split at h
  · cases h
  · next r s a g => exact ⟨r, s, a, g, rfl, h⟩
theorem q_cv_some {β : Type} {x : Option q_S} {f : q_s → q_a → q_g → Option β} {y : β} (h : q_cv x f = some y) : ∃ s a g, x = some (s, a, g) ∧ f s a g = some y := by
  unfold q_cv at h
  split at h
  · cases h
  · next s a g => exact ⟨s, a, g, rfl, h⟩
theorem q_if_t {c : Prop} {d : Decidable c} {β : Type} {A B : Option β} {y : Option β} (h : @ite _ c d A B = y) (hc : c) : A = y := by rw [if_pos hc] at h; exact h
theorem q_if_f {c : Prop} {d : Decidable c} {β : Type} {A B : Option β} {y : Option β} (h : @ite _ c d A B = y) (hc : ¬ c) : B = y := by rw [if_neg hc] at h; exact h
theorem q_some2 {α β : Type} {a a' : α} {b b' : β} (h : some (a, b) = some (a', b')) : a = a' ∧ b = b' := by cases h; exact ⟨rfl, rfl⟩
theorem q_some3 {α β γ : Type} {a a' : α} {b b' : β} {c c' : γ} (h : some (a, b, c) = some (a', b', c')) : a = a' ∧ b = b' ∧ c = c' := by cases h; exact ⟨rfl, rfl, rfl⟩
theorem q_some4 {α β γ δ : Type} {a a' : α} {b b' : β} {c c' : γ} {d d' : δ} (h : some (a, b, c, d) = some (a', b', c', d')) : a = a' ∧ b = b' ∧ c = c' ∧ d = d' := by cases h; exact ⟨rfl, rfl, rfl, rfl⟩
abbrev q_cl4 : List vw_C := [(RX0, TX0, 4), (RX1, TX1, 5), (RX2, TX2, 16), (RX3, TX3, 36)]
/-- the cells of a yard: the object, its pile, its marks, their rows -/
def q_wY (h : Nat) (ad : Nat → Nat) (ca : Nat → ClassId) (s : q_s) (a : q_a) (g : q_g) : va_W := [(h, .inr (2, [.ref (ad 0), .int (s 1), .ref (ad 2), .ref (ad 3), .ref (ad 4), .ref (ad 5), .int (s 6), .ref (ad 7), .ref (ad 8), .ref (ad 9), .ref (ad 10), .int (s 11), .int (s 12), .int (s 13), .int (s 14), .int (s 15)])), (ad 9, .inr (1, [.ref (ad 20), .ref (ad 21), .ref (ad 22), .int (s 23), .int (s 24)])), (ad 10, .inr (0, [.ref (ad 30), .ref (ad 31), .ref (ad 32), .int (s 33)])), (ad 0, .inl (ca 0, 200, .inl (a 0))), (ad 2, .inl (ca 2, 50, .inl (a 2))), (ad 3, .inl (ca 3, 50, .inl (a 3))), (ad 4, .inl (ca 4, 50, .inl (a 4))), (ad 5, .inl (ca 5, 50, .inl (a 5))), (ad 7, .inl (ca 7, 10, .inl (a 7))), (ad 8, .inl (ca 8, 151, .inl (a 8))), (ad 20, .inl (ca 20, 3001, .inr (.inl g))), (ad 21, .inl (ca 21, 3001, .inl (a 21))), (ad 22, .inl (ca 22, 3001, .inl (a 22))), (ad 30, .inl (ca 30, 3000, .inl (a 30))), (ad 31, .inl (ca 31, 3000, .inl (a 31))), (ad 32, .inl (ca 32, 3000, .inl (a 32)))]
/-- the cells of the reference -/
def q_wM (h : Nat) (ad : Nat → Nat) (ca : Nat → ClassId) (s : q_s) (a : q_a) (g : q_g) : va_W := [(h, .inr (3, [.ref (ad 0), .int (s 1), .int (s 2), .ref (ad 3), .ref (ad 4), .ref (ad 5), .ref (ad 6), .ref (ad 7), .ref (ad 8), .ref (ad 9), .ref (ad 10), .int (s 11), .int (s 12), .int (s 13), .ref (ad 14), .ref (ad 15), .ref (ad 16), .int (s 17), .ref (ad 18), .ref (ad 19), .ref (ad 20), .ref (ad 21), .ref (ad 22), .ref (ad 23), .ref (ad 24), .ref (ad 25), .ref (ad 26), .ref (ad 27), .ref (ad 28), .int (s 29), .int (s 30), .int (s 31), .int (s 32), .int (s 33), .int (s 34), .int (s 35)])), (ad 0, .inl (ca 0, 200, .inl (a 0))), (ad 3, .inl (ca 3, 50, .inl (a 3))), (ad 4, .inl (ca 4, 50, .inl (a 4))), (ad 5, .inl (ca 5, 50, .inl (a 5))), (ad 6, .inl (ca 6, 50, .inl (a 6))), (ad 7, .inl (ca 7, 10, .inl (a 7))), (ad 8, .inl (ca 8, 3001, .inr (.inl g))), (ad 9, .inl (ca 9, 3001, .inl (a 9))), (ad 10, .inl (ca 10, 3001, .inl (a 10))), (ad 14, .inl (ca 14, 3001, .inl (a 14))), (ad 15, .inl (ca 15, 3001, .inl (a 15))), (ad 16, .inl (ca 16, 3001, .inl (a 16))), (ad 18, .inl (ca 18, 150, .inl (a 18))), (ad 19, .inl (ca 19, 150, .inl (a 19))), (ad 20, .inl (ca 20, 150, .inl (a 20))), (ad 21, .inl (ca 21, 150, .inl (a 21))), (ad 22, .inl (ca 22, 150, .inl (a 22))), (ad 23, .inl (ca 23, 150, .inl (a 23))), (ad 24, .inl (ca 24, 150, .inl (a 24))), (ad 25, .inl (ca 25, 150, .inl (a 25))), (ad 26, .inl (ca 26, 150, .inl (a 26))), (ad 27, .inl (ca 27, 150, .inl (a 27))), (ad 28, .inl (ca 28, 150, .inl (a 28)))]
def q_tY (ca : Nat → ClassId) : List (ClassId × FieldType) := [(ca 0, .byte), (ca 2, .int), (ca 3, .int), (ca 4, .int), (ca 5, .int), (ca 7, .int), (ca 8, .boolean), (ca 20, .long), (ca 21, .int), (ca 22, .int), (ca 30, .int), (ca 31, .int), (ca 32, .int)]
def q_tM (ca : Nat → ClassId) : List (ClassId × FieldType) := [(ca 0, .int), (ca 3, .int), (ca 4, .int), (ca 5, .int), (ca 6, .int), (ca 7, .int), (ca 8, .long), (ca 9, .int), (ca 10, .int), (ca 14, .int), (ca 15, .int), (ca 16, .int), (ca 18, .int), (ca 19, .int), (ca 20, .int), (ca 21, .int), (ca 22, .boolean), (ca 23, .int), (ca 24, .int), (ca 25, .int), (ca 26, .int), (ca 27, .int), (ca 28, .int)]
/-- what stays through a method: the machine, the code, the class, the words, the classes -/
abbrev q_C (p : Program) (m : MethodId) (c : Code) (cc : ByteArray) (st : State) (args : Array Value) (Ts : List Cond) (own : String) (D : va_G) (tys : List (ClassId × FieldType)) : Prop :=
  p.tables.exec = Jvm.exec ∧ c.code = cc ∧ st.vm.findClass own = some m.cls ∧ (∀ w ∈ Ts, w.before args st = true) ∧ va_K D q_cl4 tys st
/-- the world now -/
abbrev q_I (D : va_G) (A : Nat → Prop) (H0 H : Heap) (locs : List Loc) (ws : va_W) : Prop := va_P D q_cl4 ws H ∧ va_D A ws ∧ va_S A H0 H locs
/-- contracts: from the cells s, a, g the method answers r and leaves s1, a1, g1 -/
abbrev q_B (D : va_G) (tys : List (ClassId × FieldType)) (w : q_s → q_a → q_g → va_W) (A : Nat → Prop) (u : q_S) (t : State) : Prop := va_P D q_cl4 (w u.1 u.2.1 u.2.2) t.heap ∧ va_K D q_cl4 tys t ∧ va_D A (w u.1 u.2.1 u.2.2)
abbrev q_Pc (D : va_G) (tys : List (ClassId × FieldType)) (av : List Value) (ws : va_W) (sz : Nat) : Array Value → State → Prop := va_Pc av (fun U => U.heap.size = sz ∧ va_P D q_cl4 ws U.heap ∧ va_K D q_cl4 tys U ∧ va_D (fun _ => True) ws)
def q_Mi (l : Launch) (y : MethodName) (ws : List Cond) (rm : Room) (D : va_G) (tys : List (ClassId × FieldType)) (w : q_s → q_a → q_g → va_W) (av : List Value) (s : q_s) (a : q_a) (g : q_g) (r : Int32) (s1 : q_s) (a1 : q_a) (g1 : q_g) : Prop :=
  ∀ sz : Nat, Met l y ws rm (q_Pc D tys av (w s a g) sz) (va_Qi (fun (r2 : Int32) (u : q_S) => r2 = r ∧ u = (s1, a1, g1)) (q_B D tys w (va_A (w s a g) sz)) (va_A (w s a g) sz)) 0 0 (va_A (w s a g) sz)
def q_Ml (l : Launch) (y : MethodName) (ws : List Cond) (rm : Room) (D : va_G) (tys : List (ClassId × FieldType)) (w : q_s → q_a → q_g → va_W) (av : List Value) (s : q_s) (a : q_a) (g : q_g) (r : Int64) (s1 : q_s) (a1 : q_a) (g1 : q_g) : Prop :=
  ∀ sz : Nat, Met l y ws rm (q_Pc D tys av (w s a g) sz) (va_Ql (fun (r2 : Int64) (u : q_S) => r2 = r ∧ u = (s1, a1, g1)) (q_B D tys w (va_A (w s a g) sz)) (va_A (w s a g) sz)) 0 0 (va_A (w s a g) sz)
def q_Mv (l : Launch) (y : MethodName) (ws : List Cond) (rm : Room) (D : va_G) (tys : List (ClassId × FieldType)) (w : q_s → q_a → q_g → va_W) (av : List Value) (s : q_s) (a : q_a) (g : q_g) (s1 : q_s) (a1 : q_a) (g1 : q_g) : Prop :=
  ∀ sz : Nat, Met l y ws rm (q_Pc D tys av (w s a g) sz) (va_Qv (fun u : q_S => u = (s1, a1, g1)) (q_B D tys w (va_A (w s a g) sz)) (va_A (w s a g) sz)) 0 0 (va_A (w s a g) sz)
section QW
variable {p : Program} {l : Launch} {e : Env} {R : Room} {st : State} {m : MethodId} {args : Array Value} {below : List Frame} {meth : Method} {c : Code} {H : Heap} {locs : List Loc} {cells slots : Nat} {Q : State → Prop}
variable {cc : ByteArray} {pc : Nat} {ls : Array Slot} {rest : List Value} {D : va_G} {A : Nat → Prop} {tys : List (ClassId × FieldType)} {H0 : Heap} {Ts : List Cond} {own : String} {h : Nat} {ad : Nat → Nat} {ca : Nat → ClassId} {s s1 : q_s} {a a1 : q_a} {g g1 : q_g} {w : q_s → q_a → q_g → va_W}
theorem q_ent (ws : va_W) : va_S A H0 H0 [] := va_S.rf
theorem q_vret (C : q_C p m c cc st args Ts own D tys) (hr : meth.sig.returnType = none) (hlocks : meth.locks = false) (I : q_I D A st.heap H locs (w s a g)) (hdg : decode cc pc = .ok (.return_, 1)) : W p l e R st m args below meth c H locs 0 0 (MQ below (va_Qv (fun u : q_S => u = (s, a, g)) (q_B D tys w A) A) args st 0 0 A) (F0 m pc ls []) :=
  W.vret C.1 C.2.1 hr (fun t ht hW => ⟨⟨(s, a, g), rfl, rfl, by rw [ht]; exact I.1, va_K.moved hW.alike C.2.2.2.2, I.2.1⟩, I.2.2.F ht⟩) I.2.2.2.2 hdg hlocks
theorem q_iret {r : Int32} (C : q_C p m c cc st args Ts own D tys) (hr : meth.sig.returnType = some .int) (hlocks : meth.locks = false) (I : q_I D A st.heap H locs (w s a g)) (hdg : decode cc pc = .ok (.ireturn, 1)) : W p l e R st m args below meth c H locs 0 0 (MQ below (va_Qi (fun (r2 : Int32) (u : q_S) => r2 = r ∧ u = (s, a, g)) (q_B D tys w A) A) args st 0 0 A) (F0 m pc ls [.int r]) :=
  W.iret C.1 C.2.1 hr (fun t ht hW => ⟨⟨r, (s, a, g), rfl, ⟨rfl, rfl⟩, by rw [ht]; exact I.1, va_K.moved hW.alike C.2.2.2.2, I.2.1⟩, I.2.2.F ht⟩) I.2.2.2.2 hdg hlocks
theorem q_zret {r : Int32} (C : q_C p m c cc st args Ts own D tys) (hr : meth.sig.returnType = some .boolean) (hn : narrow .boolean (.int r) = .int r) (hlocks : meth.locks = false) (I : q_I D A st.heap H locs (w s a g)) (hdg : decode cc pc = .ok (.ireturn, 1)) : W p l e R st m args below meth c H locs 0 0 (MQ below (va_Qi (fun (r2 : Int32) (u : q_S) => r2 = r ∧ u = (s, a, g)) (q_B D tys w A) A) args st 0 0 A) (F0 m pc ls [.int r]) :=
  W.zret C.1 C.2.1 hr hn (fun t ht hW => ⟨⟨r, (s, a, g), rfl, ⟨rfl, rfl⟩, by rw [ht]; exact I.1, va_K.moved hW.alike C.2.2.2.2, I.2.1⟩, I.2.2.F ht⟩) I.2.2.2.2 hdg hlocks
theorem q_lret {r : Int64} (C : q_C p m c cc st args Ts own D tys) (hr : meth.sig.returnType = some .long) (hlocks : meth.locks = false) (I : q_I D A st.heap H locs (w s a g)) (hdg : decode cc pc = .ok (.lreturn, 1)) : W p l e R st m args below meth c H locs 0 0 (MQ below (va_Ql (fun (r2 : Int64) (u : q_S) => r2 = r ∧ u = (s, a, g)) (q_B D tys w A) A) args st 0 0 A) (F0 m pc ls [.long r]) :=
  W.lret C.1 C.2.1 hr (fun t ht hW => ⟨⟨r, (s, a, g), rfl, ⟨rfl, rfl⟩, by rw [ht]; exact I.1, va_K.moved hW.alike C.2.2.2.2, I.2.1⟩, I.2.2.F ht⟩) I.2.2.2.2 hdg hlocks
/-- behind a call whose cells are all the world -/
theorem q_back (hI : q_I D A H0 H locs (w s a g)) (hA : ∀ q, H0.size ≤ q → A q) : ∀ q, va_A (w s a g) H.size q → A q := by
  intro q hq
  rcases hq with ⟨k, x, hq⟩ | hq
  · exact hI.2.1.2 k _ hq
  · exact hA q (Nat.le_trans hI.2.2.1 hq)
variable {y : MethodName} {bytes : ByteArray} {maxL nL n index : Nat} {ret : Option FieldType} {wsy : List Cond} {rm : Room} {Cn : String} {b : Nat} {As : List Value} {st0 : List Value}
theorem q_pre (C : q_C p m c cc st args Ts own D tys) (hI : q_I D A H0 H locs (w s a g)) (av : List Value) : PreS st H (q_Pc D tys av (w s a g) H.size) av :=
  ⟨fun a U g mk q => by obtain ⟨q0, q1, qP, qK, qD⟩ := q; exact ⟨q0, q1, qP, va_K.moved (u := U) (U := U.calling g mk a) (Vm.Alike.refl U.vm) qK, qD⟩, fun U hU hW => ⟨rfl, by rw [hU], by rw [hU]; exact hI.1, va_K.moved hW.alike C.2.2.2.2, hI.2.1.weaken (fun _ _ _ _ => trivial)⟩⟩

theorem q_callVi {r : Int32} (C : q_C p m c cc st args Ts own D tys) (hml : c.maxLocals = nL) (hM : q_Mi l y wsy rm D tys w (.ref b :: As) s a g r s1 a1 g1) (cw : CallW R st args own Cn index y bytes maxL ret wsy rm 0 0 n) (hI : q_I D A H0 H locs (w s a g)) (hA : ∀ q, H0.size ≤ q → A q) {q0 ci : Nat} {qc : vw_C} {fs : List Value} (hc : q_cl4[ci]? = some qc) (hq : qc.1 = Cn) (he : (w s a g)[q0]? = some (b, .inr (ci, fs))) (hn : As.length = n) (hl : ls.size = nL) (hst : st0 = As.reverse ++ .ref b :: rest) (hrest : (rest.map fun v => v.category).sum ≤ 8) (hdg : decode cc pc = .ok (.invokevirtual index, 3)) (hf : cells ≤ R.cells ∧ slots ≤ R.slots)
    (kk : ∀ (H1 : Heap) (locs1 : List Loc), q_I D A H0 H1 locs1 (w s1 a1 g1) → W p l e R st m args below meth c H1 locs1 cells slots Q (F0 m (pc + 3) ls (.int r :: rest))) : W p l e R st m args below meth c H locs cells slots Q (F0 m pc ls st0) := by
  subst hq
  have hFc := q_back hI hA
  refine va_calli (va_runV (As := As) (rest := rest) ⟨C.1, C.2.1, hml, C.2.2.1, C.2.2.2.1⟩ (hM H.size) cw ⟨(q_pre C hI (.ref b :: As)).1, va_recv C.2.2.2.2 hI.1 hc he, (q_pre C hI (.ref b :: As)).2⟩ rfl hn hl hst (lv_room hrest) hdg hf) hI.2.2 (fun q _ h => hFc q h) hFc (fun r2 u t H1 locs1 ht hvm hw hB hz1 hk1 hS => ?_)
  obtain ⟨rfl, rfl⟩ := hw
  obtain ⟨hP1, hK1, hD1⟩ := hB
  rw [ht] at hP1
  exact kk H1 locs1 ⟨hP1, hD1.weaken (fun _ q _ hq => hFc q.1 hq), hS⟩
theorem q_callSi {r : Int32} (C : q_C p m c cc st args Ts own D tys) (hml : c.maxLocals = nL) (hM : q_Mi l y wsy rm D tys w As s a g r s1 a1 g1) (cw : CallB R st args own index y bytes maxL ret wsy rm 0 0 n ∧ (Cond.static y).before args st = true) (hI : q_I D A H0 H locs (w s a g)) (hA : ∀ q, H0.size ≤ q → A q) (hn : As.length = n) (hl : ls.size = nL) (hst : st0 = As.reverse ++ rest) (hrest : (rest.map fun v => v.category).sum ≤ 8) (hdg : decode cc pc = .ok (.invokestatic index, 3)) (hf : cells ≤ R.cells ∧ slots ≤ R.slots)
    (kk : ∀ (H1 : Heap) (locs1 : List Loc), q_I D A H0 H1 locs1 (w s1 a1 g1) → W p l e R st m args below meth c H1 locs1 cells slots Q (F0 m (pc + 3) ls (.int r :: rest))) : W p l e R st m args below meth c H locs cells slots Q (F0 m pc ls st0) := by
  have hFc := q_back hI hA
  refine va_calli (va_runS (As := As) (rest := rest) ⟨C.1, C.2.1, hml, C.2.2.1, C.2.2.2.1⟩ (hM H.size) cw (q_pre C hI As) rfl hn hl hst (lv_room hrest) hdg hf) hI.2.2 (fun q _ h => hFc q h) hFc (fun r2 u t H1 locs1 ht hvm hw hB hz1 hk1 hS => ?_)
  obtain ⟨rfl, rfl⟩ := hw
  obtain ⟨hP1, hK1, hD1⟩ := hB
  rw [ht] at hP1
  exact kk H1 locs1 ⟨hP1, hD1.weaken (fun _ q _ hq => hFc q.1 hq), hS⟩
theorem q_callVl {r : Int64} (C : q_C p m c cc st args Ts own D tys) (hml : c.maxLocals = nL) (hM : q_Ml l y wsy rm D tys w (.ref b :: As) s a g r s1 a1 g1) (cw : CallW R st args own Cn index y bytes maxL ret wsy rm 0 0 n) (hI : q_I D A H0 H locs (w s a g)) (hA : ∀ q, H0.size ≤ q → A q) {q0 ci : Nat} {qc : vw_C} {fs : List Value} (hc : q_cl4[ci]? = some qc) (hq : qc.1 = Cn) (he : (w s a g)[q0]? = some (b, .inr (ci, fs))) (hn : As.length = n) (hl : ls.size = nL) (hst : st0 = As.reverse ++ .ref b :: rest) (hrest : (rest.map fun v => v.category).sum ≤ 8) (hdg : decode cc pc = .ok (.invokevirtual index, 3)) (hf : cells ≤ R.cells ∧ slots ≤ R.slots)
    (kk : ∀ (H1 : Heap) (locs1 : List Loc), q_I D A H0 H1 locs1 (w s1 a1 g1) → W p l e R st m args below meth c H1 locs1 cells slots Q (F0 m (pc + 3) ls (.long r :: rest))) : W p l e R st m args below meth c H locs cells slots Q (F0 m pc ls st0) := by
  subst hq
  have hFc := q_back hI hA
  refine va_calll (va_runV (As := As) (rest := rest) ⟨C.1, C.2.1, hml, C.2.2.1, C.2.2.2.1⟩ (hM H.size) cw ⟨(q_pre C hI (.ref b :: As)).1, va_recv C.2.2.2.2 hI.1 hc he, (q_pre C hI (.ref b :: As)).2⟩ rfl hn hl hst (lv_room hrest) hdg hf) hI.2.2 (fun q _ h => hFc q h) hFc (fun r2 u t H1 locs1 ht hvm hw hB hz1 hk1 hS => ?_)
  obtain ⟨rfl, rfl⟩ := hw
  obtain ⟨hP1, hK1, hD1⟩ := hB
  rw [ht] at hP1
  exact kk H1 locs1 ⟨hP1, hD1.weaken (fun _ q _ hq => hFc q.1 hq), hS⟩
theorem q_callSl {r : Int64} (C : q_C p m c cc st args Ts own D tys) (hml : c.maxLocals = nL) (hM : q_Ml l y wsy rm D tys w As s a g r s1 a1 g1) (cw : CallB R st args own index y bytes maxL ret wsy rm 0 0 n ∧ (Cond.static y).before args st = true) (hI : q_I D A H0 H locs (w s a g)) (hA : ∀ q, H0.size ≤ q → A q) (hn : As.length = n) (hl : ls.size = nL) (hst : st0 = As.reverse ++ rest) (hrest : (rest.map fun v => v.category).sum ≤ 8) (hdg : decode cc pc = .ok (.invokestatic index, 3)) (hf : cells ≤ R.cells ∧ slots ≤ R.slots)
    (kk : ∀ (H1 : Heap) (locs1 : List Loc), q_I D A H0 H1 locs1 (w s1 a1 g1) → W p l e R st m args below meth c H1 locs1 cells slots Q (F0 m (pc + 3) ls (.long r :: rest))) : W p l e R st m args below meth c H locs cells slots Q (F0 m pc ls st0) := by
  have hFc := q_back hI hA
  refine va_calll (va_runS (As := As) (rest := rest) ⟨C.1, C.2.1, hml, C.2.2.1, C.2.2.2.1⟩ (hM H.size) cw (q_pre C hI As) rfl hn hl hst (lv_room hrest) hdg hf) hI.2.2 (fun q _ h => hFc q h) hFc (fun r2 u t H1 locs1 ht hvm hw hB hz1 hk1 hS => ?_)
  obtain ⟨rfl, rfl⟩ := hw
  obtain ⟨hP1, hK1, hD1⟩ := hB
  rw [ht] at hP1
  exact kk H1 locs1 ⟨hP1, hD1.weaken (fun _ q _ hq => hFc q.1 hq), hS⟩
theorem q_callVv (C : q_C p m c cc st args Ts own D tys) (hml : c.maxLocals = nL) (hM : q_Mv l y wsy rm D tys w (.ref b :: As) s a g s1 a1 g1) (cw : CallW R st args own Cn index y bytes maxL ret wsy rm 0 0 n) (hI : q_I D A H0 H locs (w s a g)) (hA : ∀ q, H0.size ≤ q → A q) {q0 ci : Nat} {qc : vw_C} {fs : List Value} (hc : q_cl4[ci]? = some qc) (hq : qc.1 = Cn) (he : (w s a g)[q0]? = some (b, .inr (ci, fs))) (hn : As.length = n) (hl : ls.size = nL) (hst : st0 = As.reverse ++ .ref b :: rest) (hrest : (rest.map fun v => v.category).sum ≤ 8) (hdg : decode cc pc = .ok (.invokevirtual index, 3)) (hf : cells ≤ R.cells ∧ slots ≤ R.slots)
    (kk : ∀ (H1 : Heap) (locs1 : List Loc), q_I D A H0 H1 locs1 (w s1 a1 g1) → W p l e R st m args below meth c H1 locs1 cells slots Q (F0 m (pc + 3) ls (rest))) : W p l e R st m args below meth c H locs cells slots Q (F0 m pc ls st0) := by
  subst hq
  have hFc := q_back hI hA
  refine va_callv (va_runV (As := As) (rest := rest) ⟨C.1, C.2.1, hml, C.2.2.1, C.2.2.2.1⟩ (hM H.size) cw ⟨(q_pre C hI (.ref b :: As)).1, va_recv C.2.2.2.2 hI.1 hc he, (q_pre C hI (.ref b :: As)).2⟩ rfl hn hl hst (lv_room hrest) hdg hf) hI.2.2 (fun q _ h => hFc q h) hFc (fun u t H1 locs1 ht hvm hw hB hz1 hk1 hS => ?_)
  subst hw
  obtain ⟨hP1, hK1, hD1⟩ := hB
  rw [ht] at hP1
  exact kk H1 locs1 ⟨hP1, hD1.weaken (fun _ q _ hq => hFc q.1 hq), hS⟩
theorem q_callSv (C : q_C p m c cc st args Ts own D tys) (hml : c.maxLocals = nL) (hM : q_Mv l y wsy rm D tys w As s a g s1 a1 g1) (cw : CallB R st args own index y bytes maxL ret wsy rm 0 0 n ∧ (Cond.static y).before args st = true) (hI : q_I D A H0 H locs (w s a g)) (hA : ∀ q, H0.size ≤ q → A q) (hn : As.length = n) (hl : ls.size = nL) (hst : st0 = As.reverse ++ rest) (hrest : (rest.map fun v => v.category).sum ≤ 8) (hdg : decode cc pc = .ok (.invokestatic index, 3)) (hf : cells ≤ R.cells ∧ slots ≤ R.slots)
    (kk : ∀ (H1 : Heap) (locs1 : List Loc), q_I D A H0 H1 locs1 (w s1 a1 g1) → W p l e R st m args below meth c H1 locs1 cells slots Q (F0 m (pc + 3) ls (rest))) : W p l e R st m args below meth c H locs cells slots Q (F0 m pc ls st0) := by
  have hFc := q_back hI hA
  refine va_callv (va_runS (As := As) (rest := rest) ⟨C.1, C.2.1, hml, C.2.2.1, C.2.2.2.1⟩ (hM H.size) cw (q_pre C hI As) rfl hn hl hst (lv_room hrest) hdg hf) hI.2.2 (fun q _ h => hFc q h) hFc (fun u t H1 locs1 ht hvm hw hB hz1 hk1 hS => ?_)
  subst hw
  obtain ⟨hP1, hK1, hD1⟩ := hB
  rw [ht] at hP1
  exact kk H1 locs1 ⟨hP1, hD1.weaken (fun _ q _ hq => hFc q.1 hq), hS⟩
theorem q_get_RX0_9 (C : q_C p m c cc st args Ts RX0 D (q_tY ca)) (hin : ∀ w ∈ wsX00, w ∈ Ts) (hlk : Cond.fieldLink RX0 9 "ReaderYard$Marks" "labels" "[I" ∈ Ts) (hI : q_I D A H0 H locs (q_wY h ad ca s a g)) (hdg : decode cc pc = .ok (.getfield 9, 3))
    (kk : W p l e R st m args below meth c H locs cells slots Q (F0 m (pc + 3) ls (.ref (ad 30) :: rest))) : W p l e R st m args below meth c H locs cells slots Q (F0 m pc ls (.ref (ad 10) :: rest)) :=
  va_get (D := D) (ci := 0) (C := RX0) (T := TX0) (N := 4) C.1 C.2.1 C.2.2.2.1 hin C.2.2.1 C.2.2.2.2 hI.1 2 rfl rfl 0 (by decide) (C.2.2.2.1 _ hlk) (fun _ h9 => h9) rfl hdg kk
theorem q_get_RX0_15 (C : q_C p m c cc st args Ts RX0 D (q_tY ca)) (hin : ∀ w ∈ wsX00, w ∈ Ts) (hlk : Cond.fieldLink RX0 15 "ReaderYard$Marks" "froms" "[I" ∈ Ts) (hI : q_I D A H0 H locs (q_wY h ad ca s a g)) (hdg : decode cc pc = .ok (.getfield 15, 3))
    (kk : W p l e R st m args below meth c H locs cells slots Q (F0 m (pc + 3) ls (.ref (ad 31) :: rest))) : W p l e R st m args below meth c H locs cells slots Q (F0 m pc ls (.ref (ad 10) :: rest)) :=
  va_get (D := D) (ci := 0) (C := RX0) (T := TX0) (N := 4) C.1 C.2.1 C.2.2.2.1 hin C.2.2.1 C.2.2.2.2 hI.1 2 rfl rfl 1 (by decide) (C.2.2.2.1 _ hlk) (fun _ h9 => h9) rfl hdg kk
theorem q_get_RX0_18 (C : q_C p m c cc st args Ts RX0 D (q_tY ca)) (hin : ∀ w ∈ wsX00, w ∈ Ts) (hlk : Cond.fieldLink RX0 18 "ReaderYard$Marks" "tos" "[I" ∈ Ts) (hI : q_I D A H0 H locs (q_wY h ad ca s a g)) (hdg : decode cc pc = .ok (.getfield 18, 3))
    (kk : W p l e R st m args below meth c H locs cells slots Q (F0 m (pc + 3) ls (.ref (ad 32) :: rest))) : W p l e R st m args below meth c H locs cells slots Q (F0 m pc ls (.ref (ad 10) :: rest)) :=
  va_get (D := D) (ci := 0) (C := RX0) (T := TX0) (N := 4) C.1 C.2.1 C.2.2.2.1 hin C.2.2.1 C.2.2.2.2 hI.1 2 rfl rfl 2 (by decide) (C.2.2.2.1 _ hlk) (fun _ h9 => h9) rfl hdg kk
theorem q_get_RX0_21 (C : q_C p m c cc st args Ts RX0 D (q_tY ca)) (hin : ∀ w ∈ wsX00, w ∈ Ts) (hlk : Cond.fieldLink RX0 21 "ReaderYard$Marks" "size" "I" ∈ Ts) (hI : q_I D A H0 H locs (q_wY h ad ca s a g)) (hdg : decode cc pc = .ok (.getfield 21, 3))
    (kk : W p l e R st m args below meth c H locs cells slots Q (F0 m (pc + 3) ls (.int (s 33) :: rest))) : W p l e R st m args below meth c H locs cells slots Q (F0 m pc ls (.ref (ad 10) :: rest)) :=
  va_get (D := D) (ci := 0) (C := RX0) (T := TX0) (N := 4) C.1 C.2.1 C.2.2.2.1 hin C.2.2.1 C.2.2.2.2 hI.1 2 rfl rfl 3 (by decide) (C.2.2.2.1 _ hlk) (fun _ h9 => h9) rfl hdg kk
theorem q_put_RX0_21 (C : q_C p m c cc st args Ts RX0 D (q_tY ca)) (hin : ∀ w ∈ wsX00, w ∈ Ts) (hlk : Cond.fieldLink RX0 21 "ReaderYard$Marks" "size" "I" ∈ Ts) {v : Int32} (e1 : s1 = q_us s 33 v) (hI : q_I D A H0 H locs (q_wY h ad ca s a g)) (hdg : decode cc pc = .ok (.putfield 21, 3))
    (kk : ∀ (H1 : Heap) (locs1 : List Loc), q_I D A H0 H1 locs1 (q_wY h ad ca s1 a g) → W p l e R st m args below meth c H1 locs1 cells slots Q (F0 m (pc + 3) ls rest)) : W p l e R st m args below meth c H locs cells slots Q (F0 m pc ls (.int v :: .ref (ad 10) :: rest)) := by
  subst e1
  exact va_put (D := D) (ci := 0) (v := .int v) (ty := .int) (C := RX0) (T := TX0) (N := 4) C.1 C.2.1 C.2.2.2.1 hin tyX0 tyX0_ok nmX0 C.2.2.1 C.2.2.2.2 hI.1 hI.2.1 hI.2.2 2 rfl rfl 3 (by decide) (C.2.2.2.1 _ hlk) (fun _ h9 => h9) rfl (by decide +kernel) rfl rfl (Nat.le_of_ble_eq_true rfl) hdg (fun H1 locs1 hP hD hS => kk H1 locs1 ⟨hP, hD, hS⟩)
theorem q_get_RX1_9 (C : q_C p m c cc st args Ts RX1 D (q_tY ca)) (hin : ∀ w ∈ wsX10, w ∈ Ts) (hlk : Cond.fieldLink RX1 9 "ReaderYard$Pile" "values" "[J" ∈ Ts) (hI : q_I D A H0 H locs (q_wY h ad ca s a g)) (hdg : decode cc pc = .ok (.getfield 9, 3))
    (kk : W p l e R st m args below meth c H locs cells slots Q (F0 m (pc + 3) ls (.ref (ad 20) :: rest))) : W p l e R st m args below meth c H locs cells slots Q (F0 m pc ls (.ref (ad 9) :: rest)) :=
  va_get (D := D) (ci := 1) (C := RX1) (T := TX1) (N := 5) C.1 C.2.1 C.2.2.2.1 hin C.2.2.1 C.2.2.2.2 hI.1 1 rfl rfl 0 (by decide) (C.2.2.2.1 _ hlk) (fun _ h9 => h9) rfl hdg kk
theorem q_get_RX1_15 (C : q_C p m c cc st args Ts RX1 D (q_tY ca)) (hin : ∀ w ∈ wsX10, w ∈ Ts) (hlk : Cond.fieldLink RX1 15 "ReaderYard$Pile" "belows" "[I" ∈ Ts) (hI : q_I D A H0 H locs (q_wY h ad ca s a g)) (hdg : decode cc pc = .ok (.getfield 15, 3))
    (kk : W p l e R st m args below meth c H locs cells slots Q (F0 m (pc + 3) ls (.ref (ad 21) :: rest))) : W p l e R st m args below meth c H locs cells slots Q (F0 m pc ls (.ref (ad 9) :: rest)) :=
  va_get (D := D) (ci := 1) (C := RX1) (T := TX1) (N := 5) C.1 C.2.1 C.2.2.2.1 hin C.2.2.1 C.2.2.2.2 hI.1 1 rfl rfl 1 (by decide) (C.2.2.2.1 _ hlk) (fun _ h9 => h9) rfl hdg kk
theorem q_get_RX1_19 (C : q_C p m c cc st args Ts RX1 D (q_tY ca)) (hin : ∀ w ∈ wsX10, w ∈ Ts) (hlk : Cond.fieldLink RX1 19 "ReaderYard$Pile" "heights" "[I" ∈ Ts) (hI : q_I D A H0 H locs (q_wY h ad ca s a g)) (hdg : decode cc pc = .ok (.getfield 19, 3))
    (kk : W p l e R st m args below meth c H locs cells slots Q (F0 m (pc + 3) ls (.ref (ad 22) :: rest))) : W p l e R st m args below meth c H locs cells slots Q (F0 m pc ls (.ref (ad 9) :: rest)) :=
  va_get (D := D) (ci := 1) (C := RX1) (T := TX1) (N := 5) C.1 C.2.1 C.2.2.2.1 hin C.2.2.1 C.2.2.2.2 hI.1 1 rfl rfl 2 (by decide) (C.2.2.2.1 _ hlk) (fun _ h9 => h9) rfl hdg kk
theorem q_get_RX1_22 (C : q_C p m c cc st args Ts RX1 D (q_tY ca)) (hin : ∀ w ∈ wsX10, w ∈ Ts) (hlk : Cond.fieldLink RX1 22 "ReaderYard$Pile" "used" "I" ∈ Ts) (hI : q_I D A H0 H locs (q_wY h ad ca s a g)) (hdg : decode cc pc = .ok (.getfield 22, 3))
    (kk : W p l e R st m args below meth c H locs cells slots Q (F0 m (pc + 3) ls (.int (s 23) :: rest))) : W p l e R st m args below meth c H locs cells slots Q (F0 m pc ls (.ref (ad 9) :: rest)) :=
  va_get (D := D) (ci := 1) (C := RX1) (T := TX1) (N := 5) C.1 C.2.1 C.2.2.2.1 hin C.2.2.1 C.2.2.2.2 hI.1 1 rfl rfl 3 (by decide) (C.2.2.2.1 _ hlk) (fun _ h9 => h9) rfl hdg kk
theorem q_put_RX1_22 (C : q_C p m c cc st args Ts RX1 D (q_tY ca)) (hin : ∀ w ∈ wsX10, w ∈ Ts) (hlk : Cond.fieldLink RX1 22 "ReaderYard$Pile" "used" "I" ∈ Ts) {v : Int32} (e1 : s1 = q_us s 23 v) (hI : q_I D A H0 H locs (q_wY h ad ca s a g)) (hdg : decode cc pc = .ok (.putfield 22, 3))
    (kk : ∀ (H1 : Heap) (locs1 : List Loc), q_I D A H0 H1 locs1 (q_wY h ad ca s1 a g) → W p l e R st m args below meth c H1 locs1 cells slots Q (F0 m (pc + 3) ls rest)) : W p l e R st m args below meth c H locs cells slots Q (F0 m pc ls (.int v :: .ref (ad 9) :: rest)) := by
  subst e1
  exact va_put (D := D) (ci := 1) (v := .int v) (ty := .int) (C := RX1) (T := TX1) (N := 5) C.1 C.2.1 C.2.2.2.1 hin tyX1 tyX1_ok nmX1 C.2.2.1 C.2.2.2.2 hI.1 hI.2.1 hI.2.2 1 rfl rfl 3 (by decide) (C.2.2.2.1 _ hlk) (fun _ h9 => h9) rfl (by decide +kernel) rfl rfl (Nat.le_of_ble_eq_true rfl) hdg (fun H1 locs1 hP hD hS => kk H1 locs1 ⟨hP, hD, hS⟩)
theorem q_get_RX1_26 (C : q_C p m c cc st args Ts RX1 D (q_tY ca)) (hin : ∀ w ∈ wsX10, w ∈ Ts) (hlk : Cond.fieldLink RX1 26 "ReaderYard$Pile" "top" "I" ∈ Ts) (hI : q_I D A H0 H locs (q_wY h ad ca s a g)) (hdg : decode cc pc = .ok (.getfield 26, 3))
    (kk : W p l e R st m args below meth c H locs cells slots Q (F0 m (pc + 3) ls (.int (s 24) :: rest))) : W p l e R st m args below meth c H locs cells slots Q (F0 m pc ls (.ref (ad 9) :: rest)) :=
  va_get (D := D) (ci := 1) (C := RX1) (T := TX1) (N := 5) C.1 C.2.1 C.2.2.2.1 hin C.2.2.1 C.2.2.2.2 hI.1 1 rfl rfl 4 (by decide) (C.2.2.2.1 _ hlk) (fun _ h9 => h9) rfl hdg kk
theorem q_put_RX1_26 (C : q_C p m c cc st args Ts RX1 D (q_tY ca)) (hin : ∀ w ∈ wsX10, w ∈ Ts) (hlk : Cond.fieldLink RX1 26 "ReaderYard$Pile" "top" "I" ∈ Ts) {v : Int32} (e1 : s1 = q_us s 24 v) (hI : q_I D A H0 H locs (q_wY h ad ca s a g)) (hdg : decode cc pc = .ok (.putfield 26, 3))
    (kk : ∀ (H1 : Heap) (locs1 : List Loc), q_I D A H0 H1 locs1 (q_wY h ad ca s1 a g) → W p l e R st m args below meth c H1 locs1 cells slots Q (F0 m (pc + 3) ls rest)) : W p l e R st m args below meth c H locs cells slots Q (F0 m pc ls (.int v :: .ref (ad 9) :: rest)) := by
  subst e1
  exact va_put (D := D) (ci := 1) (v := .int v) (ty := .int) (C := RX1) (T := TX1) (N := 5) C.1 C.2.1 C.2.2.2.1 hin tyX1 tyX1_ok nmX1 C.2.2.1 C.2.2.2.2 hI.1 hI.2.1 hI.2.2 1 rfl rfl 4 (by decide) (C.2.2.2.1 _ hlk) (fun _ h9 => h9) rfl (by decide +kernel) rfl rfl (Nat.le_of_ble_eq_true rfl) hdg (fun H1 locs1 hP hD hS => kk H1 locs1 ⟨hP, hD, hS⟩)
theorem q_get_RX2_9 (C : q_C p m c cc st args Ts RX2 D (q_tY ca)) (hin : ∀ w ∈ wsX20, w ∈ Ts) (hlk : Cond.fieldLink RX2 9 "ReaderYard" "signs" "[B" ∈ Ts) (hI : q_I D A H0 H locs (q_wY h ad ca s a g)) (hdg : decode cc pc = .ok (.getfield 9, 3))
    (kk : W p l e R st m args below meth c H locs cells slots Q (F0 m (pc + 3) ls (.ref (ad 0) :: rest))) : W p l e R st m args below meth c H locs cells slots Q (F0 m pc ls (.ref h :: rest)) :=
  va_get (D := D) (ci := 2) (C := RX2) (T := TX2) (N := 16) C.1 C.2.1 C.2.2.2.1 hin C.2.2.1 C.2.2.2.2 hI.1 0 rfl rfl 0 (by decide) (C.2.2.2.1 _ hlk) (fun _ h9 => h9) rfl hdg kk
theorem q_get_RX2_13 (C : q_C p m c cc st args Ts RX2 D (q_tY ca)) (hin : ∀ w ∈ wsX20, w ∈ Ts) (hlk : Cond.fieldLink RX2 13 "ReaderYard" "sorts" "[I" ∈ Ts) (hI : q_I D A H0 H locs (q_wY h ad ca s a g)) (hdg : decode cc pc = .ok (.getfield 13, 3))
    (kk : W p l e R st m args below meth c H locs cells slots Q (F0 m (pc + 3) ls (.ref (ad 2) :: rest))) : W p l e R st m args below meth c H locs cells slots Q (F0 m pc ls (.ref h :: rest)) :=
  va_get (D := D) (ci := 2) (C := RX2) (T := TX2) (N := 16) C.1 C.2.1 C.2.2.2.1 hin C.2.2.1 C.2.2.2.2 hI.1 0 rfl rfl 2 (by decide) (C.2.2.2.1 _ hlk) (fun _ h9 => h9) rfl hdg kk
theorem q_get_RX2_17 (C : q_C p m c cc st args Ts RX2 D (q_tY ca)) (hin : ∀ w ∈ wsX20, w ∈ Ts) (hlk : Cond.fieldLink RX2 17 "ReaderYard" "firsts" "[I" ∈ Ts) (hI : q_I D A H0 H locs (q_wY h ad ca s a g)) (hdg : decode cc pc = .ok (.getfield 17, 3))
    (kk : W p l e R st m args below meth c H locs cells slots Q (F0 m (pc + 3) ls (.ref (ad 3) :: rest))) : W p l e R st m args below meth c H locs cells slots Q (F0 m pc ls (.ref h :: rest)) :=
  va_get (D := D) (ci := 2) (C := RX2) (T := TX2) (N := 16) C.1 C.2.1 C.2.2.2.1 hin C.2.2.1 C.2.2.2.2 hI.1 0 rfl rfl 3 (by decide) (C.2.2.2.1 _ hlk) (fun _ h9 => h9) rfl hdg kk
theorem q_get_RX2_20 (C : q_C p m c cc st args Ts RX2 D (q_tY ca)) (hin : ∀ w ∈ wsX20, w ∈ Ts) (hlk : Cond.fieldLink RX2 20 "ReaderYard" "seconds" "[I" ∈ Ts) (hI : q_I D A H0 H locs (q_wY h ad ca s a g)) (hdg : decode cc pc = .ok (.getfield 20, 3))
    (kk : W p l e R st m args below meth c H locs cells slots Q (F0 m (pc + 3) ls (.ref (ad 4) :: rest))) : W p l e R st m args below meth c H locs cells slots Q (F0 m pc ls (.ref h :: rest)) :=
  va_get (D := D) (ci := 2) (C := RX2) (T := TX2) (N := 16) C.1 C.2.1 C.2.2.2.1 hin C.2.2.1 C.2.2.2.2 hI.1 0 rfl rfl 4 (by decide) (C.2.2.2.1 _ hlk) (fun _ h9 => h9) rfl hdg kk
theorem q_get_RX2_23 (C : q_C p m c cc st args Ts RX2 D (q_tY ca)) (hin : ∀ w ∈ wsX20, w ∈ Ts) (hlk : Cond.fieldLink RX2 23 "ReaderYard" "begun" "[I" ∈ Ts) (hI : q_I D A H0 H locs (q_wY h ad ca s a g)) (hdg : decode cc pc = .ok (.getfield 23, 3))
    (kk : W p l e R st m args below meth c H locs cells slots Q (F0 m (pc + 3) ls (.ref (ad 5) :: rest))) : W p l e R st m args below meth c H locs cells slots Q (F0 m pc ls (.ref h :: rest)) :=
  va_get (D := D) (ci := 2) (C := RX2) (T := TX2) (N := 16) C.1 C.2.1 C.2.2.2.1 hin C.2.2.1 C.2.2.2.2 hI.1 0 rfl rfl 5 (by decide) (C.2.2.2.1 _ hlk) (fun _ h9 => h9) rfl hdg kk
theorem q_get_RX2_26 (C : q_C p m c cc st args Ts RX2 D (q_tY ca)) (hin : ∀ w ∈ wsX20, w ∈ Ts) (hlk : Cond.fieldLink RX2 26 "ReaderYard" "names" "[I" ∈ Ts) (hI : q_I D A H0 H locs (q_wY h ad ca s a g)) (hdg : decode cc pc = .ok (.getfield 26, 3))
    (kk : W p l e R st m args below meth c H locs cells slots Q (F0 m (pc + 3) ls (.ref (ad 7) :: rest))) : W p l e R st m args below meth c H locs cells slots Q (F0 m pc ls (.ref h :: rest)) :=
  va_get (D := D) (ci := 2) (C := RX2) (T := TX2) (N := 16) C.1 C.2.1 C.2.2.2.1 hin C.2.2.1 C.2.2.2.2 hI.1 0 rfl rfl 7 (by decide) (C.2.2.2.1 _ hlk) (fun _ h9 => h9) rfl hdg kk
theorem q_get_RX2_29 (C : q_C p m c cc st args Ts RX2 D (q_tY ca)) (hin : ∀ w ∈ wsX20, w ∈ Ts) (hlk : Cond.fieldLink RX2 29 "ReaderYard" "barred" "[Z" ∈ Ts) (hI : q_I D A H0 H locs (q_wY h ad ca s a g)) (hdg : decode cc pc = .ok (.getfield 29, 3))
    (kk : W p l e R st m args below meth c H locs cells slots Q (F0 m (pc + 3) ls (.ref (ad 8) :: rest))) : W p l e R st m args below meth c H locs cells slots Q (F0 m pc ls (.ref h :: rest)) :=
  va_get (D := D) (ci := 2) (C := RX2) (T := TX2) (N := 16) C.1 C.2.1 C.2.2.2.1 hin C.2.2.1 C.2.2.2.2 hI.1 0 rfl rfl 8 (by decide) (C.2.2.2.1 _ hlk) (fun _ h9 => h9) rfl hdg kk
theorem q_get_RX2_36 (C : q_C p m c cc st args Ts RX2 D (q_tY ca)) (hin : ∀ w ∈ wsX20, w ∈ Ts) (hlk : Cond.fieldLink RX2 36 "ReaderYard" "numbers" "LReaderYard$Pile;" ∈ Ts) (hI : q_I D A H0 H locs (q_wY h ad ca s a g)) (hdg : decode cc pc = .ok (.getfield 36, 3))
    (kk : W p l e R st m args below meth c H locs cells slots Q (F0 m (pc + 3) ls (.ref (ad 9) :: rest))) : W p l e R st m args below meth c H locs cells slots Q (F0 m pc ls (.ref h :: rest)) :=
  va_get (D := D) (ci := 2) (C := RX2) (T := TX2) (N := 16) C.1 C.2.1 C.2.2.2.1 hin C.2.2.1 C.2.2.2.2 hI.1 0 rfl rfl 9 (by decide) (C.2.2.2.1 _ hlk) (fun _ h9 => h9) rfl hdg kk
theorem q_get_RX2_43 (C : q_C p m c cc st args Ts RX2 D (q_tY ca)) (hin : ∀ w ∈ wsX20, w ∈ Ts) (hlk : Cond.fieldLink RX2 43 "ReaderYard" "marks" "LReaderYard$Marks;" ∈ Ts) (hI : q_I D A H0 H locs (q_wY h ad ca s a g)) (hdg : decode cc pc = .ok (.getfield 43, 3))
    (kk : W p l e R st m args below meth c H locs cells slots Q (F0 m (pc + 3) ls (.ref (ad 10) :: rest))) : W p l e R st m args below meth c H locs cells slots Q (F0 m pc ls (.ref h :: rest)) :=
  va_get (D := D) (ci := 2) (C := RX2) (T := TX2) (N := 16) C.1 C.2.1 C.2.2.2.1 hin C.2.2.1 C.2.2.2.2 hI.1 0 rfl rfl 10 (by decide) (C.2.2.2.1 _ hlk) (fun _ h9 => h9) rfl hdg kk
theorem q_get_RX2_57 (C : q_C p m c cc st args Ts RX2 D (q_tY ca)) (hin : ∀ w ∈ wsX20, w ∈ Ts) (hlk : Cond.fieldLink RX2 57 "ReaderYard" "signCount" "I" ∈ Ts) (hI : q_I D A H0 H locs (q_wY h ad ca s a g)) (hdg : decode cc pc = .ok (.getfield 57, 3))
    (kk : W p l e R st m args below meth c H locs cells slots Q (F0 m (pc + 3) ls (.int (s 1) :: rest))) : W p l e R st m args below meth c H locs cells slots Q (F0 m pc ls (.ref h :: rest)) :=
  va_get (D := D) (ci := 2) (C := RX2) (T := TX2) (N := 16) C.1 C.2.1 C.2.2.2.1 hin C.2.2.1 C.2.2.2.2 hI.1 0 rfl rfl 1 (by decide) (C.2.2.2.1 _ hlk) (fun _ h9 => h9) rfl hdg kk
theorem q_put_RX2_57 (C : q_C p m c cc st args Ts RX2 D (q_tY ca)) (hin : ∀ w ∈ wsX20, w ∈ Ts) (hlk : Cond.fieldLink RX2 57 "ReaderYard" "signCount" "I" ∈ Ts) {v : Int32} (e1 : s1 = q_us s 1 v) (hI : q_I D A H0 H locs (q_wY h ad ca s a g)) (hdg : decode cc pc = .ok (.putfield 57, 3))
    (kk : ∀ (H1 : Heap) (locs1 : List Loc), q_I D A H0 H1 locs1 (q_wY h ad ca s1 a g) → W p l e R st m args below meth c H1 locs1 cells slots Q (F0 m (pc + 3) ls rest)) : W p l e R st m args below meth c H locs cells slots Q (F0 m pc ls (.int v :: .ref h :: rest)) := by
  subst e1
  exact va_put (D := D) (ci := 2) (v := .int v) (ty := .int) (C := RX2) (T := TX2) (N := 16) C.1 C.2.1 C.2.2.2.1 hin tyX2 tyX2_ok nmX2 C.2.2.1 C.2.2.2.2 hI.1 hI.2.1 hI.2.2 0 rfl rfl 1 (by decide) (C.2.2.2.1 _ hlk) (fun _ h9 => h9) rfl (by decide +kernel) rfl rfl (Nat.le_of_ble_eq_true rfl) hdg (fun H1 locs1 hP hD hS => kk H1 locs1 ⟨hP, hD, hS⟩)
theorem q_get_RX2_70 (C : q_C p m c cc st args Ts RX2 D (q_tY ca)) (hin : ∀ w ∈ wsX20, w ∈ Ts) (hlk : Cond.fieldLink RX2 70 "ReaderYard" "readerCount" "I" ∈ Ts) (hI : q_I D A H0 H locs (q_wY h ad ca s a g)) (hdg : decode cc pc = .ok (.getfield 70, 3))
    (kk : W p l e R st m args below meth c H locs cells slots Q (F0 m (pc + 3) ls (.int (s 6) :: rest))) : W p l e R st m args below meth c H locs cells slots Q (F0 m pc ls (.ref h :: rest)) :=
  va_get (D := D) (ci := 2) (C := RX2) (T := TX2) (N := 16) C.1 C.2.1 C.2.2.2.1 hin C.2.2.1 C.2.2.2.2 hI.1 0 rfl rfl 6 (by decide) (C.2.2.2.1 _ hlk) (fun _ h9 => h9) rfl hdg kk
theorem q_put_RX2_70 (C : q_C p m c cc st args Ts RX2 D (q_tY ca)) (hin : ∀ w ∈ wsX20, w ∈ Ts) (hlk : Cond.fieldLink RX2 70 "ReaderYard" "readerCount" "I" ∈ Ts) {v : Int32} (e1 : s1 = q_us s 6 v) (hI : q_I D A H0 H locs (q_wY h ad ca s a g)) (hdg : decode cc pc = .ok (.putfield 70, 3))
    (kk : ∀ (H1 : Heap) (locs1 : List Loc), q_I D A H0 H1 locs1 (q_wY h ad ca s1 a g) → W p l e R st m args below meth c H1 locs1 cells slots Q (F0 m (pc + 3) ls rest)) : W p l e R st m args below meth c H locs cells slots Q (F0 m pc ls (.int v :: .ref h :: rest)) := by
  subst e1
  exact va_put (D := D) (ci := 2) (v := .int v) (ty := .int) (C := RX2) (T := TX2) (N := 16) C.1 C.2.1 C.2.2.2.1 hin tyX2 tyX2_ok nmX2 C.2.2.1 C.2.2.2.2 hI.1 hI.2.1 hI.2.2 0 rfl rfl 6 (by decide) (C.2.2.2.1 _ hlk) (fun _ h9 => h9) rfl (by decide +kernel) rfl rfl (Nat.le_of_ble_eq_true rfl) hdg (fun H1 locs1 hP hD hS => kk H1 locs1 ⟨hP, hD, hS⟩)
theorem q_get_RX2_94 (C : q_C p m c cc st args Ts RX2 D (q_tY ca)) (hin : ∀ w ∈ wsX10, w ∈ Ts) (hlk : Cond.fieldLink RX2 94 "ReaderYard$Pile" "top" "I" ∈ Ts) (hI : q_I D A H0 H locs (q_wY h ad ca s a g)) (hdg : decode cc pc = .ok (.getfield 94, 3))
    (kk : W p l e R st m args below meth c H locs cells slots Q (F0 m (pc + 3) ls (.int (s 24) :: rest))) : W p l e R st m args below meth c H locs cells slots Q (F0 m pc ls (.ref (ad 9) :: rest)) :=
  va_get (D := D) (ci := 1) (C := RX1) (T := TX1) (N := 5) C.1 C.2.1 C.2.2.2.1 hin C.2.2.1 C.2.2.2.2 hI.1 1 rfl rfl 4 (by decide) (C.2.2.2.1 _ hlk) (fun _ h9 => h9) rfl hdg kk
theorem q_put_RX2_94 (C : q_C p m c cc st args Ts RX2 D (q_tY ca)) (hin : ∀ w ∈ wsX10, w ∈ Ts) (hlk : Cond.fieldLink RX2 94 "ReaderYard$Pile" "top" "I" ∈ Ts) {v : Int32} (e1 : s1 = q_us s 24 v) (hI : q_I D A H0 H locs (q_wY h ad ca s a g)) (hdg : decode cc pc = .ok (.putfield 94, 3))
    (kk : ∀ (H1 : Heap) (locs1 : List Loc), q_I D A H0 H1 locs1 (q_wY h ad ca s1 a g) → W p l e R st m args below meth c H1 locs1 cells slots Q (F0 m (pc + 3) ls rest)) : W p l e R st m args below meth c H locs cells slots Q (F0 m pc ls (.int v :: .ref (ad 9) :: rest)) := by
  subst e1
  exact va_put (D := D) (ci := 1) (v := .int v) (ty := .int) (C := RX1) (T := TX1) (N := 5) C.1 C.2.1 C.2.2.2.1 hin tyX1 tyX1_ok nmX1 C.2.2.1 C.2.2.2.2 hI.1 hI.2.1 hI.2.2 1 rfl rfl 4 (by decide) (C.2.2.2.1 _ hlk) (fun _ h9 => h9) rfl (by decide +kernel) rfl rfl (Nat.le_of_ble_eq_true rfl) hdg (fun H1 locs1 hP hD hS => kk H1 locs1 ⟨hP, hD, hS⟩)
theorem q_get_RX2_97 (C : q_C p m c cc st args Ts RX2 D (q_tY ca)) (hin : ∀ w ∈ wsX00, w ∈ Ts) (hlk : Cond.fieldLink RX2 97 "ReaderYard$Marks" "size" "I" ∈ Ts) (hI : q_I D A H0 H locs (q_wY h ad ca s a g)) (hdg : decode cc pc = .ok (.getfield 97, 3))
    (kk : W p l e R st m args below meth c H locs cells slots Q (F0 m (pc + 3) ls (.int (s 33) :: rest))) : W p l e R st m args below meth c H locs cells slots Q (F0 m pc ls (.ref (ad 10) :: rest)) :=
  va_get (D := D) (ci := 0) (C := RX0) (T := TX0) (N := 4) C.1 C.2.1 C.2.2.2.1 hin C.2.2.1 C.2.2.2.2 hI.1 2 rfl rfl 3 (by decide) (C.2.2.2.1 _ hlk) (fun _ h9 => h9) rfl hdg kk
theorem q_put_RX2_97 (C : q_C p m c cc st args Ts RX2 D (q_tY ca)) (hin : ∀ w ∈ wsX00, w ∈ Ts) (hlk : Cond.fieldLink RX2 97 "ReaderYard$Marks" "size" "I" ∈ Ts) {v : Int32} (e1 : s1 = q_us s 33 v) (hI : q_I D A H0 H locs (q_wY h ad ca s a g)) (hdg : decode cc pc = .ok (.putfield 97, 3))
    (kk : ∀ (H1 : Heap) (locs1 : List Loc), q_I D A H0 H1 locs1 (q_wY h ad ca s1 a g) → W p l e R st m args below meth c H1 locs1 cells slots Q (F0 m (pc + 3) ls rest)) : W p l e R st m args below meth c H locs cells slots Q (F0 m pc ls (.int v :: .ref (ad 10) :: rest)) := by
  subst e1
  exact va_put (D := D) (ci := 0) (v := .int v) (ty := .int) (C := RX0) (T := TX0) (N := 4) C.1 C.2.1 C.2.2.2.1 hin tyX0 tyX0_ok nmX0 C.2.2.1 C.2.2.2.2 hI.1 hI.2.1 hI.2.2 2 rfl rfl 3 (by decide) (C.2.2.2.1 _ hlk) (fun _ h9 => h9) rfl (by decide +kernel) rfl rfl (Nat.le_of_ble_eq_true rfl) hdg (fun H1 locs1 hP hD hS => kk H1 locs1 ⟨hP, hD, hS⟩)
theorem q_get_RX2_108 (C : q_C p m c cc st args Ts RX2 D (q_tY ca)) (hin : ∀ w ∈ wsX00, w ∈ Ts) (hlk : Cond.fieldLink RX2 108 "ReaderYard$Marks" "labels" "[I" ∈ Ts) (hI : q_I D A H0 H locs (q_wY h ad ca s a g)) (hdg : decode cc pc = .ok (.getfield 108, 3))
    (kk : W p l e R st m args below meth c H locs cells slots Q (F0 m (pc + 3) ls (.ref (ad 30) :: rest))) : W p l e R st m args below meth c H locs cells slots Q (F0 m pc ls (.ref (ad 10) :: rest)) :=
  va_get (D := D) (ci := 0) (C := RX0) (T := TX0) (N := 4) C.1 C.2.1 C.2.2.2.1 hin C.2.2.1 C.2.2.2.2 hI.1 2 rfl rfl 0 (by decide) (C.2.2.2.1 _ hlk) (fun _ h9 => h9) rfl hdg kk
theorem q_get_RX2_111 (C : q_C p m c cc st args Ts RX2 D (q_tY ca)) (hin : ∀ w ∈ wsX00, w ∈ Ts) (hlk : Cond.fieldLink RX2 111 "ReaderYard$Marks" "froms" "[I" ∈ Ts) (hI : q_I D A H0 H locs (q_wY h ad ca s a g)) (hdg : decode cc pc = .ok (.getfield 111, 3))
    (kk : W p l e R st m args below meth c H locs cells slots Q (F0 m (pc + 3) ls (.ref (ad 31) :: rest))) : W p l e R st m args below meth c H locs cells slots Q (F0 m pc ls (.ref (ad 10) :: rest)) :=
  va_get (D := D) (ci := 0) (C := RX0) (T := TX0) (N := 4) C.1 C.2.1 C.2.2.2.1 hin C.2.2.1 C.2.2.2.2 hI.1 2 rfl rfl 1 (by decide) (C.2.2.2.1 _ hlk) (fun _ h9 => h9) rfl hdg kk
theorem q_get_RX2_114 (C : q_C p m c cc st args Ts RX2 D (q_tY ca)) (hin : ∀ w ∈ wsX00, w ∈ Ts) (hlk : Cond.fieldLink RX2 114 "ReaderYard$Marks" "tos" "[I" ∈ Ts) (hI : q_I D A H0 H locs (q_wY h ad ca s a g)) (hdg : decode cc pc = .ok (.getfield 114, 3))
    (kk : W p l e R st m args below meth c H locs cells slots Q (F0 m (pc + 3) ls (.ref (ad 32) :: rest))) : W p l e R st m args below meth c H locs cells slots Q (F0 m pc ls (.ref (ad 10) :: rest)) :=
  va_get (D := D) (ci := 0) (C := RX0) (T := TX0) (N := 4) C.1 C.2.1 C.2.2.2.1 hin C.2.2.1 C.2.2.2.2 hI.1 2 rfl rfl 2 (by decide) (C.2.2.2.1 _ hlk) (fun _ h9 => h9) rfl hdg kk
theorem q_get_RX2_121 (C : q_C p m c cc st args Ts RX2 D (q_tY ca)) (hin : ∀ w ∈ wsX20, w ∈ Ts) (hlk : Cond.fieldLink RX2 121 "ReaderYard" "steps" "I" ∈ Ts) (hI : q_I D A H0 H locs (q_wY h ad ca s a g)) (hdg : decode cc pc = .ok (.getfield 121, 3))
    (kk : W p l e R st m args below meth c H locs cells slots Q (F0 m (pc + 3) ls (.int (s 11) :: rest))) : W p l e R st m args below meth c H locs cells slots Q (F0 m pc ls (.ref h :: rest)) :=
  va_get (D := D) (ci := 2) (C := RX2) (T := TX2) (N := 16) C.1 C.2.1 C.2.2.2.1 hin C.2.2.1 C.2.2.2.2 hI.1 0 rfl rfl 11 (by decide) (C.2.2.2.1 _ hlk) (fun _ h9 => h9) rfl hdg kk
theorem q_put_RX2_121 (C : q_C p m c cc st args Ts RX2 D (q_tY ca)) (hin : ∀ w ∈ wsX20, w ∈ Ts) (hlk : Cond.fieldLink RX2 121 "ReaderYard" "steps" "I" ∈ Ts) {v : Int32} (e1 : s1 = q_us s 11 v) (hI : q_I D A H0 H locs (q_wY h ad ca s a g)) (hdg : decode cc pc = .ok (.putfield 121, 3))
    (kk : ∀ (H1 : Heap) (locs1 : List Loc), q_I D A H0 H1 locs1 (q_wY h ad ca s1 a g) → W p l e R st m args below meth c H1 locs1 cells slots Q (F0 m (pc + 3) ls rest)) : W p l e R st m args below meth c H locs cells slots Q (F0 m pc ls (.int v :: .ref h :: rest)) := by
  subst e1
  exact va_put (D := D) (ci := 2) (v := .int v) (ty := .int) (C := RX2) (T := TX2) (N := 16) C.1 C.2.1 C.2.2.2.1 hin tyX2 tyX2_ok nmX2 C.2.2.1 C.2.2.2.2 hI.1 hI.2.1 hI.2.2 0 rfl rfl 11 (by decide) (C.2.2.2.1 _ hlk) (fun _ h9 => h9) rfl (by decide +kernel) rfl rfl (Nat.le_of_ble_eq_true rfl) hdg (fun H1 locs1 hP hD hS => kk H1 locs1 ⟨hP, hD, hS⟩)
theorem q_get_RX2_124 (C : q_C p m c cc st args Ts RX2 D (q_tY ca)) (hin : ∀ w ∈ wsX20, w ∈ Ts) (hlk : Cond.fieldLink RX2 124 "ReaderYard" "deepest" "I" ∈ Ts) (hI : q_I D A H0 H locs (q_wY h ad ca s a g)) (hdg : decode cc pc = .ok (.getfield 124, 3))
    (kk : W p l e R st m args below meth c H locs cells slots Q (F0 m (pc + 3) ls (.int (s 12) :: rest))) : W p l e R st m args below meth c H locs cells slots Q (F0 m pc ls (.ref h :: rest)) :=
  va_get (D := D) (ci := 2) (C := RX2) (T := TX2) (N := 16) C.1 C.2.1 C.2.2.2.1 hin C.2.2.1 C.2.2.2.2 hI.1 0 rfl rfl 12 (by decide) (C.2.2.2.1 _ hlk) (fun _ h9 => h9) rfl hdg kk
theorem q_put_RX2_124 (C : q_C p m c cc st args Ts RX2 D (q_tY ca)) (hin : ∀ w ∈ wsX20, w ∈ Ts) (hlk : Cond.fieldLink RX2 124 "ReaderYard" "deepest" "I" ∈ Ts) {v : Int32} (e1 : s1 = q_us s 12 v) (hI : q_I D A H0 H locs (q_wY h ad ca s a g)) (hdg : decode cc pc = .ok (.putfield 124, 3))
    (kk : ∀ (H1 : Heap) (locs1 : List Loc), q_I D A H0 H1 locs1 (q_wY h ad ca s1 a g) → W p l e R st m args below meth c H1 locs1 cells slots Q (F0 m (pc + 3) ls rest)) : W p l e R st m args below meth c H locs cells slots Q (F0 m pc ls (.int v :: .ref h :: rest)) := by
  subst e1
  exact va_put (D := D) (ci := 2) (v := .int v) (ty := .int) (C := RX2) (T := TX2) (N := 16) C.1 C.2.1 C.2.2.2.1 hin tyX2 tyX2_ok nmX2 C.2.2.1 C.2.2.2.2 hI.1 hI.2.1 hI.2.2 0 rfl rfl 12 (by decide) (C.2.2.2.1 _ hlk) (fun _ h9 => h9) rfl (by decide +kernel) rfl rfl (Nat.le_of_ble_eq_true rfl) hdg (fun H1 locs1 hP hD hS => kk H1 locs1 ⟨hP, hD, hS⟩)
theorem q_get_RX2_127 (C : q_C p m c cc st args Ts RX2 D (q_tY ca)) (hin : ∀ w ∈ wsX20, w ∈ Ts) (hlk : Cond.fieldLink RX2 127 "ReaderYard" "stepsEver" "I" ∈ Ts) (hI : q_I D A H0 H locs (q_wY h ad ca s a g)) (hdg : decode cc pc = .ok (.getfield 127, 3))
    (kk : W p l e R st m args below meth c H locs cells slots Q (F0 m (pc + 3) ls (.int (s 13) :: rest))) : W p l e R st m args below meth c H locs cells slots Q (F0 m pc ls (.ref h :: rest)) :=
  va_get (D := D) (ci := 2) (C := RX2) (T := TX2) (N := 16) C.1 C.2.1 C.2.2.2.1 hin C.2.2.1 C.2.2.2.2 hI.1 0 rfl rfl 13 (by decide) (C.2.2.2.1 _ hlk) (fun _ h9 => h9) rfl hdg kk
theorem q_put_RX2_127 (C : q_C p m c cc st args Ts RX2 D (q_tY ca)) (hin : ∀ w ∈ wsX20, w ∈ Ts) (hlk : Cond.fieldLink RX2 127 "ReaderYard" "stepsEver" "I" ∈ Ts) {v : Int32} (e1 : s1 = q_us s 13 v) (hI : q_I D A H0 H locs (q_wY h ad ca s a g)) (hdg : decode cc pc = .ok (.putfield 127, 3))
    (kk : ∀ (H1 : Heap) (locs1 : List Loc), q_I D A H0 H1 locs1 (q_wY h ad ca s1 a g) → W p l e R st m args below meth c H1 locs1 cells slots Q (F0 m (pc + 3) ls rest)) : W p l e R st m args below meth c H locs cells slots Q (F0 m pc ls (.int v :: .ref h :: rest)) := by
  subst e1
  exact va_put (D := D) (ci := 2) (v := .int v) (ty := .int) (C := RX2) (T := TX2) (N := 16) C.1 C.2.1 C.2.2.2.1 hin tyX2 tyX2_ok nmX2 C.2.2.1 C.2.2.2.2 hI.1 hI.2.1 hI.2.2 0 rfl rfl 13 (by decide) (C.2.2.2.1 _ hlk) (fun _ h9 => h9) rfl (by decide +kernel) rfl rfl (Nat.le_of_ble_eq_true rfl) hdg (fun H1 locs1 hP hD hS => kk H1 locs1 ⟨hP, hD, hS⟩)
theorem q_get_RX2_130 (C : q_C p m c cc st args Ts RX2 D (q_tY ca)) (hin : ∀ w ∈ wsX20, w ∈ Ts) (hlk : Cond.fieldLink RX2 130 "ReaderYard" "faultedCalls" "I" ∈ Ts) (hI : q_I D A H0 H locs (q_wY h ad ca s a g)) (hdg : decode cc pc = .ok (.getfield 130, 3))
    (kk : W p l e R st m args below meth c H locs cells slots Q (F0 m (pc + 3) ls (.int (s 14) :: rest))) : W p l e R st m args below meth c H locs cells slots Q (F0 m pc ls (.ref h :: rest)) :=
  va_get (D := D) (ci := 2) (C := RX2) (T := TX2) (N := 16) C.1 C.2.1 C.2.2.2.1 hin C.2.2.1 C.2.2.2.2 hI.1 0 rfl rfl 14 (by decide) (C.2.2.2.1 _ hlk) (fun _ h9 => h9) rfl hdg kk
theorem q_put_RX2_130 (C : q_C p m c cc st args Ts RX2 D (q_tY ca)) (hin : ∀ w ∈ wsX20, w ∈ Ts) (hlk : Cond.fieldLink RX2 130 "ReaderYard" "faultedCalls" "I" ∈ Ts) {v : Int32} (e1 : s1 = q_us s 14 v) (hI : q_I D A H0 H locs (q_wY h ad ca s a g)) (hdg : decode cc pc = .ok (.putfield 130, 3))
    (kk : ∀ (H1 : Heap) (locs1 : List Loc), q_I D A H0 H1 locs1 (q_wY h ad ca s1 a g) → W p l e R st m args below meth c H1 locs1 cells slots Q (F0 m (pc + 3) ls rest)) : W p l e R st m args below meth c H locs cells slots Q (F0 m pc ls (.int v :: .ref h :: rest)) := by
  subst e1
  exact va_put (D := D) (ci := 2) (v := .int v) (ty := .int) (C := RX2) (T := TX2) (N := 16) C.1 C.2.1 C.2.2.2.1 hin tyX2 tyX2_ok nmX2 C.2.2.1 C.2.2.2.2 hI.1 hI.2.1 hI.2.2 0 rfl rfl 14 (by decide) (C.2.2.2.1 _ hlk) (fun _ h9 => h9) rfl (by decide +kernel) rfl rfl (Nat.le_of_ble_eq_true rfl) hdg (fun H1 locs1 hP hD hS => kk H1 locs1 ⟨hP, hD, hS⟩)
theorem q_get_RX2_133 (C : q_C p m c cc st args Ts RX2 D (q_tY ca)) (hin : ∀ w ∈ wsX20, w ∈ Ts) (hlk : Cond.fieldLink RX2 133 "ReaderYard" "latestFault" "I" ∈ Ts) (hI : q_I D A H0 H locs (q_wY h ad ca s a g)) (hdg : decode cc pc = .ok (.getfield 133, 3))
    (kk : W p l e R st m args below meth c H locs cells slots Q (F0 m (pc + 3) ls (.int (s 15) :: rest))) : W p l e R st m args below meth c H locs cells slots Q (F0 m pc ls (.ref h :: rest)) :=
  va_get (D := D) (ci := 2) (C := RX2) (T := TX2) (N := 16) C.1 C.2.1 C.2.2.2.1 hin C.2.2.1 C.2.2.2.2 hI.1 0 rfl rfl 15 (by decide) (C.2.2.2.1 _ hlk) (fun _ h9 => h9) rfl hdg kk
theorem q_put_RX2_133 (C : q_C p m c cc st args Ts RX2 D (q_tY ca)) (hin : ∀ w ∈ wsX20, w ∈ Ts) (hlk : Cond.fieldLink RX2 133 "ReaderYard" "latestFault" "I" ∈ Ts) {v : Int32} (e1 : s1 = q_us s 15 v) (hI : q_I D A H0 H locs (q_wY h ad ca s a g)) (hdg : decode cc pc = .ok (.putfield 133, 3))
    (kk : ∀ (H1 : Heap) (locs1 : List Loc), q_I D A H0 H1 locs1 (q_wY h ad ca s1 a g) → W p l e R st m args below meth c H1 locs1 cells slots Q (F0 m (pc + 3) ls rest)) : W p l e R st m args below meth c H locs cells slots Q (F0 m pc ls (.int v :: .ref h :: rest)) := by
  subst e1
  exact va_put (D := D) (ci := 2) (v := .int v) (ty := .int) (C := RX2) (T := TX2) (N := 16) C.1 C.2.1 C.2.2.2.1 hin tyX2 tyX2_ok nmX2 C.2.2.1 C.2.2.2.2 hI.1 hI.2.1 hI.2.2 0 rfl rfl 15 (by decide) (C.2.2.2.1 _ hlk) (fun _ h9 => h9) rfl (by decide +kernel) rfl rfl (Nat.le_of_ble_eq_true rfl) hdg (fun H1 locs1 hP hD hS => kk H1 locs1 ⟨hP, hD, hS⟩)
theorem q_get_RX3_7 (C : q_C p m c cc st args Ts RX3 D (q_tM ca)) (hin : ∀ w ∈ wsX30, w ∈ Ts) (hlk : Cond.fieldLink RX3 7 "ReaderYardModel" "signs" "[I" ∈ Ts) (hI : q_I D A H0 H locs (q_wM h ad ca s a g)) (hdg : decode cc pc = .ok (.getfield 7, 3))
    (kk : W p l e R st m args below meth c H locs cells slots Q (F0 m (pc + 3) ls (.ref (ad 0) :: rest))) : W p l e R st m args below meth c H locs cells slots Q (F0 m pc ls (.ref h :: rest)) :=
  va_get (D := D) (ci := 3) (C := RX3) (T := TX3) (N := 36) C.1 C.2.1 C.2.2.2.1 hin C.2.2.1 C.2.2.2.2 hI.1 0 rfl rfl 0 (by decide) (C.2.2.2.1 _ hlk) (fun _ h9 => h9) rfl hdg kk
theorem q_get_RX3_13 (C : q_C p m c cc st args Ts RX3 D (q_tM ca)) (hin : ∀ w ∈ wsX30, w ∈ Ts) (hlk : Cond.fieldLink RX3 13 "ReaderYardModel" "sorts" "[I" ∈ Ts) (hI : q_I D A H0 H locs (q_wM h ad ca s a g)) (hdg : decode cc pc = .ok (.getfield 13, 3))
    (kk : W p l e R st m args below meth c H locs cells slots Q (F0 m (pc + 3) ls (.ref (ad 3) :: rest))) : W p l e R st m args below meth c H locs cells slots Q (F0 m pc ls (.ref h :: rest)) :=
  va_get (D := D) (ci := 3) (C := RX3) (T := TX3) (N := 36) C.1 C.2.1 C.2.2.2.1 hin C.2.2.1 C.2.2.2.2 hI.1 0 rfl rfl 3 (by decide) (C.2.2.2.1 _ hlk) (fun _ h9 => h9) rfl hdg kk
theorem q_get_RX3_16 (C : q_C p m c cc st args Ts RX3 D (q_tM ca)) (hin : ∀ w ∈ wsX30, w ∈ Ts) (hlk : Cond.fieldLink RX3 16 "ReaderYardModel" "as" "[I" ∈ Ts) (hI : q_I D A H0 H locs (q_wM h ad ca s a g)) (hdg : decode cc pc = .ok (.getfield 16, 3))
    (kk : W p l e R st m args below meth c H locs cells slots Q (F0 m (pc + 3) ls (.ref (ad 4) :: rest))) : W p l e R st m args below meth c H locs cells slots Q (F0 m pc ls (.ref h :: rest)) :=
  va_get (D := D) (ci := 3) (C := RX3) (T := TX3) (N := 36) C.1 C.2.1 C.2.2.2.1 hin C.2.2.1 C.2.2.2.2 hI.1 0 rfl rfl 4 (by decide) (C.2.2.2.1 _ hlk) (fun _ h9 => h9) rfl hdg kk
theorem q_get_RX3_19 (C : q_C p m c cc st args Ts RX3 D (q_tM ca)) (hin : ∀ w ∈ wsX30, w ∈ Ts) (hlk : Cond.fieldLink RX3 19 "ReaderYardModel" "bs" "[I" ∈ Ts) (hI : q_I D A H0 H locs (q_wM h ad ca s a g)) (hdg : decode cc pc = .ok (.getfield 19, 3))
    (kk : W p l e R st m args below meth c H locs cells slots Q (F0 m (pc + 3) ls (.ref (ad 5) :: rest))) : W p l e R st m args below meth c H locs cells slots Q (F0 m pc ls (.ref h :: rest)) :=
  va_get (D := D) (ci := 3) (C := RX3) (T := TX3) (N := 36) C.1 C.2.1 C.2.2.2.1 hin C.2.2.1 C.2.2.2.2 hI.1 0 rfl rfl 5 (by decide) (C.2.2.2.1 _ hlk) (fun _ h9 => h9) rfl hdg kk
theorem q_get_RX3_22 (C : q_C p m c cc st args Ts RX3 D (q_tM ca)) (hin : ∀ w ∈ wsX30, w ∈ Ts) (hlk : Cond.fieldLink RX3 22 "ReaderYardModel" "begins" "[I" ∈ Ts) (hI : q_I D A H0 H locs (q_wM h ad ca s a g)) (hdg : decode cc pc = .ok (.getfield 22, 3))
    (kk : W p l e R st m args below meth c H locs cells slots Q (F0 m (pc + 3) ls (.ref (ad 6) :: rest))) : W p l e R st m args below meth c H locs cells slots Q (F0 m pc ls (.ref h :: rest)) :=
  va_get (D := D) (ci := 3) (C := RX3) (T := TX3) (N := 36) C.1 C.2.1 C.2.2.2.1 hin C.2.2.1 C.2.2.2.2 hI.1 0 rfl rfl 6 (by decide) (C.2.2.2.1 _ hlk) (fun _ h9 => h9) rfl hdg kk
theorem q_get_RX3_25 (C : q_C p m c cc st args Ts RX3 D (q_tM ca)) (hin : ∀ w ∈ wsX30, w ∈ Ts) (hlk : Cond.fieldLink RX3 25 "ReaderYardModel" "names" "[I" ∈ Ts) (hI : q_I D A H0 H locs (q_wM h ad ca s a g)) (hdg : decode cc pc = .ok (.getfield 25, 3))
    (kk : W p l e R st m args below meth c H locs cells slots Q (F0 m (pc + 3) ls (.ref (ad 7) :: rest))) : W p l e R st m args below meth c H locs cells slots Q (F0 m pc ls (.ref h :: rest)) :=
  va_get (D := D) (ci := 3) (C := RX3) (T := TX3) (N := 36) C.1 C.2.1 C.2.2.2.1 hin C.2.2.1 C.2.2.2.2 hI.1 0 rfl rfl 7 (by decide) (C.2.2.2.1 _ hlk) (fun _ h9 => h9) rfl hdg kk
theorem q_get_RX3_28 (C : q_C p m c cc st args Ts RX3 D (q_tM ca)) (hin : ∀ w ∈ wsX30, w ∈ Ts) (hlk : Cond.fieldLink RX3 28 "ReaderYardModel" "laid" "[J" ∈ Ts) (hI : q_I D A H0 H locs (q_wM h ad ca s a g)) (hdg : decode cc pc = .ok (.getfield 28, 3))
    (kk : W p l e R st m args below meth c H locs cells slots Q (F0 m (pc + 3) ls (.ref (ad 8) :: rest))) : W p l e R st m args below meth c H locs cells slots Q (F0 m pc ls (.ref h :: rest)) :=
  va_get (D := D) (ci := 3) (C := RX3) (T := TX3) (N := 36) C.1 C.2.1 C.2.2.2.1 hin C.2.2.1 C.2.2.2.2 hI.1 0 rfl rfl 8 (by decide) (C.2.2.2.1 _ hlk) (fun _ h9 => h9) rfl hdg kk
theorem q_get_RX3_32 (C : q_C p m c cc st args Ts RX3 D (q_tM ca)) (hin : ∀ w ∈ wsX30, w ∈ Ts) (hlk : Cond.fieldLink RX3 32 "ReaderYardModel" "below" "[I" ∈ Ts) (hI : q_I D A H0 H locs (q_wM h ad ca s a g)) (hdg : decode cc pc = .ok (.getfield 32, 3))
    (kk : W p l e R st m args below meth c H locs cells slots Q (F0 m (pc + 3) ls (.ref (ad 9) :: rest))) : W p l e R st m args below meth c H locs cells slots Q (F0 m pc ls (.ref h :: rest)) :=
  va_get (D := D) (ci := 3) (C := RX3) (T := TX3) (N := 36) C.1 C.2.1 C.2.2.2.1 hin C.2.2.1 C.2.2.2.2 hI.1 0 rfl rfl 9 (by decide) (C.2.2.2.1 _ hlk) (fun _ h9 => h9) rfl hdg kk
theorem q_get_RX3_35 (C : q_C p m c cc st args Ts RX3 D (q_tM ca)) (hin : ∀ w ∈ wsX30, w ∈ Ts) (hlk : Cond.fieldLink RX3 35 "ReaderYardModel" "tall" "[I" ∈ Ts) (hI : q_I D A H0 H locs (q_wM h ad ca s a g)) (hdg : decode cc pc = .ok (.getfield 35, 3))
    (kk : W p l e R st m args below meth c H locs cells slots Q (F0 m (pc + 3) ls (.ref (ad 10) :: rest))) : W p l e R st m args below meth c H locs cells slots Q (F0 m pc ls (.ref h :: rest)) :=
  va_get (D := D) (ci := 3) (C := RX3) (T := TX3) (N := 36) C.1 C.2.1 C.2.2.2.1 hin C.2.2.1 C.2.2.2.2 hI.1 0 rfl rfl 10 (by decide) (C.2.2.2.1 _ hlk) (fun _ h9 => h9) rfl hdg kk
theorem q_get_RX3_38 (C : q_C p m c cc st args Ts RX3 D (q_tM ca)) (hin : ∀ w ∈ wsX30, w ∈ Ts) (hlk : Cond.fieldLink RX3 38 "ReaderYardModel" "markOf" "[I" ∈ Ts) (hI : q_I D A H0 H locs (q_wM h ad ca s a g)) (hdg : decode cc pc = .ok (.getfield 38, 3))
    (kk : W p l e R st m args below meth c H locs cells slots Q (F0 m (pc + 3) ls (.ref (ad 14) :: rest))) : W p l e R st m args below meth c H locs cells slots Q (F0 m pc ls (.ref h :: rest)) :=
  va_get (D := D) (ci := 3) (C := RX3) (T := TX3) (N := 36) C.1 C.2.1 C.2.2.2.1 hin C.2.2.1 C.2.2.2.2 hI.1 0 rfl rfl 14 (by decide) (C.2.2.2.1 _ hlk) (fun _ h9 => h9) rfl hdg kk
theorem q_get_RX3_41 (C : q_C p m c cc st args Ts RX3 D (q_tM ca)) (hin : ∀ w ∈ wsX30, w ∈ Ts) (hlk : Cond.fieldLink RX3 41 "ReaderYardModel" "markFrom" "[I" ∈ Ts) (hI : q_I D A H0 H locs (q_wM h ad ca s a g)) (hdg : decode cc pc = .ok (.getfield 41, 3))
    (kk : W p l e R st m args below meth c H locs cells slots Q (F0 m (pc + 3) ls (.ref (ad 15) :: rest))) : W p l e R st m args below meth c H locs cells slots Q (F0 m pc ls (.ref h :: rest)) :=
  va_get (D := D) (ci := 3) (C := RX3) (T := TX3) (N := 36) C.1 C.2.1 C.2.2.2.1 hin C.2.2.1 C.2.2.2.2 hI.1 0 rfl rfl 15 (by decide) (C.2.2.2.1 _ hlk) (fun _ h9 => h9) rfl hdg kk
theorem q_get_RX3_44 (C : q_C p m c cc st args Ts RX3 D (q_tM ca)) (hin : ∀ w ∈ wsX30, w ∈ Ts) (hlk : Cond.fieldLink RX3 44 "ReaderYardModel" "markTo" "[I" ∈ Ts) (hI : q_I D A H0 H locs (q_wM h ad ca s a g)) (hdg : decode cc pc = .ok (.getfield 44, 3))
    (kk : W p l e R st m args below meth c H locs cells slots Q (F0 m (pc + 3) ls (.ref (ad 16) :: rest))) : W p l e R st m args below meth c H locs cells slots Q (F0 m pc ls (.ref h :: rest)) :=
  va_get (D := D) (ci := 3) (C := RX3) (T := TX3) (N := 36) C.1 C.2.1 C.2.2.2.1 hin C.2.2.1 C.2.2.2.2 hI.1 0 rfl rfl 16 (by decide) (C.2.2.2.1 _ hlk) (fun _ h9 => h9) rfl hdg kk
theorem q_get_RX3_47 (C : q_C p m c cc st args Ts RX3 D (q_tM ca)) (hin : ∀ w ∈ wsX30, w ∈ Ts) (hlk : Cond.fieldLink RX3 47 "ReaderYardModel" "reader" "[I" ∈ Ts) (hI : q_I D A H0 H locs (q_wM h ad ca s a g)) (hdg : decode cc pc = .ok (.getfield 47, 3))
    (kk : W p l e R st m args below meth c H locs cells slots Q (F0 m (pc + 3) ls (.ref (ad 18) :: rest))) : W p l e R st m args below meth c H locs cells slots Q (F0 m pc ls (.ref h :: rest)) :=
  va_get (D := D) (ci := 3) (C := RX3) (T := TX3) (N := 36) C.1 C.2.1 C.2.2.2.1 hin C.2.2.1 C.2.2.2.2 hI.1 0 rfl rfl 18 (by decide) (C.2.2.2.1 _ hlk) (fun _ h9 => h9) rfl hdg kk
theorem q_get_RX3_50 (C : q_C p m c cc st args Ts RX3 D (q_tM ca)) (hin : ∀ w ∈ wsX30, w ∈ Ts) (hlk : Cond.fieldLink RX3 50 "ReaderYardModel" "phase" "[I" ∈ Ts) (hI : q_I D A H0 H locs (q_wM h ad ca s a g)) (hdg : decode cc pc = .ok (.getfield 50, 3))
    (kk : W p l e R st m args below meth c H locs cells slots Q (F0 m (pc + 3) ls (.ref (ad 19) :: rest))) : W p l e R st m args below meth c H locs cells slots Q (F0 m pc ls (.ref h :: rest)) :=
  va_get (D := D) (ci := 3) (C := RX3) (T := TX3) (N := 36) C.1 C.2.1 C.2.2.2.1 hin C.2.2.1 C.2.2.2.2 hI.1 0 rfl rfl 19 (by decide) (C.2.2.2.1 _ hlk) (fun _ h9 => h9) rfl hdg kk
theorem q_get_RX3_53 (C : q_C p m c cc st args Ts RX3 D (q_tM ca)) (hin : ∀ w ∈ wsX30, w ∈ Ts) (hlk : Cond.fieldLink RX3 53 "ReaderYardModel" "start" "[I" ∈ Ts) (hI : q_I D A H0 H locs (q_wM h ad ca s a g)) (hdg : decode cc pc = .ok (.getfield 53, 3))
    (kk : W p l e R st m args below meth c H locs cells slots Q (F0 m (pc + 3) ls (.ref (ad 20) :: rest))) : W p l e R st m args below meth c H locs cells slots Q (F0 m pc ls (.ref h :: rest)) :=
  va_get (D := D) (ci := 3) (C := RX3) (T := TX3) (N := 36) C.1 C.2.1 C.2.2.2.1 hin C.2.2.1 C.2.2.2.2 hI.1 0 rfl rfl 20 (by decide) (C.2.2.2.1 _ hlk) (fun _ h9 => h9) rfl hdg kk
theorem q_get_RX3_56 (C : q_C p m c cc st args Ts RX3 D (q_tM ca)) (hin : ∀ w ∈ wsX30, w ∈ Ts) (hlk : Cond.fieldLink RX3 56 "ReaderYardModel" "came" "[I" ∈ Ts) (hI : q_I D A H0 H locs (q_wM h ad ca s a g)) (hdg : decode cc pc = .ok (.getfield 56, 3))
    (kk : W p l e R st m args below meth c H locs cells slots Q (F0 m (pc + 3) ls (.ref (ad 21) :: rest))) : W p l e R st m args below meth c H locs cells slots Q (F0 m pc ls (.ref h :: rest)) :=
  va_get (D := D) (ci := 3) (C := RX3) (T := TX3) (N := 36) C.1 C.2.1 C.2.2.2.1 hin C.2.2.1 C.2.2.2.2 hI.1 0 rfl rfl 21 (by decide) (C.2.2.2.1 _ hlk) (fun _ h9 => h9) rfl hdg kk
theorem q_get_RX3_59 (C : q_C p m c cc st args Ts RX3 D (q_tM ca)) (hin : ∀ w ∈ wsX30, w ∈ Ts) (hlk : Cond.fieldLink RX3 59 "ReaderYardModel" "barred" "[Z" ∈ Ts) (hI : q_I D A H0 H locs (q_wM h ad ca s a g)) (hdg : decode cc pc = .ok (.getfield 59, 3))
    (kk : W p l e R st m args below meth c H locs cells slots Q (F0 m (pc + 3) ls (.ref (ad 22) :: rest))) : W p l e R st m args below meth c H locs cells slots Q (F0 m pc ls (.ref h :: rest)) :=
  va_get (D := D) (ci := 3) (C := RX3) (T := TX3) (N := 36) C.1 C.2.1 C.2.2.2.1 hin C.2.2.1 C.2.2.2.2 hI.1 0 rfl rfl 22 (by decide) (C.2.2.2.1 _ hlk) (fun _ h9 => h9) rfl hdg kk
theorem q_get_RX3_63 (C : q_C p m c cc st args Ts RX3 D (q_tM ca)) (hin : ∀ w ∈ wsX30, w ∈ Ts) (hlk : Cond.fieldLink RX3 63 "ReaderYardModel" "keptTop" "[I" ∈ Ts) (hI : q_I D A H0 H locs (q_wM h ad ca s a g)) (hdg : decode cc pc = .ok (.getfield 63, 3))
    (kk : W p l e R st m args below meth c H locs cells slots Q (F0 m (pc + 3) ls (.ref (ad 23) :: rest))) : W p l e R st m args below meth c H locs cells slots Q (F0 m pc ls (.ref h :: rest)) :=
  va_get (D := D) (ci := 3) (C := RX3) (T := TX3) (N := 36) C.1 C.2.1 C.2.2.2.1 hin C.2.2.1 C.2.2.2.2 hI.1 0 rfl rfl 23 (by decide) (C.2.2.2.1 _ hlk) (fun _ h9 => h9) rfl hdg kk
theorem q_get_RX3_66 (C : q_C p m c cc st args Ts RX3 D (q_tM ca)) (hin : ∀ w ∈ wsX30, w ∈ Ts) (hlk : Cond.fieldLink RX3 66 "ReaderYardModel" "keptChain" "[I" ∈ Ts) (hI : q_I D A H0 H locs (q_wM h ad ca s a g)) (hdg : decode cc pc = .ok (.getfield 66, 3))
    (kk : W p l e R st m args below meth c H locs cells slots Q (F0 m (pc + 3) ls (.ref (ad 24) :: rest))) : W p l e R st m args below meth c H locs cells slots Q (F0 m pc ls (.ref h :: rest)) :=
  va_get (D := D) (ci := 3) (C := RX3) (T := TX3) (N := 36) C.1 C.2.1 C.2.2.2.1 hin C.2.2.1 C.2.2.2.2 hI.1 0 rfl rfl 24 (by decide) (C.2.2.2.1 _ hlk) (fun _ h9 => h9) rfl hdg kk
theorem q_get_RX3_69 (C : q_C p m c cc st args Ts RX3 D (q_tM ca)) (hin : ∀ w ∈ wsX30, w ∈ Ts) (hlk : Cond.fieldLink RX3 69 "ReaderYardModel" "keptMarks" "[I" ∈ Ts) (hI : q_I D A H0 H locs (q_wM h ad ca s a g)) (hdg : decode cc pc = .ok (.getfield 69, 3))
    (kk : W p l e R st m args below meth c H locs cells slots Q (F0 m (pc + 3) ls (.ref (ad 25) :: rest))) : W p l e R st m args below meth c H locs cells slots Q (F0 m pc ls (.ref h :: rest)) :=
  va_get (D := D) (ci := 3) (C := RX3) (T := TX3) (N := 36) C.1 C.2.1 C.2.2.2.1 hin C.2.2.1 C.2.2.2.2 hI.1 0 rfl rfl 25 (by decide) (C.2.2.2.1 _ hlk) (fun _ h9 => h9) rfl hdg kk
theorem q_get_RX3_72 (C : q_C p m c cc st args Ts RX3 D (q_tM ca)) (hin : ∀ w ∈ wsX30, w ∈ Ts) (hlk : Cond.fieldLink RX3 72 "ReaderYardModel" "laterTop" "[I" ∈ Ts) (hI : q_I D A H0 H locs (q_wM h ad ca s a g)) (hdg : decode cc pc = .ok (.getfield 72, 3))
    (kk : W p l e R st m args below meth c H locs cells slots Q (F0 m (pc + 3) ls (.ref (ad 26) :: rest))) : W p l e R st m args below meth c H locs cells slots Q (F0 m pc ls (.ref h :: rest)) :=
  va_get (D := D) (ci := 3) (C := RX3) (T := TX3) (N := 36) C.1 C.2.1 C.2.2.2.1 hin C.2.2.1 C.2.2.2.2 hI.1 0 rfl rfl 26 (by decide) (C.2.2.2.1 _ hlk) (fun _ h9 => h9) rfl hdg kk
theorem q_get_RX3_75 (C : q_C p m c cc st args Ts RX3 D (q_tM ca)) (hin : ∀ w ∈ wsX30, w ∈ Ts) (hlk : Cond.fieldLink RX3 75 "ReaderYardModel" "laterChain" "[I" ∈ Ts) (hI : q_I D A H0 H locs (q_wM h ad ca s a g)) (hdg : decode cc pc = .ok (.getfield 75, 3))
    (kk : W p l e R st m args below meth c H locs cells slots Q (F0 m (pc + 3) ls (.ref (ad 27) :: rest))) : W p l e R st m args below meth c H locs cells slots Q (F0 m pc ls (.ref h :: rest)) :=
  va_get (D := D) (ci := 3) (C := RX3) (T := TX3) (N := 36) C.1 C.2.1 C.2.2.2.1 hin C.2.2.1 C.2.2.2.2 hI.1 0 rfl rfl 27 (by decide) (C.2.2.2.1 _ hlk) (fun _ h9 => h9) rfl hdg kk
theorem q_get_RX3_78 (C : q_C p m c cc st args Ts RX3 D (q_tM ca)) (hin : ∀ w ∈ wsX30, w ∈ Ts) (hlk : Cond.fieldLink RX3 78 "ReaderYardModel" "laterMarks" "[I" ∈ Ts) (hI : q_I D A H0 H locs (q_wM h ad ca s a g)) (hdg : decode cc pc = .ok (.getfield 78, 3))
    (kk : W p l e R st m args below meth c H locs cells slots Q (F0 m (pc + 3) ls (.ref (ad 28) :: rest))) : W p l e R st m args below meth c H locs cells slots Q (F0 m pc ls (.ref h :: rest)) :=
  va_get (D := D) (ci := 3) (C := RX3) (T := TX3) (N := 36) C.1 C.2.1 C.2.2.2.1 hin C.2.2.1 C.2.2.2.2 hI.1 0 rfl rfl 28 (by decide) (C.2.2.2.1 _ hlk) (fun _ h9 => h9) rfl hdg kk
theorem q_get_RX3_81 (C : q_C p m c cc st args Ts RX3 D (q_tM ca)) (hin : ∀ w ∈ wsX30, w ∈ Ts) (hlk : Cond.fieldLink RX3 81 "ReaderYardModel" "many" "I" ∈ Ts) (hI : q_I D A H0 H locs (q_wM h ad ca s a g)) (hdg : decode cc pc = .ok (.getfield 81, 3))
    (kk : W p l e R st m args below meth c H locs cells slots Q (F0 m (pc + 3) ls (.int (s 2) :: rest))) : W p l e R st m args below meth c H locs cells slots Q (F0 m pc ls (.ref h :: rest)) :=
  va_get (D := D) (ci := 3) (C := RX3) (T := TX3) (N := 36) C.1 C.2.1 C.2.2.2.1 hin C.2.2.1 C.2.2.2.2 hI.1 0 rfl rfl 2 (by decide) (C.2.2.2.1 _ hlk) (fun _ h9 => h9) rfl hdg kk
theorem q_put_RX3_81 (C : q_C p m c cc st args Ts RX3 D (q_tM ca)) (hin : ∀ w ∈ wsX30, w ∈ Ts) (hlk : Cond.fieldLink RX3 81 "ReaderYardModel" "many" "I" ∈ Ts) {v : Int32} (e1 : s1 = q_us s 2 v) (hI : q_I D A H0 H locs (q_wM h ad ca s a g)) (hdg : decode cc pc = .ok (.putfield 81, 3))
    (kk : ∀ (H1 : Heap) (locs1 : List Loc), q_I D A H0 H1 locs1 (q_wM h ad ca s1 a g) → W p l e R st m args below meth c H1 locs1 cells slots Q (F0 m (pc + 3) ls rest)) : W p l e R st m args below meth c H locs cells slots Q (F0 m pc ls (.int v :: .ref h :: rest)) := by
  subst e1
  exact va_put (D := D) (ci := 3) (v := .int v) (ty := .int) (C := RX3) (T := TX3) (N := 36) C.1 C.2.1 C.2.2.2.1 hin tyX3 tyX3_ok nmX3 C.2.2.1 C.2.2.2.2 hI.1 hI.2.1 hI.2.2 0 rfl rfl 2 (by decide) (C.2.2.2.1 _ hlk) (fun _ h9 => h9) rfl (by decide +kernel) rfl rfl (Nat.le_of_ble_eq_true rfl) hdg (fun H1 locs1 hP hD hS => kk H1 locs1 ⟨hP, hD, hS⟩)
theorem q_get_RX3_89 (C : q_C p m c cc st args Ts RX3 D (q_tM ca)) (hin : ∀ w ∈ wsX30, w ∈ Ts) (hlk : Cond.fieldLink RX3 89 "ReaderYardModel" "length" "I" ∈ Ts) (hI : q_I D A H0 H locs (q_wM h ad ca s a g)) (hdg : decode cc pc = .ok (.getfield 89, 3))
    (kk : W p l e R st m args below meth c H locs cells slots Q (F0 m (pc + 3) ls (.int (s 1) :: rest))) : W p l e R st m args below meth c H locs cells slots Q (F0 m pc ls (.ref h :: rest)) :=
  va_get (D := D) (ci := 3) (C := RX3) (T := TX3) (N := 36) C.1 C.2.1 C.2.2.2.1 hin C.2.2.1 C.2.2.2.2 hI.1 0 rfl rfl 1 (by decide) (C.2.2.2.1 _ hlk) (fun _ h9 => h9) rfl hdg kk
theorem q_put_RX3_89 (C : q_C p m c cc st args Ts RX3 D (q_tM ca)) (hin : ∀ w ∈ wsX30, w ∈ Ts) (hlk : Cond.fieldLink RX3 89 "ReaderYardModel" "length" "I" ∈ Ts) {v : Int32} (e1 : s1 = q_us s 1 v) (hI : q_I D A H0 H locs (q_wM h ad ca s a g)) (hdg : decode cc pc = .ok (.putfield 89, 3))
    (kk : ∀ (H1 : Heap) (locs1 : List Loc), q_I D A H0 H1 locs1 (q_wM h ad ca s1 a g) → W p l e R st m args below meth c H1 locs1 cells slots Q (F0 m (pc + 3) ls rest)) : W p l e R st m args below meth c H locs cells slots Q (F0 m pc ls (.int v :: .ref h :: rest)) := by
  subst e1
  exact va_put (D := D) (ci := 3) (v := .int v) (ty := .int) (C := RX3) (T := TX3) (N := 36) C.1 C.2.1 C.2.2.2.1 hin tyX3 tyX3_ok nmX3 C.2.2.1 C.2.2.2.2 hI.1 hI.2.1 hI.2.2 0 rfl rfl 1 (by decide) (C.2.2.2.1 _ hlk) (fun _ h9 => h9) rfl (by decide +kernel) rfl rfl (Nat.le_of_ble_eq_true rfl) hdg (fun H1 locs1 hP hD hS => kk H1 locs1 ⟨hP, hD, hS⟩)
theorem q_get_RX3_96 (C : q_C p m c cc st args Ts RX3 D (q_tM ca)) (hin : ∀ w ∈ wsX30, w ∈ Ts) (hlk : Cond.fieldLink RX3 96 "ReaderYardModel" "deep" "I" ∈ Ts) (hI : q_I D A H0 H locs (q_wM h ad ca s a g)) (hdg : decode cc pc = .ok (.getfield 96, 3))
    (kk : W p l e R st m args below meth c H locs cells slots Q (F0 m (pc + 3) ls (.int (s 17) :: rest))) : W p l e R st m args below meth c H locs cells slots Q (F0 m pc ls (.ref h :: rest)) :=
  va_get (D := D) (ci := 3) (C := RX3) (T := TX3) (N := 36) C.1 C.2.1 C.2.2.2.1 hin C.2.2.1 C.2.2.2.2 hI.1 0 rfl rfl 17 (by decide) (C.2.2.2.1 _ hlk) (fun _ h9 => h9) rfl hdg kk
theorem q_put_RX3_96 (C : q_C p m c cc st args Ts RX3 D (q_tM ca)) (hin : ∀ w ∈ wsX30, w ∈ Ts) (hlk : Cond.fieldLink RX3 96 "ReaderYardModel" "deep" "I" ∈ Ts) {v : Int32} (e1 : s1 = q_us s 17 v) (hI : q_I D A H0 H locs (q_wM h ad ca s a g)) (hdg : decode cc pc = .ok (.putfield 96, 3))
    (kk : ∀ (H1 : Heap) (locs1 : List Loc), q_I D A H0 H1 locs1 (q_wM h ad ca s1 a g) → W p l e R st m args below meth c H1 locs1 cells slots Q (F0 m (pc + 3) ls rest)) : W p l e R st m args below meth c H locs cells slots Q (F0 m pc ls (.int v :: .ref h :: rest)) := by
  subst e1
  exact va_put (D := D) (ci := 3) (v := .int v) (ty := .int) (C := RX3) (T := TX3) (N := 36) C.1 C.2.1 C.2.2.2.1 hin tyX3 tyX3_ok nmX3 C.2.2.1 C.2.2.2.2 hI.1 hI.2.1 hI.2.2 0 rfl rfl 17 (by decide) (C.2.2.2.1 _ hlk) (fun _ h9 => h9) rfl (by decide +kernel) rfl rfl (Nat.le_of_ble_eq_true rfl) hdg (fun H1 locs1 hP hD hS => kk H1 locs1 ⟨hP, hD, hS⟩)
theorem q_get_RX3_99 (C : q_C p m c cc st args Ts RX3 D (q_tM ca)) (hin : ∀ w ∈ wsX30, w ∈ Ts) (hlk : Cond.fieldLink RX3 99 "ReaderYardModel" "fault" "I" ∈ Ts) (hI : q_I D A H0 H locs (q_wM h ad ca s a g)) (hdg : decode cc pc = .ok (.getfield 99, 3))
    (kk : W p l e R st m args below meth c H locs cells slots Q (F0 m (pc + 3) ls (.int (s 30) :: rest))) : W p l e R st m args below meth c H locs cells slots Q (F0 m pc ls (.ref h :: rest)) :=
  va_get (D := D) (ci := 3) (C := RX3) (T := TX3) (N := 36) C.1 C.2.1 C.2.2.2.1 hin C.2.2.1 C.2.2.2.2 hI.1 0 rfl rfl 30 (by decide) (C.2.2.2.1 _ hlk) (fun _ h9 => h9) rfl hdg kk
theorem q_put_RX3_99 (C : q_C p m c cc st args Ts RX3 D (q_tM ca)) (hin : ∀ w ∈ wsX30, w ∈ Ts) (hlk : Cond.fieldLink RX3 99 "ReaderYardModel" "fault" "I" ∈ Ts) {v : Int32} (e1 : s1 = q_us s 30 v) (hI : q_I D A H0 H locs (q_wM h ad ca s a g)) (hdg : decode cc pc = .ok (.putfield 99, 3))
    (kk : ∀ (H1 : Heap) (locs1 : List Loc), q_I D A H0 H1 locs1 (q_wM h ad ca s1 a g) → W p l e R st m args below meth c H1 locs1 cells slots Q (F0 m (pc + 3) ls rest)) : W p l e R st m args below meth c H locs cells slots Q (F0 m pc ls (.int v :: .ref h :: rest)) := by
  subst e1
  exact va_put (D := D) (ci := 3) (v := .int v) (ty := .int) (C := RX3) (T := TX3) (N := 36) C.1 C.2.1 C.2.2.2.1 hin tyX3 tyX3_ok nmX3 C.2.2.1 C.2.2.2.2 hI.1 hI.2.1 hI.2.2 0 rfl rfl 30 (by decide) (C.2.2.2.1 _ hlk) (fun _ h9 => h9) rfl (by decide +kernel) rfl rfl (Nat.le_of_ble_eq_true rfl) hdg (fun H1 locs1 hP hD hS => kk H1 locs1 ⟨hP, hD, hS⟩)
theorem q_get_RX3_102 (C : q_C p m c cc st args Ts RX3 D (q_tM ca)) (hin : ∀ w ∈ wsX30, w ∈ Ts) (hlk : Cond.fieldLink RX3 102 "ReaderYardModel" "steps" "I" ∈ Ts) (hI : q_I D A H0 H locs (q_wM h ad ca s a g)) (hdg : decode cc pc = .ok (.getfield 102, 3))
    (kk : W p l e R st m args below meth c H locs cells slots Q (F0 m (pc + 3) ls (.int (s 31) :: rest))) : W p l e R st m args below meth c H locs cells slots Q (F0 m pc ls (.ref h :: rest)) :=
  va_get (D := D) (ci := 3) (C := RX3) (T := TX3) (N := 36) C.1 C.2.1 C.2.2.2.1 hin C.2.2.1 C.2.2.2.2 hI.1 0 rfl rfl 31 (by decide) (C.2.2.2.1 _ hlk) (fun _ h9 => h9) rfl hdg kk
theorem q_put_RX3_102 (C : q_C p m c cc st args Ts RX3 D (q_tM ca)) (hin : ∀ w ∈ wsX30, w ∈ Ts) (hlk : Cond.fieldLink RX3 102 "ReaderYardModel" "steps" "I" ∈ Ts) {v : Int32} (e1 : s1 = q_us s 31 v) (hI : q_I D A H0 H locs (q_wM h ad ca s a g)) (hdg : decode cc pc = .ok (.putfield 102, 3))
    (kk : ∀ (H1 : Heap) (locs1 : List Loc), q_I D A H0 H1 locs1 (q_wM h ad ca s1 a g) → W p l e R st m args below meth c H1 locs1 cells slots Q (F0 m (pc + 3) ls rest)) : W p l e R st m args below meth c H locs cells slots Q (F0 m pc ls (.int v :: .ref h :: rest)) := by
  subst e1
  exact va_put (D := D) (ci := 3) (v := .int v) (ty := .int) (C := RX3) (T := TX3) (N := 36) C.1 C.2.1 C.2.2.2.1 hin tyX3 tyX3_ok nmX3 C.2.2.1 C.2.2.2.2 hI.1 hI.2.1 hI.2.2 0 rfl rfl 31 (by decide) (C.2.2.2.1 _ hlk) (fun _ h9 => h9) rfl (by decide +kernel) rfl rfl (Nat.le_of_ble_eq_true rfl) hdg (fun H1 locs1 hP hD hS => kk H1 locs1 ⟨hP, hD, hS⟩)
theorem q_get_RX3_105 (C : q_C p m c cc st args Ts RX3 D (q_tM ca)) (hin : ∀ w ∈ wsX30, w ∈ Ts) (hlk : Cond.fieldLink RX3 105 "ReaderYardModel" "allSteps" "I" ∈ Ts) (hI : q_I D A H0 H locs (q_wM h ad ca s a g)) (hdg : decode cc pc = .ok (.getfield 105, 3))
    (kk : W p l e R st m args below meth c H locs cells slots Q (F0 m (pc + 3) ls (.int (s 32) :: rest))) : W p l e R st m args below meth c H locs cells slots Q (F0 m pc ls (.ref h :: rest)) :=
  va_get (D := D) (ci := 3) (C := RX3) (T := TX3) (N := 36) C.1 C.2.1 C.2.2.2.1 hin C.2.2.1 C.2.2.2.2 hI.1 0 rfl rfl 32 (by decide) (C.2.2.2.1 _ hlk) (fun _ h9 => h9) rfl hdg kk
theorem q_put_RX3_105 (C : q_C p m c cc st args Ts RX3 D (q_tM ca)) (hin : ∀ w ∈ wsX30, w ∈ Ts) (hlk : Cond.fieldLink RX3 105 "ReaderYardModel" "allSteps" "I" ∈ Ts) {v : Int32} (e1 : s1 = q_us s 32 v) (hI : q_I D A H0 H locs (q_wM h ad ca s a g)) (hdg : decode cc pc = .ok (.putfield 105, 3))
    (kk : ∀ (H1 : Heap) (locs1 : List Loc), q_I D A H0 H1 locs1 (q_wM h ad ca s1 a g) → W p l e R st m args below meth c H1 locs1 cells slots Q (F0 m (pc + 3) ls rest)) : W p l e R st m args below meth c H locs cells slots Q (F0 m pc ls (.int v :: .ref h :: rest)) := by
  subst e1
  exact va_put (D := D) (ci := 3) (v := .int v) (ty := .int) (C := RX3) (T := TX3) (N := 36) C.1 C.2.1 C.2.2.2.1 hin tyX3 tyX3_ok nmX3 C.2.2.1 C.2.2.2.2 hI.1 hI.2.1 hI.2.2 0 rfl rfl 32 (by decide) (C.2.2.2.1 _ hlk) (fun _ h9 => h9) rfl (by decide +kernel) rfl rfl (Nat.le_of_ble_eq_true rfl) hdg (fun H1 locs1 hP hD hS => kk H1 locs1 ⟨hP, hD, hS⟩)
theorem q_get_RX3_108 (C : q_C p m c cc st args Ts RX3 D (q_tM ca)) (hin : ∀ w ∈ wsX30, w ∈ Ts) (hlk : Cond.fieldLink RX3 108 "ReaderYardModel" "onTop" "I" ∈ Ts) (hI : q_I D A H0 H locs (q_wM h ad ca s a g)) (hdg : decode cc pc = .ok (.getfield 108, 3))
    (kk : W p l e R st m args below meth c H locs cells slots Q (F0 m (pc + 3) ls (.int (s 12) :: rest))) : W p l e R st m args below meth c H locs cells slots Q (F0 m pc ls (.ref h :: rest)) :=
  va_get (D := D) (ci := 3) (C := RX3) (T := TX3) (N := 36) C.1 C.2.1 C.2.2.2.1 hin C.2.2.1 C.2.2.2.2 hI.1 0 rfl rfl 12 (by decide) (C.2.2.2.1 _ hlk) (fun _ h9 => h9) rfl hdg kk
theorem q_put_RX3_108 (C : q_C p m c cc st args Ts RX3 D (q_tM ca)) (hin : ∀ w ∈ wsX30, w ∈ Ts) (hlk : Cond.fieldLink RX3 108 "ReaderYardModel" "onTop" "I" ∈ Ts) {v : Int32} (e1 : s1 = q_us s 12 v) (hI : q_I D A H0 H locs (q_wM h ad ca s a g)) (hdg : decode cc pc = .ok (.putfield 108, 3))
    (kk : ∀ (H1 : Heap) (locs1 : List Loc), q_I D A H0 H1 locs1 (q_wM h ad ca s1 a g) → W p l e R st m args below meth c H1 locs1 cells slots Q (F0 m (pc + 3) ls rest)) : W p l e R st m args below meth c H locs cells slots Q (F0 m pc ls (.int v :: .ref h :: rest)) := by
  subst e1
  exact va_put (D := D) (ci := 3) (v := .int v) (ty := .int) (C := RX3) (T := TX3) (N := 36) C.1 C.2.1 C.2.2.2.1 hin tyX3 tyX3_ok nmX3 C.2.2.1 C.2.2.2.2 hI.1 hI.2.1 hI.2.2 0 rfl rfl 12 (by decide) (C.2.2.2.1 _ hlk) (fun _ h9 => h9) rfl (by decide +kernel) rfl rfl (Nat.le_of_ble_eq_true rfl) hdg (fun H1 locs1 hP hD hS => kk H1 locs1 ⟨hP, hD, hS⟩)
theorem q_get_RX3_111 (C : q_C p m c cc st args Ts RX3 D (q_tM ca)) (hin : ∀ w ∈ wsX30, w ∈ Ts) (hlk : Cond.fieldLink RX3 111 "ReaderYardModel" "chain" "I" ∈ Ts) (hI : q_I D A H0 H locs (q_wM h ad ca s a g)) (hdg : decode cc pc = .ok (.getfield 111, 3))
    (kk : W p l e R st m args below meth c H locs cells slots Q (F0 m (pc + 3) ls (.int (s 11) :: rest))) : W p l e R st m args below meth c H locs cells slots Q (F0 m pc ls (.ref h :: rest)) :=
  va_get (D := D) (ci := 3) (C := RX3) (T := TX3) (N := 36) C.1 C.2.1 C.2.2.2.1 hin C.2.2.1 C.2.2.2.2 hI.1 0 rfl rfl 11 (by decide) (C.2.2.2.1 _ hlk) (fun _ h9 => h9) rfl hdg kk
theorem q_put_RX3_111 (C : q_C p m c cc st args Ts RX3 D (q_tM ca)) (hin : ∀ w ∈ wsX30, w ∈ Ts) (hlk : Cond.fieldLink RX3 111 "ReaderYardModel" "chain" "I" ∈ Ts) {v : Int32} (e1 : s1 = q_us s 11 v) (hI : q_I D A H0 H locs (q_wM h ad ca s a g)) (hdg : decode cc pc = .ok (.putfield 111, 3))
    (kk : ∀ (H1 : Heap) (locs1 : List Loc), q_I D A H0 H1 locs1 (q_wM h ad ca s1 a g) → W p l e R st m args below meth c H1 locs1 cells slots Q (F0 m (pc + 3) ls rest)) : W p l e R st m args below meth c H locs cells slots Q (F0 m pc ls (.int v :: .ref h :: rest)) := by
  subst e1
  exact va_put (D := D) (ci := 3) (v := .int v) (ty := .int) (C := RX3) (T := TX3) (N := 36) C.1 C.2.1 C.2.2.2.1 hin tyX3 tyX3_ok nmX3 C.2.2.1 C.2.2.2.2 hI.1 hI.2.1 hI.2.2 0 rfl rfl 11 (by decide) (C.2.2.2.1 _ hlk) (fun _ h9 => h9) rfl (by decide +kernel) rfl rfl (Nat.le_of_ble_eq_true rfl) hdg (fun H1 locs1 hP hD hS => kk H1 locs1 ⟨hP, hD, hS⟩)
theorem q_get_RX3_114 (C : q_C p m c cc st args Ts RX3 D (q_tM ca)) (hin : ∀ w ∈ wsX30, w ∈ Ts) (hlk : Cond.fieldLink RX3 114 "ReaderYardModel" "marks" "I" ∈ Ts) (hI : q_I D A H0 H locs (q_wM h ad ca s a g)) (hdg : decode cc pc = .ok (.getfield 114, 3))
    (kk : W p l e R st m args below meth c H locs cells slots Q (F0 m (pc + 3) ls (.int (s 13) :: rest))) : W p l e R st m args below meth c H locs cells slots Q (F0 m pc ls (.ref h :: rest)) :=
  va_get (D := D) (ci := 3) (C := RX3) (T := TX3) (N := 36) C.1 C.2.1 C.2.2.2.1 hin C.2.2.1 C.2.2.2.2 hI.1 0 rfl rfl 13 (by decide) (C.2.2.2.1 _ hlk) (fun _ h9 => h9) rfl hdg kk
theorem q_put_RX3_114 (C : q_C p m c cc st args Ts RX3 D (q_tM ca)) (hin : ∀ w ∈ wsX30, w ∈ Ts) (hlk : Cond.fieldLink RX3 114 "ReaderYardModel" "marks" "I" ∈ Ts) {v : Int32} (e1 : s1 = q_us s 13 v) (hI : q_I D A H0 H locs (q_wM h ad ca s a g)) (hdg : decode cc pc = .ok (.putfield 114, 3))
    (kk : ∀ (H1 : Heap) (locs1 : List Loc), q_I D A H0 H1 locs1 (q_wM h ad ca s1 a g) → W p l e R st m args below meth c H1 locs1 cells slots Q (F0 m (pc + 3) ls rest)) : W p l e R st m args below meth c H locs cells slots Q (F0 m pc ls (.int v :: .ref h :: rest)) := by
  subst e1
  exact va_put (D := D) (ci := 3) (v := .int v) (ty := .int) (C := RX3) (T := TX3) (N := 36) C.1 C.2.1 C.2.2.2.1 hin tyX3 tyX3_ok nmX3 C.2.2.1 C.2.2.2.2 hI.1 hI.2.1 hI.2.2 0 rfl rfl 13 (by decide) (C.2.2.2.1 _ hlk) (fun _ h9 => h9) rfl (by decide +kernel) rfl rfl (Nat.le_of_ble_eq_true rfl) hdg (fun H1 locs1 hP hD hS => kk H1 locs1 ⟨hP, hD, hS⟩)
theorem q_get_RX3_117 (C : q_C p m c cc st args Ts RX3 D (q_tM ca)) (hin : ∀ w ∈ wsX30, w ∈ Ts) (hlk : Cond.fieldLink RX3 117 "ReaderYardModel" "deepest" "I" ∈ Ts) (hI : q_I D A H0 H locs (q_wM h ad ca s a g)) (hdg : decode cc pc = .ok (.getfield 117, 3))
    (kk : W p l e R st m args below meth c H locs cells slots Q (F0 m (pc + 3) ls (.int (s 33) :: rest))) : W p l e R st m args below meth c H locs cells slots Q (F0 m pc ls (.ref h :: rest)) :=
  va_get (D := D) (ci := 3) (C := RX3) (T := TX3) (N := 36) C.1 C.2.1 C.2.2.2.1 hin C.2.2.1 C.2.2.2.2 hI.1 0 rfl rfl 33 (by decide) (C.2.2.2.1 _ hlk) (fun _ h9 => h9) rfl hdg kk
theorem q_put_RX3_117 (C : q_C p m c cc st args Ts RX3 D (q_tM ca)) (hin : ∀ w ∈ wsX30, w ∈ Ts) (hlk : Cond.fieldLink RX3 117 "ReaderYardModel" "deepest" "I" ∈ Ts) {v : Int32} (e1 : s1 = q_us s 33 v) (hI : q_I D A H0 H locs (q_wM h ad ca s a g)) (hdg : decode cc pc = .ok (.putfield 117, 3))
    (kk : ∀ (H1 : Heap) (locs1 : List Loc), q_I D A H0 H1 locs1 (q_wM h ad ca s1 a g) → W p l e R st m args below meth c H1 locs1 cells slots Q (F0 m (pc + 3) ls rest)) : W p l e R st m args below meth c H locs cells slots Q (F0 m pc ls (.int v :: .ref h :: rest)) := by
  subst e1
  exact va_put (D := D) (ci := 3) (v := .int v) (ty := .int) (C := RX3) (T := TX3) (N := 36) C.1 C.2.1 C.2.2.2.1 hin tyX3 tyX3_ok nmX3 C.2.2.1 C.2.2.2.2 hI.1 hI.2.1 hI.2.2 0 rfl rfl 33 (by decide) (C.2.2.2.1 _ hlk) (fun _ h9 => h9) rfl (by decide +kernel) rfl rfl (Nat.le_of_ble_eq_true rfl) hdg (fun H1 locs1 hP hD hS => kk H1 locs1 ⟨hP, hD, hS⟩)
theorem q_get_RX3_128 (C : q_C p m c cc st args Ts RX3 D (q_tM ca)) (hin : ∀ w ∈ wsX30, w ∈ Ts) (hlk : Cond.fieldLink RX3 128 "ReaderYardModel" "result" "I" ∈ Ts) (hI : q_I D A H0 H locs (q_wM h ad ca s a g)) (hdg : decode cc pc = .ok (.getfield 128, 3))
    (kk : W p l e R st m args below meth c H locs cells slots Q (F0 m (pc + 3) ls (.int (s 29) :: rest))) : W p l e R st m args below meth c H locs cells slots Q (F0 m pc ls (.ref h :: rest)) :=
  va_get (D := D) (ci := 3) (C := RX3) (T := TX3) (N := 36) C.1 C.2.1 C.2.2.2.1 hin C.2.2.1 C.2.2.2.2 hI.1 0 rfl rfl 29 (by decide) (C.2.2.2.1 _ hlk) (fun _ h9 => h9) rfl hdg kk
theorem q_put_RX3_128 (C : q_C p m c cc st args Ts RX3 D (q_tM ca)) (hin : ∀ w ∈ wsX30, w ∈ Ts) (hlk : Cond.fieldLink RX3 128 "ReaderYardModel" "result" "I" ∈ Ts) {v : Int32} (e1 : s1 = q_us s 29 v) (hI : q_I D A H0 H locs (q_wM h ad ca s a g)) (hdg : decode cc pc = .ok (.putfield 128, 3))
    (kk : ∀ (H1 : Heap) (locs1 : List Loc), q_I D A H0 H1 locs1 (q_wM h ad ca s1 a g) → W p l e R st m args below meth c H1 locs1 cells slots Q (F0 m (pc + 3) ls rest)) : W p l e R st m args below meth c H locs cells slots Q (F0 m pc ls (.int v :: .ref h :: rest)) := by
  subst e1
  exact va_put (D := D) (ci := 3) (v := .int v) (ty := .int) (C := RX3) (T := TX3) (N := 36) C.1 C.2.1 C.2.2.2.1 hin tyX3 tyX3_ok nmX3 C.2.2.1 C.2.2.2.2 hI.1 hI.2.1 hI.2.2 0 rfl rfl 29 (by decide) (C.2.2.2.1 _ hlk) (fun _ h9 => h9) rfl (by decide +kernel) rfl rfl (Nat.le_of_ble_eq_true rfl) hdg (fun H1 locs1 hP hD hS => kk H1 locs1 ⟨hP, hD, hS⟩)
theorem q_get_RX3_177 (C : q_C p m c cc st args Ts RX3 D (q_tM ca)) (hin : ∀ w ∈ wsX30, w ∈ Ts) (hlk : Cond.fieldLink RX3 177 "ReaderYardModel" "faults" "I" ∈ Ts) (hI : q_I D A H0 H locs (q_wM h ad ca s a g)) (hdg : decode cc pc = .ok (.getfield 177, 3))
    (kk : W p l e R st m args below meth c H locs cells slots Q (F0 m (pc + 3) ls (.int (s 34) :: rest))) : W p l e R st m args below meth c H locs cells slots Q (F0 m pc ls (.ref h :: rest)) :=
  va_get (D := D) (ci := 3) (C := RX3) (T := TX3) (N := 36) C.1 C.2.1 C.2.2.2.1 hin C.2.2.1 C.2.2.2.2 hI.1 0 rfl rfl 34 (by decide) (C.2.2.2.1 _ hlk) (fun _ h9 => h9) rfl hdg kk
theorem q_put_RX3_177 (C : q_C p m c cc st args Ts RX3 D (q_tM ca)) (hin : ∀ w ∈ wsX30, w ∈ Ts) (hlk : Cond.fieldLink RX3 177 "ReaderYardModel" "faults" "I" ∈ Ts) {v : Int32} (e1 : s1 = q_us s 34 v) (hI : q_I D A H0 H locs (q_wM h ad ca s a g)) (hdg : decode cc pc = .ok (.putfield 177, 3))
    (kk : ∀ (H1 : Heap) (locs1 : List Loc), q_I D A H0 H1 locs1 (q_wM h ad ca s1 a g) → W p l e R st m args below meth c H1 locs1 cells slots Q (F0 m (pc + 3) ls rest)) : W p l e R st m args below meth c H locs cells slots Q (F0 m pc ls (.int v :: .ref h :: rest)) := by
  subst e1
  exact va_put (D := D) (ci := 3) (v := .int v) (ty := .int) (C := RX3) (T := TX3) (N := 36) C.1 C.2.1 C.2.2.2.1 hin tyX3 tyX3_ok nmX3 C.2.2.1 C.2.2.2.2 hI.1 hI.2.1 hI.2.2 0 rfl rfl 34 (by decide) (C.2.2.2.1 _ hlk) (fun _ h9 => h9) rfl (by decide +kernel) rfl rfl (Nat.le_of_ble_eq_true rfl) hdg (fun H1 locs1 hP hD hS => kk H1 locs1 ⟨hP, hD, hS⟩)
theorem q_get_RX3_180 (C : q_C p m c cc st args Ts RX3 D (q_tM ca)) (hin : ∀ w ∈ wsX30, w ∈ Ts) (hlk : Cond.fieldLink RX3 180 "ReaderYardModel" "lastFault" "I" ∈ Ts) (hI : q_I D A H0 H locs (q_wM h ad ca s a g)) (hdg : decode cc pc = .ok (.getfield 180, 3))
    (kk : W p l e R st m args below meth c H locs cells slots Q (F0 m (pc + 3) ls (.int (s 35) :: rest))) : W p l e R st m args below meth c H locs cells slots Q (F0 m pc ls (.ref h :: rest)) :=
  va_get (D := D) (ci := 3) (C := RX3) (T := TX3) (N := 36) C.1 C.2.1 C.2.2.2.1 hin C.2.2.1 C.2.2.2.2 hI.1 0 rfl rfl 35 (by decide) (C.2.2.2.1 _ hlk) (fun _ h9 => h9) rfl hdg kk
theorem q_put_RX3_180 (C : q_C p m c cc st args Ts RX3 D (q_tM ca)) (hin : ∀ w ∈ wsX30, w ∈ Ts) (hlk : Cond.fieldLink RX3 180 "ReaderYardModel" "lastFault" "I" ∈ Ts) {v : Int32} (e1 : s1 = q_us s 35 v) (hI : q_I D A H0 H locs (q_wM h ad ca s a g)) (hdg : decode cc pc = .ok (.putfield 180, 3))
    (kk : ∀ (H1 : Heap) (locs1 : List Loc), q_I D A H0 H1 locs1 (q_wM h ad ca s1 a g) → W p l e R st m args below meth c H1 locs1 cells slots Q (F0 m (pc + 3) ls rest)) : W p l e R st m args below meth c H locs cells slots Q (F0 m pc ls (.int v :: .ref h :: rest)) := by
  subst e1
  exact va_put (D := D) (ci := 3) (v := .int v) (ty := .int) (C := RX3) (T := TX3) (N := 36) C.1 C.2.1 C.2.2.2.1 hin tyX3 tyX3_ok nmX3 C.2.2.1 C.2.2.2.2 hI.1 hI.2.1 hI.2.2 0 rfl rfl 35 (by decide) (C.2.2.2.1 _ hlk) (fun _ h9 => h9) rfl (by decide +kernel) rfl rfl (Nat.le_of_ble_eq_true rfl) hdg (fun H1 locs1 hP hD hS => kk H1 locs1 ⟨hP, hD, hS⟩)
theorem q_ld_Y_signs (C : q_C p m c cc st args Ts own D (q_tY ca)) {i : Int32} (hi : vp_in i 200) (hI : q_I D A H0 H locs (q_wY h ad ca s a g)) (hdg : decode cc pc = .ok (.baload, 1))
    (kk : W p l e R st m args below meth c H locs cells slots Q (F0 m (pc + 1) ls (.int (a 0 i.toNatClampNeg) :: rest))) : W p l e R st m args below meth c H locs cells slots Q (F0 m pc ls (.int i :: .ref (ad 0) :: rest)) := va_bald C.1 C.2.1 C.2.2.2.2 hI.1 3 0 rfl rfl hi hdg kk
theorem q_st_Y_signs (C : q_C p m c cc st args Ts own D (q_tY ca)) {i : Int32} {x : Int32} (hi : vp_in i 200) (e1 : a1 = q_ua a 0 i.toNatClampNeg (vp_nar .byte x)) (hI : q_I D A H0 H locs (q_wY h ad ca s a g)) (hdg : decode cc pc = .ok (.bastore, 1))
    (kk : ∀ (H1 : Heap) (locs1 : List Loc), q_I D A H0 H1 locs1 (q_wY h ad ca s a1 g) → W p l e R st m args below meth c H1 locs1 cells slots Q (F0 m (pc + 1) ls rest)) : W p l e R st m args below meth c H locs cells slots Q (F0 m pc ls (.int x :: .int i :: .ref (ad 0) :: rest)) := by
  subst e1
  exact va_bast C.1 C.2.1 C.2.2.2.2 hI.1 hI.2.1 hI.2.2 3 0 rfl rfl hi hdg (fun H1 locs1 hP hD hS => kk H1 locs1 ⟨hP, hD, hS⟩)
theorem q_ld_Y_sorts (C : q_C p m c cc st args Ts own D (q_tY ca)) {i : Int32} (hi : vp_in i 50) (hI : q_I D A H0 H locs (q_wY h ad ca s a g)) (hdg : decode cc pc = .ok (.iaload, 1))
    (kk : W p l e R st m args below meth c H locs cells slots Q (F0 m (pc + 1) ls (.int (a 2 i.toNatClampNeg) :: rest))) : W p l e R st m args below meth c H locs cells slots Q (F0 m pc ls (.int i :: .ref (ad 2) :: rest)) := va_iald C.1 C.2.1 C.2.2.2.2 hI.1 4 1 rfl rfl hi hdg kk
theorem q_st_Y_sorts (C : q_C p m c cc st args Ts own D (q_tY ca)) {i : Int32} {x : Int32} (hi : vp_in i 50) (e1 : a1 = q_ua a 2 i.toNatClampNeg x) (hI : q_I D A H0 H locs (q_wY h ad ca s a g)) (hdg : decode cc pc = .ok (.iastore, 1))
    (kk : ∀ (H1 : Heap) (locs1 : List Loc), q_I D A H0 H1 locs1 (q_wY h ad ca s a1 g) → W p l e R st m args below meth c H1 locs1 cells slots Q (F0 m (pc + 1) ls rest)) : W p l e R st m args below meth c H locs cells slots Q (F0 m pc ls (.int x :: .int i :: .ref (ad 2) :: rest)) := by
  subst e1
  exact va_iast C.1 C.2.1 C.2.2.2.2 hI.1 hI.2.1 hI.2.2 4 1 rfl rfl hi hdg (fun H1 locs1 hP hD hS => kk H1 locs1 ⟨hP, hD, hS⟩)
theorem q_ld_Y_firsts (C : q_C p m c cc st args Ts own D (q_tY ca)) {i : Int32} (hi : vp_in i 50) (hI : q_I D A H0 H locs (q_wY h ad ca s a g)) (hdg : decode cc pc = .ok (.iaload, 1))
    (kk : W p l e R st m args below meth c H locs cells slots Q (F0 m (pc + 1) ls (.int (a 3 i.toNatClampNeg) :: rest))) : W p l e R st m args below meth c H locs cells slots Q (F0 m pc ls (.int i :: .ref (ad 3) :: rest)) := va_iald C.1 C.2.1 C.2.2.2.2 hI.1 5 2 rfl rfl hi hdg kk
theorem q_st_Y_firsts (C : q_C p m c cc st args Ts own D (q_tY ca)) {i : Int32} {x : Int32} (hi : vp_in i 50) (e1 : a1 = q_ua a 3 i.toNatClampNeg x) (hI : q_I D A H0 H locs (q_wY h ad ca s a g)) (hdg : decode cc pc = .ok (.iastore, 1))
    (kk : ∀ (H1 : Heap) (locs1 : List Loc), q_I D A H0 H1 locs1 (q_wY h ad ca s a1 g) → W p l e R st m args below meth c H1 locs1 cells slots Q (F0 m (pc + 1) ls rest)) : W p l e R st m args below meth c H locs cells slots Q (F0 m pc ls (.int x :: .int i :: .ref (ad 3) :: rest)) := by
  subst e1
  exact va_iast C.1 C.2.1 C.2.2.2.2 hI.1 hI.2.1 hI.2.2 5 2 rfl rfl hi hdg (fun H1 locs1 hP hD hS => kk H1 locs1 ⟨hP, hD, hS⟩)
theorem q_ld_Y_seconds (C : q_C p m c cc st args Ts own D (q_tY ca)) {i : Int32} (hi : vp_in i 50) (hI : q_I D A H0 H locs (q_wY h ad ca s a g)) (hdg : decode cc pc = .ok (.iaload, 1))
    (kk : W p l e R st m args below meth c H locs cells slots Q (F0 m (pc + 1) ls (.int (a 4 i.toNatClampNeg) :: rest))) : W p l e R st m args below meth c H locs cells slots Q (F0 m pc ls (.int i :: .ref (ad 4) :: rest)) := va_iald C.1 C.2.1 C.2.2.2.2 hI.1 6 3 rfl rfl hi hdg kk
theorem q_st_Y_seconds (C : q_C p m c cc st args Ts own D (q_tY ca)) {i : Int32} {x : Int32} (hi : vp_in i 50) (e1 : a1 = q_ua a 4 i.toNatClampNeg x) (hI : q_I D A H0 H locs (q_wY h ad ca s a g)) (hdg : decode cc pc = .ok (.iastore, 1))
    (kk : ∀ (H1 : Heap) (locs1 : List Loc), q_I D A H0 H1 locs1 (q_wY h ad ca s a1 g) → W p l e R st m args below meth c H1 locs1 cells slots Q (F0 m (pc + 1) ls rest)) : W p l e R st m args below meth c H locs cells slots Q (F0 m pc ls (.int x :: .int i :: .ref (ad 4) :: rest)) := by
  subst e1
  exact va_iast C.1 C.2.1 C.2.2.2.2 hI.1 hI.2.1 hI.2.2 6 3 rfl rfl hi hdg (fun H1 locs1 hP hD hS => kk H1 locs1 ⟨hP, hD, hS⟩)
theorem q_ld_Y_begun (C : q_C p m c cc st args Ts own D (q_tY ca)) {i : Int32} (hi : vp_in i 50) (hI : q_I D A H0 H locs (q_wY h ad ca s a g)) (hdg : decode cc pc = .ok (.iaload, 1))
    (kk : W p l e R st m args below meth c H locs cells slots Q (F0 m (pc + 1) ls (.int (a 5 i.toNatClampNeg) :: rest))) : W p l e R st m args below meth c H locs cells slots Q (F0 m pc ls (.int i :: .ref (ad 5) :: rest)) := va_iald C.1 C.2.1 C.2.2.2.2 hI.1 7 4 rfl rfl hi hdg kk
theorem q_st_Y_begun (C : q_C p m c cc st args Ts own D (q_tY ca)) {i : Int32} {x : Int32} (hi : vp_in i 50) (e1 : a1 = q_ua a 5 i.toNatClampNeg x) (hI : q_I D A H0 H locs (q_wY h ad ca s a g)) (hdg : decode cc pc = .ok (.iastore, 1))
    (kk : ∀ (H1 : Heap) (locs1 : List Loc), q_I D A H0 H1 locs1 (q_wY h ad ca s a1 g) → W p l e R st m args below meth c H1 locs1 cells slots Q (F0 m (pc + 1) ls rest)) : W p l e R st m args below meth c H locs cells slots Q (F0 m pc ls (.int x :: .int i :: .ref (ad 5) :: rest)) := by
  subst e1
  exact va_iast C.1 C.2.1 C.2.2.2.2 hI.1 hI.2.1 hI.2.2 7 4 rfl rfl hi hdg (fun H1 locs1 hP hD hS => kk H1 locs1 ⟨hP, hD, hS⟩)
theorem q_ld_Y_names (C : q_C p m c cc st args Ts own D (q_tY ca)) {i : Int32} (hi : vp_in i 10) (hI : q_I D A H0 H locs (q_wY h ad ca s a g)) (hdg : decode cc pc = .ok (.iaload, 1))
    (kk : W p l e R st m args below meth c H locs cells slots Q (F0 m (pc + 1) ls (.int (a 7 i.toNatClampNeg) :: rest))) : W p l e R st m args below meth c H locs cells slots Q (F0 m pc ls (.int i :: .ref (ad 7) :: rest)) := va_iald C.1 C.2.1 C.2.2.2.2 hI.1 8 5 rfl rfl hi hdg kk
theorem q_st_Y_names (C : q_C p m c cc st args Ts own D (q_tY ca)) {i : Int32} {x : Int32} (hi : vp_in i 10) (e1 : a1 = q_ua a 7 i.toNatClampNeg x) (hI : q_I D A H0 H locs (q_wY h ad ca s a g)) (hdg : decode cc pc = .ok (.iastore, 1))
    (kk : ∀ (H1 : Heap) (locs1 : List Loc), q_I D A H0 H1 locs1 (q_wY h ad ca s a1 g) → W p l e R st m args below meth c H1 locs1 cells slots Q (F0 m (pc + 1) ls rest)) : W p l e R st m args below meth c H locs cells slots Q (F0 m pc ls (.int x :: .int i :: .ref (ad 7) :: rest)) := by
  subst e1
  exact va_iast C.1 C.2.1 C.2.2.2.2 hI.1 hI.2.1 hI.2.2 8 5 rfl rfl hi hdg (fun H1 locs1 hP hD hS => kk H1 locs1 ⟨hP, hD, hS⟩)
theorem q_ld_Y_barred (C : q_C p m c cc st args Ts own D (q_tY ca)) {i : Int32} (hi : vp_in i 151) (hI : q_I D A H0 H locs (q_wY h ad ca s a g)) (hdg : decode cc pc = .ok (.baload, 1))
    (kk : W p l e R st m args below meth c H locs cells slots Q (F0 m (pc + 1) ls (.int (a 8 i.toNatClampNeg) :: rest))) : W p l e R st m args below meth c H locs cells slots Q (F0 m pc ls (.int i :: .ref (ad 8) :: rest)) := va_zald C.1 C.2.1 C.2.2.2.2 hI.1 9 6 rfl rfl hi hdg kk
theorem q_st_Y_barred (C : q_C p m c cc st args Ts own D (q_tY ca)) {i : Int32} {x : Int32} (hi : vp_in i 151) (e1 : a1 = q_ua a 8 i.toNatClampNeg (vp_nar .boolean x)) (hI : q_I D A H0 H locs (q_wY h ad ca s a g)) (hdg : decode cc pc = .ok (.bastore, 1))
    (kk : ∀ (H1 : Heap) (locs1 : List Loc), q_I D A H0 H1 locs1 (q_wY h ad ca s a1 g) → W p l e R st m args below meth c H1 locs1 cells slots Q (F0 m (pc + 1) ls rest)) : W p l e R st m args below meth c H locs cells slots Q (F0 m pc ls (.int x :: .int i :: .ref (ad 8) :: rest)) := by
  subst e1
  exact va_zast C.1 C.2.1 C.2.2.2.2 hI.1 hI.2.1 hI.2.2 9 6 rfl rfl hi hdg (fun H1 locs1 hP hD hS => kk H1 locs1 ⟨hP, hD, hS⟩)
theorem q_ld_Y_values (C : q_C p m c cc st args Ts own D (q_tY ca)) {i : Int32} (hi : vp_in i 3001) (hI : q_I D A H0 H locs (q_wY h ad ca s a g)) (hdg : decode cc pc = .ok (.laload, 1))
    (kk : W p l e R st m args below meth c H locs cells slots Q (F0 m (pc + 1) ls (.long (g i.toNatClampNeg) :: rest))) : W p l e R st m args below meth c H locs cells slots Q (F0 m pc ls (.int i :: .ref (ad 20) :: rest)) := va_lald C.1 C.2.1 C.2.2.2.2 hI.1 10 7 rfl rfl hi hdg kk
theorem q_st_Y_values (C : q_C p m c cc st args Ts own D (q_tY ca)) {i : Int32} {x : Int64} (hi : vp_in i 3001) (e1 : g1 = vp_updL g i.toNatClampNeg x) (hI : q_I D A H0 H locs (q_wY h ad ca s a g)) (hdg : decode cc pc = .ok (.lastore, 1))
    (kk : ∀ (H1 : Heap) (locs1 : List Loc), q_I D A H0 H1 locs1 (q_wY h ad ca s a g1) → W p l e R st m args below meth c H1 locs1 cells slots Q (F0 m (pc + 1) ls rest)) : W p l e R st m args below meth c H locs cells slots Q (F0 m pc ls (.long x :: .int i :: .ref (ad 20) :: rest)) := by
  subst e1
  exact va_last C.1 C.2.1 C.2.2.2.2 hI.1 hI.2.1 hI.2.2 10 7 rfl rfl hi hdg (fun H1 locs1 hP hD hS => kk H1 locs1 ⟨hP, hD, hS⟩)
theorem q_ld_Y_belows (C : q_C p m c cc st args Ts own D (q_tY ca)) {i : Int32} (hi : vp_in i 3001) (hI : q_I D A H0 H locs (q_wY h ad ca s a g)) (hdg : decode cc pc = .ok (.iaload, 1))
    (kk : W p l e R st m args below meth c H locs cells slots Q (F0 m (pc + 1) ls (.int (a 21 i.toNatClampNeg) :: rest))) : W p l e R st m args below meth c H locs cells slots Q (F0 m pc ls (.int i :: .ref (ad 21) :: rest)) := va_iald C.1 C.2.1 C.2.2.2.2 hI.1 11 8 rfl rfl hi hdg kk
theorem q_st_Y_belows (C : q_C p m c cc st args Ts own D (q_tY ca)) {i : Int32} {x : Int32} (hi : vp_in i 3001) (e1 : a1 = q_ua a 21 i.toNatClampNeg x) (hI : q_I D A H0 H locs (q_wY h ad ca s a g)) (hdg : decode cc pc = .ok (.iastore, 1))
    (kk : ∀ (H1 : Heap) (locs1 : List Loc), q_I D A H0 H1 locs1 (q_wY h ad ca s a1 g) → W p l e R st m args below meth c H1 locs1 cells slots Q (F0 m (pc + 1) ls rest)) : W p l e R st m args below meth c H locs cells slots Q (F0 m pc ls (.int x :: .int i :: .ref (ad 21) :: rest)) := by
  subst e1
  exact va_iast C.1 C.2.1 C.2.2.2.2 hI.1 hI.2.1 hI.2.2 11 8 rfl rfl hi hdg (fun H1 locs1 hP hD hS => kk H1 locs1 ⟨hP, hD, hS⟩)
theorem q_ld_Y_heights (C : q_C p m c cc st args Ts own D (q_tY ca)) {i : Int32} (hi : vp_in i 3001) (hI : q_I D A H0 H locs (q_wY h ad ca s a g)) (hdg : decode cc pc = .ok (.iaload, 1))
    (kk : W p l e R st m args below meth c H locs cells slots Q (F0 m (pc + 1) ls (.int (a 22 i.toNatClampNeg) :: rest))) : W p l e R st m args below meth c H locs cells slots Q (F0 m pc ls (.int i :: .ref (ad 22) :: rest)) := va_iald C.1 C.2.1 C.2.2.2.2 hI.1 12 9 rfl rfl hi hdg kk
theorem q_st_Y_heights (C : q_C p m c cc st args Ts own D (q_tY ca)) {i : Int32} {x : Int32} (hi : vp_in i 3001) (e1 : a1 = q_ua a 22 i.toNatClampNeg x) (hI : q_I D A H0 H locs (q_wY h ad ca s a g)) (hdg : decode cc pc = .ok (.iastore, 1))
    (kk : ∀ (H1 : Heap) (locs1 : List Loc), q_I D A H0 H1 locs1 (q_wY h ad ca s a1 g) → W p l e R st m args below meth c H1 locs1 cells slots Q (F0 m (pc + 1) ls rest)) : W p l e R st m args below meth c H locs cells slots Q (F0 m pc ls (.int x :: .int i :: .ref (ad 22) :: rest)) := by
  subst e1
  exact va_iast C.1 C.2.1 C.2.2.2.2 hI.1 hI.2.1 hI.2.2 12 9 rfl rfl hi hdg (fun H1 locs1 hP hD hS => kk H1 locs1 ⟨hP, hD, hS⟩)
theorem q_ld_Y_labels (C : q_C p m c cc st args Ts own D (q_tY ca)) {i : Int32} (hi : vp_in i 3000) (hI : q_I D A H0 H locs (q_wY h ad ca s a g)) (hdg : decode cc pc = .ok (.iaload, 1))
    (kk : W p l e R st m args below meth c H locs cells slots Q (F0 m (pc + 1) ls (.int (a 30 i.toNatClampNeg) :: rest))) : W p l e R st m args below meth c H locs cells slots Q (F0 m pc ls (.int i :: .ref (ad 30) :: rest)) := va_iald C.1 C.2.1 C.2.2.2.2 hI.1 13 10 rfl rfl hi hdg kk
theorem q_st_Y_labels (C : q_C p m c cc st args Ts own D (q_tY ca)) {i : Int32} {x : Int32} (hi : vp_in i 3000) (e1 : a1 = q_ua a 30 i.toNatClampNeg x) (hI : q_I D A H0 H locs (q_wY h ad ca s a g)) (hdg : decode cc pc = .ok (.iastore, 1))
    (kk : ∀ (H1 : Heap) (locs1 : List Loc), q_I D A H0 H1 locs1 (q_wY h ad ca s a1 g) → W p l e R st m args below meth c H1 locs1 cells slots Q (F0 m (pc + 1) ls rest)) : W p l e R st m args below meth c H locs cells slots Q (F0 m pc ls (.int x :: .int i :: .ref (ad 30) :: rest)) := by
  subst e1
  exact va_iast C.1 C.2.1 C.2.2.2.2 hI.1 hI.2.1 hI.2.2 13 10 rfl rfl hi hdg (fun H1 locs1 hP hD hS => kk H1 locs1 ⟨hP, hD, hS⟩)
theorem q_ld_Y_froms (C : q_C p m c cc st args Ts own D (q_tY ca)) {i : Int32} (hi : vp_in i 3000) (hI : q_I D A H0 H locs (q_wY h ad ca s a g)) (hdg : decode cc pc = .ok (.iaload, 1))
    (kk : W p l e R st m args below meth c H locs cells slots Q (F0 m (pc + 1) ls (.int (a 31 i.toNatClampNeg) :: rest))) : W p l e R st m args below meth c H locs cells slots Q (F0 m pc ls (.int i :: .ref (ad 31) :: rest)) := va_iald C.1 C.2.1 C.2.2.2.2 hI.1 14 11 rfl rfl hi hdg kk
theorem q_st_Y_froms (C : q_C p m c cc st args Ts own D (q_tY ca)) {i : Int32} {x : Int32} (hi : vp_in i 3000) (e1 : a1 = q_ua a 31 i.toNatClampNeg x) (hI : q_I D A H0 H locs (q_wY h ad ca s a g)) (hdg : decode cc pc = .ok (.iastore, 1))
    (kk : ∀ (H1 : Heap) (locs1 : List Loc), q_I D A H0 H1 locs1 (q_wY h ad ca s a1 g) → W p l e R st m args below meth c H1 locs1 cells slots Q (F0 m (pc + 1) ls rest)) : W p l e R st m args below meth c H locs cells slots Q (F0 m pc ls (.int x :: .int i :: .ref (ad 31) :: rest)) := by
  subst e1
  exact va_iast C.1 C.2.1 C.2.2.2.2 hI.1 hI.2.1 hI.2.2 14 11 rfl rfl hi hdg (fun H1 locs1 hP hD hS => kk H1 locs1 ⟨hP, hD, hS⟩)
theorem q_ld_Y_tos (C : q_C p m c cc st args Ts own D (q_tY ca)) {i : Int32} (hi : vp_in i 3000) (hI : q_I D A H0 H locs (q_wY h ad ca s a g)) (hdg : decode cc pc = .ok (.iaload, 1))
    (kk : W p l e R st m args below meth c H locs cells slots Q (F0 m (pc + 1) ls (.int (a 32 i.toNatClampNeg) :: rest))) : W p l e R st m args below meth c H locs cells slots Q (F0 m pc ls (.int i :: .ref (ad 32) :: rest)) := va_iald C.1 C.2.1 C.2.2.2.2 hI.1 15 12 rfl rfl hi hdg kk
theorem q_st_Y_tos (C : q_C p m c cc st args Ts own D (q_tY ca)) {i : Int32} {x : Int32} (hi : vp_in i 3000) (e1 : a1 = q_ua a 32 i.toNatClampNeg x) (hI : q_I D A H0 H locs (q_wY h ad ca s a g)) (hdg : decode cc pc = .ok (.iastore, 1))
    (kk : ∀ (H1 : Heap) (locs1 : List Loc), q_I D A H0 H1 locs1 (q_wY h ad ca s a1 g) → W p l e R st m args below meth c H1 locs1 cells slots Q (F0 m (pc + 1) ls rest)) : W p l e R st m args below meth c H locs cells slots Q (F0 m pc ls (.int x :: .int i :: .ref (ad 32) :: rest)) := by
  subst e1
  exact va_iast C.1 C.2.1 C.2.2.2.2 hI.1 hI.2.1 hI.2.2 15 12 rfl rfl hi hdg (fun H1 locs1 hP hD hS => kk H1 locs1 ⟨hP, hD, hS⟩)
theorem q_ld_M_signs (C : q_C p m c cc st args Ts own D (q_tM ca)) {i : Int32} (hi : vp_in i 200) (hI : q_I D A H0 H locs (q_wM h ad ca s a g)) (hdg : decode cc pc = .ok (.iaload, 1))
    (kk : W p l e R st m args below meth c H locs cells slots Q (F0 m (pc + 1) ls (.int (a 0 i.toNatClampNeg) :: rest))) : W p l e R st m args below meth c H locs cells slots Q (F0 m pc ls (.int i :: .ref (ad 0) :: rest)) := va_iald C.1 C.2.1 C.2.2.2.2 hI.1 1 0 rfl rfl hi hdg kk
theorem q_st_M_signs (C : q_C p m c cc st args Ts own D (q_tM ca)) {i : Int32} {x : Int32} (hi : vp_in i 200) (e1 : a1 = q_ua a 0 i.toNatClampNeg x) (hI : q_I D A H0 H locs (q_wM h ad ca s a g)) (hdg : decode cc pc = .ok (.iastore, 1))
    (kk : ∀ (H1 : Heap) (locs1 : List Loc), q_I D A H0 H1 locs1 (q_wM h ad ca s a1 g) → W p l e R st m args below meth c H1 locs1 cells slots Q (F0 m (pc + 1) ls rest)) : W p l e R st m args below meth c H locs cells slots Q (F0 m pc ls (.int x :: .int i :: .ref (ad 0) :: rest)) := by
  subst e1
  exact va_iast C.1 C.2.1 C.2.2.2.2 hI.1 hI.2.1 hI.2.2 1 0 rfl rfl hi hdg (fun H1 locs1 hP hD hS => kk H1 locs1 ⟨hP, hD, hS⟩)
theorem q_ld_M_sorts (C : q_C p m c cc st args Ts own D (q_tM ca)) {i : Int32} (hi : vp_in i 50) (hI : q_I D A H0 H locs (q_wM h ad ca s a g)) (hdg : decode cc pc = .ok (.iaload, 1))
    (kk : W p l e R st m args below meth c H locs cells slots Q (F0 m (pc + 1) ls (.int (a 3 i.toNatClampNeg) :: rest))) : W p l e R st m args below meth c H locs cells slots Q (F0 m pc ls (.int i :: .ref (ad 3) :: rest)) := va_iald C.1 C.2.1 C.2.2.2.2 hI.1 2 1 rfl rfl hi hdg kk
theorem q_st_M_sorts (C : q_C p m c cc st args Ts own D (q_tM ca)) {i : Int32} {x : Int32} (hi : vp_in i 50) (e1 : a1 = q_ua a 3 i.toNatClampNeg x) (hI : q_I D A H0 H locs (q_wM h ad ca s a g)) (hdg : decode cc pc = .ok (.iastore, 1))
    (kk : ∀ (H1 : Heap) (locs1 : List Loc), q_I D A H0 H1 locs1 (q_wM h ad ca s a1 g) → W p l e R st m args below meth c H1 locs1 cells slots Q (F0 m (pc + 1) ls rest)) : W p l e R st m args below meth c H locs cells slots Q (F0 m pc ls (.int x :: .int i :: .ref (ad 3) :: rest)) := by
  subst e1
  exact va_iast C.1 C.2.1 C.2.2.2.2 hI.1 hI.2.1 hI.2.2 2 1 rfl rfl hi hdg (fun H1 locs1 hP hD hS => kk H1 locs1 ⟨hP, hD, hS⟩)
theorem q_ld_M_as (C : q_C p m c cc st args Ts own D (q_tM ca)) {i : Int32} (hi : vp_in i 50) (hI : q_I D A H0 H locs (q_wM h ad ca s a g)) (hdg : decode cc pc = .ok (.iaload, 1))
    (kk : W p l e R st m args below meth c H locs cells slots Q (F0 m (pc + 1) ls (.int (a 4 i.toNatClampNeg) :: rest))) : W p l e R st m args below meth c H locs cells slots Q (F0 m pc ls (.int i :: .ref (ad 4) :: rest)) := va_iald C.1 C.2.1 C.2.2.2.2 hI.1 3 2 rfl rfl hi hdg kk
theorem q_st_M_as (C : q_C p m c cc st args Ts own D (q_tM ca)) {i : Int32} {x : Int32} (hi : vp_in i 50) (e1 : a1 = q_ua a 4 i.toNatClampNeg x) (hI : q_I D A H0 H locs (q_wM h ad ca s a g)) (hdg : decode cc pc = .ok (.iastore, 1))
    (kk : ∀ (H1 : Heap) (locs1 : List Loc), q_I D A H0 H1 locs1 (q_wM h ad ca s a1 g) → W p l e R st m args below meth c H1 locs1 cells slots Q (F0 m (pc + 1) ls rest)) : W p l e R st m args below meth c H locs cells slots Q (F0 m pc ls (.int x :: .int i :: .ref (ad 4) :: rest)) := by
  subst e1
  exact va_iast C.1 C.2.1 C.2.2.2.2 hI.1 hI.2.1 hI.2.2 3 2 rfl rfl hi hdg (fun H1 locs1 hP hD hS => kk H1 locs1 ⟨hP, hD, hS⟩)
theorem q_ld_M_bs (C : q_C p m c cc st args Ts own D (q_tM ca)) {i : Int32} (hi : vp_in i 50) (hI : q_I D A H0 H locs (q_wM h ad ca s a g)) (hdg : decode cc pc = .ok (.iaload, 1))
    (kk : W p l e R st m args below meth c H locs cells slots Q (F0 m (pc + 1) ls (.int (a 5 i.toNatClampNeg) :: rest))) : W p l e R st m args below meth c H locs cells slots Q (F0 m pc ls (.int i :: .ref (ad 5) :: rest)) := va_iald C.1 C.2.1 C.2.2.2.2 hI.1 4 3 rfl rfl hi hdg kk
theorem q_st_M_bs (C : q_C p m c cc st args Ts own D (q_tM ca)) {i : Int32} {x : Int32} (hi : vp_in i 50) (e1 : a1 = q_ua a 5 i.toNatClampNeg x) (hI : q_I D A H0 H locs (q_wM h ad ca s a g)) (hdg : decode cc pc = .ok (.iastore, 1))
    (kk : ∀ (H1 : Heap) (locs1 : List Loc), q_I D A H0 H1 locs1 (q_wM h ad ca s a1 g) → W p l e R st m args below meth c H1 locs1 cells slots Q (F0 m (pc + 1) ls rest)) : W p l e R st m args below meth c H locs cells slots Q (F0 m pc ls (.int x :: .int i :: .ref (ad 5) :: rest)) := by
  subst e1
  exact va_iast C.1 C.2.1 C.2.2.2.2 hI.1 hI.2.1 hI.2.2 4 3 rfl rfl hi hdg (fun H1 locs1 hP hD hS => kk H1 locs1 ⟨hP, hD, hS⟩)
theorem q_ld_M_begins (C : q_C p m c cc st args Ts own D (q_tM ca)) {i : Int32} (hi : vp_in i 50) (hI : q_I D A H0 H locs (q_wM h ad ca s a g)) (hdg : decode cc pc = .ok (.iaload, 1))
    (kk : W p l e R st m args below meth c H locs cells slots Q (F0 m (pc + 1) ls (.int (a 6 i.toNatClampNeg) :: rest))) : W p l e R st m args below meth c H locs cells slots Q (F0 m pc ls (.int i :: .ref (ad 6) :: rest)) := va_iald C.1 C.2.1 C.2.2.2.2 hI.1 5 4 rfl rfl hi hdg kk
theorem q_st_M_begins (C : q_C p m c cc st args Ts own D (q_tM ca)) {i : Int32} {x : Int32} (hi : vp_in i 50) (e1 : a1 = q_ua a 6 i.toNatClampNeg x) (hI : q_I D A H0 H locs (q_wM h ad ca s a g)) (hdg : decode cc pc = .ok (.iastore, 1))
    (kk : ∀ (H1 : Heap) (locs1 : List Loc), q_I D A H0 H1 locs1 (q_wM h ad ca s a1 g) → W p l e R st m args below meth c H1 locs1 cells slots Q (F0 m (pc + 1) ls rest)) : W p l e R st m args below meth c H locs cells slots Q (F0 m pc ls (.int x :: .int i :: .ref (ad 6) :: rest)) := by
  subst e1
  exact va_iast C.1 C.2.1 C.2.2.2.2 hI.1 hI.2.1 hI.2.2 5 4 rfl rfl hi hdg (fun H1 locs1 hP hD hS => kk H1 locs1 ⟨hP, hD, hS⟩)
theorem q_ld_M_names (C : q_C p m c cc st args Ts own D (q_tM ca)) {i : Int32} (hi : vp_in i 10) (hI : q_I D A H0 H locs (q_wM h ad ca s a g)) (hdg : decode cc pc = .ok (.iaload, 1))
    (kk : W p l e R st m args below meth c H locs cells slots Q (F0 m (pc + 1) ls (.int (a 7 i.toNatClampNeg) :: rest))) : W p l e R st m args below meth c H locs cells slots Q (F0 m pc ls (.int i :: .ref (ad 7) :: rest)) := va_iald C.1 C.2.1 C.2.2.2.2 hI.1 6 5 rfl rfl hi hdg kk
theorem q_st_M_names (C : q_C p m c cc st args Ts own D (q_tM ca)) {i : Int32} {x : Int32} (hi : vp_in i 10) (e1 : a1 = q_ua a 7 i.toNatClampNeg x) (hI : q_I D A H0 H locs (q_wM h ad ca s a g)) (hdg : decode cc pc = .ok (.iastore, 1))
    (kk : ∀ (H1 : Heap) (locs1 : List Loc), q_I D A H0 H1 locs1 (q_wM h ad ca s a1 g) → W p l e R st m args below meth c H1 locs1 cells slots Q (F0 m (pc + 1) ls rest)) : W p l e R st m args below meth c H locs cells slots Q (F0 m pc ls (.int x :: .int i :: .ref (ad 7) :: rest)) := by
  subst e1
  exact va_iast C.1 C.2.1 C.2.2.2.2 hI.1 hI.2.1 hI.2.2 6 5 rfl rfl hi hdg (fun H1 locs1 hP hD hS => kk H1 locs1 ⟨hP, hD, hS⟩)
theorem q_ld_M_laid (C : q_C p m c cc st args Ts own D (q_tM ca)) {i : Int32} (hi : vp_in i 3001) (hI : q_I D A H0 H locs (q_wM h ad ca s a g)) (hdg : decode cc pc = .ok (.laload, 1))
    (kk : W p l e R st m args below meth c H locs cells slots Q (F0 m (pc + 1) ls (.long (g i.toNatClampNeg) :: rest))) : W p l e R st m args below meth c H locs cells slots Q (F0 m pc ls (.int i :: .ref (ad 8) :: rest)) := va_lald C.1 C.2.1 C.2.2.2.2 hI.1 7 6 rfl rfl hi hdg kk
theorem q_st_M_laid (C : q_C p m c cc st args Ts own D (q_tM ca)) {i : Int32} {x : Int64} (hi : vp_in i 3001) (e1 : g1 = vp_updL g i.toNatClampNeg x) (hI : q_I D A H0 H locs (q_wM h ad ca s a g)) (hdg : decode cc pc = .ok (.lastore, 1))
    (kk : ∀ (H1 : Heap) (locs1 : List Loc), q_I D A H0 H1 locs1 (q_wM h ad ca s a g1) → W p l e R st m args below meth c H1 locs1 cells slots Q (F0 m (pc + 1) ls rest)) : W p l e R st m args below meth c H locs cells slots Q (F0 m pc ls (.long x :: .int i :: .ref (ad 8) :: rest)) := by
  subst e1
  exact va_last C.1 C.2.1 C.2.2.2.2 hI.1 hI.2.1 hI.2.2 7 6 rfl rfl hi hdg (fun H1 locs1 hP hD hS => kk H1 locs1 ⟨hP, hD, hS⟩)
theorem q_ld_M_below (C : q_C p m c cc st args Ts own D (q_tM ca)) {i : Int32} (hi : vp_in i 3001) (hI : q_I D A H0 H locs (q_wM h ad ca s a g)) (hdg : decode cc pc = .ok (.iaload, 1))
    (kk : W p l e R st m args below meth c H locs cells slots Q (F0 m (pc + 1) ls (.int (a 9 i.toNatClampNeg) :: rest))) : W p l e R st m args below meth c H locs cells slots Q (F0 m pc ls (.int i :: .ref (ad 9) :: rest)) := va_iald C.1 C.2.1 C.2.2.2.2 hI.1 8 7 rfl rfl hi hdg kk
theorem q_st_M_below (C : q_C p m c cc st args Ts own D (q_tM ca)) {i : Int32} {x : Int32} (hi : vp_in i 3001) (e1 : a1 = q_ua a 9 i.toNatClampNeg x) (hI : q_I D A H0 H locs (q_wM h ad ca s a g)) (hdg : decode cc pc = .ok (.iastore, 1))
    (kk : ∀ (H1 : Heap) (locs1 : List Loc), q_I D A H0 H1 locs1 (q_wM h ad ca s a1 g) → W p l e R st m args below meth c H1 locs1 cells slots Q (F0 m (pc + 1) ls rest)) : W p l e R st m args below meth c H locs cells slots Q (F0 m pc ls (.int x :: .int i :: .ref (ad 9) :: rest)) := by
  subst e1
  exact va_iast C.1 C.2.1 C.2.2.2.2 hI.1 hI.2.1 hI.2.2 8 7 rfl rfl hi hdg (fun H1 locs1 hP hD hS => kk H1 locs1 ⟨hP, hD, hS⟩)
theorem q_ld_M_tall (C : q_C p m c cc st args Ts own D (q_tM ca)) {i : Int32} (hi : vp_in i 3001) (hI : q_I D A H0 H locs (q_wM h ad ca s a g)) (hdg : decode cc pc = .ok (.iaload, 1))
    (kk : W p l e R st m args below meth c H locs cells slots Q (F0 m (pc + 1) ls (.int (a 10 i.toNatClampNeg) :: rest))) : W p l e R st m args below meth c H locs cells slots Q (F0 m pc ls (.int i :: .ref (ad 10) :: rest)) := va_iald C.1 C.2.1 C.2.2.2.2 hI.1 9 8 rfl rfl hi hdg kk
theorem q_st_M_tall (C : q_C p m c cc st args Ts own D (q_tM ca)) {i : Int32} {x : Int32} (hi : vp_in i 3001) (e1 : a1 = q_ua a 10 i.toNatClampNeg x) (hI : q_I D A H0 H locs (q_wM h ad ca s a g)) (hdg : decode cc pc = .ok (.iastore, 1))
    (kk : ∀ (H1 : Heap) (locs1 : List Loc), q_I D A H0 H1 locs1 (q_wM h ad ca s a1 g) → W p l e R st m args below meth c H1 locs1 cells slots Q (F0 m (pc + 1) ls rest)) : W p l e R st m args below meth c H locs cells slots Q (F0 m pc ls (.int x :: .int i :: .ref (ad 10) :: rest)) := by
  subst e1
  exact va_iast C.1 C.2.1 C.2.2.2.2 hI.1 hI.2.1 hI.2.2 9 8 rfl rfl hi hdg (fun H1 locs1 hP hD hS => kk H1 locs1 ⟨hP, hD, hS⟩)
theorem q_ld_M_markOf (C : q_C p m c cc st args Ts own D (q_tM ca)) {i : Int32} (hi : vp_in i 3001) (hI : q_I D A H0 H locs (q_wM h ad ca s a g)) (hdg : decode cc pc = .ok (.iaload, 1))
    (kk : W p l e R st m args below meth c H locs cells slots Q (F0 m (pc + 1) ls (.int (a 14 i.toNatClampNeg) :: rest))) : W p l e R st m args below meth c H locs cells slots Q (F0 m pc ls (.int i :: .ref (ad 14) :: rest)) := va_iald C.1 C.2.1 C.2.2.2.2 hI.1 10 9 rfl rfl hi hdg kk
theorem q_st_M_markOf (C : q_C p m c cc st args Ts own D (q_tM ca)) {i : Int32} {x : Int32} (hi : vp_in i 3001) (e1 : a1 = q_ua a 14 i.toNatClampNeg x) (hI : q_I D A H0 H locs (q_wM h ad ca s a g)) (hdg : decode cc pc = .ok (.iastore, 1))
    (kk : ∀ (H1 : Heap) (locs1 : List Loc), q_I D A H0 H1 locs1 (q_wM h ad ca s a1 g) → W p l e R st m args below meth c H1 locs1 cells slots Q (F0 m (pc + 1) ls rest)) : W p l e R st m args below meth c H locs cells slots Q (F0 m pc ls (.int x :: .int i :: .ref (ad 14) :: rest)) := by
  subst e1
  exact va_iast C.1 C.2.1 C.2.2.2.2 hI.1 hI.2.1 hI.2.2 10 9 rfl rfl hi hdg (fun H1 locs1 hP hD hS => kk H1 locs1 ⟨hP, hD, hS⟩)
theorem q_ld_M_markFrom (C : q_C p m c cc st args Ts own D (q_tM ca)) {i : Int32} (hi : vp_in i 3001) (hI : q_I D A H0 H locs (q_wM h ad ca s a g)) (hdg : decode cc pc = .ok (.iaload, 1))
    (kk : W p l e R st m args below meth c H locs cells slots Q (F0 m (pc + 1) ls (.int (a 15 i.toNatClampNeg) :: rest))) : W p l e R st m args below meth c H locs cells slots Q (F0 m pc ls (.int i :: .ref (ad 15) :: rest)) := va_iald C.1 C.2.1 C.2.2.2.2 hI.1 11 10 rfl rfl hi hdg kk
theorem q_st_M_markFrom (C : q_C p m c cc st args Ts own D (q_tM ca)) {i : Int32} {x : Int32} (hi : vp_in i 3001) (e1 : a1 = q_ua a 15 i.toNatClampNeg x) (hI : q_I D A H0 H locs (q_wM h ad ca s a g)) (hdg : decode cc pc = .ok (.iastore, 1))
    (kk : ∀ (H1 : Heap) (locs1 : List Loc), q_I D A H0 H1 locs1 (q_wM h ad ca s a1 g) → W p l e R st m args below meth c H1 locs1 cells slots Q (F0 m (pc + 1) ls rest)) : W p l e R st m args below meth c H locs cells slots Q (F0 m pc ls (.int x :: .int i :: .ref (ad 15) :: rest)) := by
  subst e1
  exact va_iast C.1 C.2.1 C.2.2.2.2 hI.1 hI.2.1 hI.2.2 11 10 rfl rfl hi hdg (fun H1 locs1 hP hD hS => kk H1 locs1 ⟨hP, hD, hS⟩)
theorem q_ld_M_markTo (C : q_C p m c cc st args Ts own D (q_tM ca)) {i : Int32} (hi : vp_in i 3001) (hI : q_I D A H0 H locs (q_wM h ad ca s a g)) (hdg : decode cc pc = .ok (.iaload, 1))
    (kk : W p l e R st m args below meth c H locs cells slots Q (F0 m (pc + 1) ls (.int (a 16 i.toNatClampNeg) :: rest))) : W p l e R st m args below meth c H locs cells slots Q (F0 m pc ls (.int i :: .ref (ad 16) :: rest)) := va_iald C.1 C.2.1 C.2.2.2.2 hI.1 12 11 rfl rfl hi hdg kk
theorem q_st_M_markTo (C : q_C p m c cc st args Ts own D (q_tM ca)) {i : Int32} {x : Int32} (hi : vp_in i 3001) (e1 : a1 = q_ua a 16 i.toNatClampNeg x) (hI : q_I D A H0 H locs (q_wM h ad ca s a g)) (hdg : decode cc pc = .ok (.iastore, 1))
    (kk : ∀ (H1 : Heap) (locs1 : List Loc), q_I D A H0 H1 locs1 (q_wM h ad ca s a1 g) → W p l e R st m args below meth c H1 locs1 cells slots Q (F0 m (pc + 1) ls rest)) : W p l e R st m args below meth c H locs cells slots Q (F0 m pc ls (.int x :: .int i :: .ref (ad 16) :: rest)) := by
  subst e1
  exact va_iast C.1 C.2.1 C.2.2.2.2 hI.1 hI.2.1 hI.2.2 12 11 rfl rfl hi hdg (fun H1 locs1 hP hD hS => kk H1 locs1 ⟨hP, hD, hS⟩)
theorem q_ld_M_reader (C : q_C p m c cc st args Ts own D (q_tM ca)) {i : Int32} (hi : vp_in i 150) (hI : q_I D A H0 H locs (q_wM h ad ca s a g)) (hdg : decode cc pc = .ok (.iaload, 1))
    (kk : W p l e R st m args below meth c H locs cells slots Q (F0 m (pc + 1) ls (.int (a 18 i.toNatClampNeg) :: rest))) : W p l e R st m args below meth c H locs cells slots Q (F0 m pc ls (.int i :: .ref (ad 18) :: rest)) := va_iald C.1 C.2.1 C.2.2.2.2 hI.1 13 12 rfl rfl hi hdg kk
theorem q_st_M_reader (C : q_C p m c cc st args Ts own D (q_tM ca)) {i : Int32} {x : Int32} (hi : vp_in i 150) (e1 : a1 = q_ua a 18 i.toNatClampNeg x) (hI : q_I D A H0 H locs (q_wM h ad ca s a g)) (hdg : decode cc pc = .ok (.iastore, 1))
    (kk : ∀ (H1 : Heap) (locs1 : List Loc), q_I D A H0 H1 locs1 (q_wM h ad ca s a1 g) → W p l e R st m args below meth c H1 locs1 cells slots Q (F0 m (pc + 1) ls rest)) : W p l e R st m args below meth c H locs cells slots Q (F0 m pc ls (.int x :: .int i :: .ref (ad 18) :: rest)) := by
  subst e1
  exact va_iast C.1 C.2.1 C.2.2.2.2 hI.1 hI.2.1 hI.2.2 13 12 rfl rfl hi hdg (fun H1 locs1 hP hD hS => kk H1 locs1 ⟨hP, hD, hS⟩)
theorem q_ld_M_phase (C : q_C p m c cc st args Ts own D (q_tM ca)) {i : Int32} (hi : vp_in i 150) (hI : q_I D A H0 H locs (q_wM h ad ca s a g)) (hdg : decode cc pc = .ok (.iaload, 1))
    (kk : W p l e R st m args below meth c H locs cells slots Q (F0 m (pc + 1) ls (.int (a 19 i.toNatClampNeg) :: rest))) : W p l e R st m args below meth c H locs cells slots Q (F0 m pc ls (.int i :: .ref (ad 19) :: rest)) := va_iald C.1 C.2.1 C.2.2.2.2 hI.1 14 13 rfl rfl hi hdg kk
theorem q_st_M_phase (C : q_C p m c cc st args Ts own D (q_tM ca)) {i : Int32} {x : Int32} (hi : vp_in i 150) (e1 : a1 = q_ua a 19 i.toNatClampNeg x) (hI : q_I D A H0 H locs (q_wM h ad ca s a g)) (hdg : decode cc pc = .ok (.iastore, 1))
    (kk : ∀ (H1 : Heap) (locs1 : List Loc), q_I D A H0 H1 locs1 (q_wM h ad ca s a1 g) → W p l e R st m args below meth c H1 locs1 cells slots Q (F0 m (pc + 1) ls rest)) : W p l e R st m args below meth c H locs cells slots Q (F0 m pc ls (.int x :: .int i :: .ref (ad 19) :: rest)) := by
  subst e1
  exact va_iast C.1 C.2.1 C.2.2.2.2 hI.1 hI.2.1 hI.2.2 14 13 rfl rfl hi hdg (fun H1 locs1 hP hD hS => kk H1 locs1 ⟨hP, hD, hS⟩)
theorem q_ld_M_start (C : q_C p m c cc st args Ts own D (q_tM ca)) {i : Int32} (hi : vp_in i 150) (hI : q_I D A H0 H locs (q_wM h ad ca s a g)) (hdg : decode cc pc = .ok (.iaload, 1))
    (kk : W p l e R st m args below meth c H locs cells slots Q (F0 m (pc + 1) ls (.int (a 20 i.toNatClampNeg) :: rest))) : W p l e R st m args below meth c H locs cells slots Q (F0 m pc ls (.int i :: .ref (ad 20) :: rest)) := va_iald C.1 C.2.1 C.2.2.2.2 hI.1 15 14 rfl rfl hi hdg kk
theorem q_st_M_start (C : q_C p m c cc st args Ts own D (q_tM ca)) {i : Int32} {x : Int32} (hi : vp_in i 150) (e1 : a1 = q_ua a 20 i.toNatClampNeg x) (hI : q_I D A H0 H locs (q_wM h ad ca s a g)) (hdg : decode cc pc = .ok (.iastore, 1))
    (kk : ∀ (H1 : Heap) (locs1 : List Loc), q_I D A H0 H1 locs1 (q_wM h ad ca s a1 g) → W p l e R st m args below meth c H1 locs1 cells slots Q (F0 m (pc + 1) ls rest)) : W p l e R st m args below meth c H locs cells slots Q (F0 m pc ls (.int x :: .int i :: .ref (ad 20) :: rest)) := by
  subst e1
  exact va_iast C.1 C.2.1 C.2.2.2.2 hI.1 hI.2.1 hI.2.2 15 14 rfl rfl hi hdg (fun H1 locs1 hP hD hS => kk H1 locs1 ⟨hP, hD, hS⟩)
theorem q_ld_M_came (C : q_C p m c cc st args Ts own D (q_tM ca)) {i : Int32} (hi : vp_in i 150) (hI : q_I D A H0 H locs (q_wM h ad ca s a g)) (hdg : decode cc pc = .ok (.iaload, 1))
    (kk : W p l e R st m args below meth c H locs cells slots Q (F0 m (pc + 1) ls (.int (a 21 i.toNatClampNeg) :: rest))) : W p l e R st m args below meth c H locs cells slots Q (F0 m pc ls (.int i :: .ref (ad 21) :: rest)) := va_iald C.1 C.2.1 C.2.2.2.2 hI.1 16 15 rfl rfl hi hdg kk
theorem q_st_M_came (C : q_C p m c cc st args Ts own D (q_tM ca)) {i : Int32} {x : Int32} (hi : vp_in i 150) (e1 : a1 = q_ua a 21 i.toNatClampNeg x) (hI : q_I D A H0 H locs (q_wM h ad ca s a g)) (hdg : decode cc pc = .ok (.iastore, 1))
    (kk : ∀ (H1 : Heap) (locs1 : List Loc), q_I D A H0 H1 locs1 (q_wM h ad ca s a1 g) → W p l e R st m args below meth c H1 locs1 cells slots Q (F0 m (pc + 1) ls rest)) : W p l e R st m args below meth c H locs cells slots Q (F0 m pc ls (.int x :: .int i :: .ref (ad 21) :: rest)) := by
  subst e1
  exact va_iast C.1 C.2.1 C.2.2.2.2 hI.1 hI.2.1 hI.2.2 16 15 rfl rfl hi hdg (fun H1 locs1 hP hD hS => kk H1 locs1 ⟨hP, hD, hS⟩)
theorem q_ld_M_barred (C : q_C p m c cc st args Ts own D (q_tM ca)) {i : Int32} (hi : vp_in i 150) (hI : q_I D A H0 H locs (q_wM h ad ca s a g)) (hdg : decode cc pc = .ok (.baload, 1))
    (kk : W p l e R st m args below meth c H locs cells slots Q (F0 m (pc + 1) ls (.int (a 22 i.toNatClampNeg) :: rest))) : W p l e R st m args below meth c H locs cells slots Q (F0 m pc ls (.int i :: .ref (ad 22) :: rest)) := va_zald C.1 C.2.1 C.2.2.2.2 hI.1 17 16 rfl rfl hi hdg kk
theorem q_st_M_barred (C : q_C p m c cc st args Ts own D (q_tM ca)) {i : Int32} {x : Int32} (hi : vp_in i 150) (e1 : a1 = q_ua a 22 i.toNatClampNeg (vp_nar .boolean x)) (hI : q_I D A H0 H locs (q_wM h ad ca s a g)) (hdg : decode cc pc = .ok (.bastore, 1))
    (kk : ∀ (H1 : Heap) (locs1 : List Loc), q_I D A H0 H1 locs1 (q_wM h ad ca s a1 g) → W p l e R st m args below meth c H1 locs1 cells slots Q (F0 m (pc + 1) ls rest)) : W p l e R st m args below meth c H locs cells slots Q (F0 m pc ls (.int x :: .int i :: .ref (ad 22) :: rest)) := by
  subst e1
  exact va_zast C.1 C.2.1 C.2.2.2.2 hI.1 hI.2.1 hI.2.2 17 16 rfl rfl hi hdg (fun H1 locs1 hP hD hS => kk H1 locs1 ⟨hP, hD, hS⟩)
theorem q_ld_M_keptTop (C : q_C p m c cc st args Ts own D (q_tM ca)) {i : Int32} (hi : vp_in i 150) (hI : q_I D A H0 H locs (q_wM h ad ca s a g)) (hdg : decode cc pc = .ok (.iaload, 1))
    (kk : W p l e R st m args below meth c H locs cells slots Q (F0 m (pc + 1) ls (.int (a 23 i.toNatClampNeg) :: rest))) : W p l e R st m args below meth c H locs cells slots Q (F0 m pc ls (.int i :: .ref (ad 23) :: rest)) := va_iald C.1 C.2.1 C.2.2.2.2 hI.1 18 17 rfl rfl hi hdg kk
theorem q_st_M_keptTop (C : q_C p m c cc st args Ts own D (q_tM ca)) {i : Int32} {x : Int32} (hi : vp_in i 150) (e1 : a1 = q_ua a 23 i.toNatClampNeg x) (hI : q_I D A H0 H locs (q_wM h ad ca s a g)) (hdg : decode cc pc = .ok (.iastore, 1))
    (kk : ∀ (H1 : Heap) (locs1 : List Loc), q_I D A H0 H1 locs1 (q_wM h ad ca s a1 g) → W p l e R st m args below meth c H1 locs1 cells slots Q (F0 m (pc + 1) ls rest)) : W p l e R st m args below meth c H locs cells slots Q (F0 m pc ls (.int x :: .int i :: .ref (ad 23) :: rest)) := by
  subst e1
  exact va_iast C.1 C.2.1 C.2.2.2.2 hI.1 hI.2.1 hI.2.2 18 17 rfl rfl hi hdg (fun H1 locs1 hP hD hS => kk H1 locs1 ⟨hP, hD, hS⟩)
theorem q_ld_M_keptChain (C : q_C p m c cc st args Ts own D (q_tM ca)) {i : Int32} (hi : vp_in i 150) (hI : q_I D A H0 H locs (q_wM h ad ca s a g)) (hdg : decode cc pc = .ok (.iaload, 1))
    (kk : W p l e R st m args below meth c H locs cells slots Q (F0 m (pc + 1) ls (.int (a 24 i.toNatClampNeg) :: rest))) : W p l e R st m args below meth c H locs cells slots Q (F0 m pc ls (.int i :: .ref (ad 24) :: rest)) := va_iald C.1 C.2.1 C.2.2.2.2 hI.1 19 18 rfl rfl hi hdg kk
theorem q_st_M_keptChain (C : q_C p m c cc st args Ts own D (q_tM ca)) {i : Int32} {x : Int32} (hi : vp_in i 150) (e1 : a1 = q_ua a 24 i.toNatClampNeg x) (hI : q_I D A H0 H locs (q_wM h ad ca s a g)) (hdg : decode cc pc = .ok (.iastore, 1))
    (kk : ∀ (H1 : Heap) (locs1 : List Loc), q_I D A H0 H1 locs1 (q_wM h ad ca s a1 g) → W p l e R st m args below meth c H1 locs1 cells slots Q (F0 m (pc + 1) ls rest)) : W p l e R st m args below meth c H locs cells slots Q (F0 m pc ls (.int x :: .int i :: .ref (ad 24) :: rest)) := by
  subst e1
  exact va_iast C.1 C.2.1 C.2.2.2.2 hI.1 hI.2.1 hI.2.2 19 18 rfl rfl hi hdg (fun H1 locs1 hP hD hS => kk H1 locs1 ⟨hP, hD, hS⟩)
theorem q_ld_M_keptMarks (C : q_C p m c cc st args Ts own D (q_tM ca)) {i : Int32} (hi : vp_in i 150) (hI : q_I D A H0 H locs (q_wM h ad ca s a g)) (hdg : decode cc pc = .ok (.iaload, 1))
    (kk : W p l e R st m args below meth c H locs cells slots Q (F0 m (pc + 1) ls (.int (a 25 i.toNatClampNeg) :: rest))) : W p l e R st m args below meth c H locs cells slots Q (F0 m pc ls (.int i :: .ref (ad 25) :: rest)) := va_iald C.1 C.2.1 C.2.2.2.2 hI.1 20 19 rfl rfl hi hdg kk
theorem q_st_M_keptMarks (C : q_C p m c cc st args Ts own D (q_tM ca)) {i : Int32} {x : Int32} (hi : vp_in i 150) (e1 : a1 = q_ua a 25 i.toNatClampNeg x) (hI : q_I D A H0 H locs (q_wM h ad ca s a g)) (hdg : decode cc pc = .ok (.iastore, 1))
    (kk : ∀ (H1 : Heap) (locs1 : List Loc), q_I D A H0 H1 locs1 (q_wM h ad ca s a1 g) → W p l e R st m args below meth c H1 locs1 cells slots Q (F0 m (pc + 1) ls rest)) : W p l e R st m args below meth c H locs cells slots Q (F0 m pc ls (.int x :: .int i :: .ref (ad 25) :: rest)) := by
  subst e1
  exact va_iast C.1 C.2.1 C.2.2.2.2 hI.1 hI.2.1 hI.2.2 20 19 rfl rfl hi hdg (fun H1 locs1 hP hD hS => kk H1 locs1 ⟨hP, hD, hS⟩)
theorem q_ld_M_laterTop (C : q_C p m c cc st args Ts own D (q_tM ca)) {i : Int32} (hi : vp_in i 150) (hI : q_I D A H0 H locs (q_wM h ad ca s a g)) (hdg : decode cc pc = .ok (.iaload, 1))
    (kk : W p l e R st m args below meth c H locs cells slots Q (F0 m (pc + 1) ls (.int (a 26 i.toNatClampNeg) :: rest))) : W p l e R st m args below meth c H locs cells slots Q (F0 m pc ls (.int i :: .ref (ad 26) :: rest)) := va_iald C.1 C.2.1 C.2.2.2.2 hI.1 21 20 rfl rfl hi hdg kk
theorem q_st_M_laterTop (C : q_C p m c cc st args Ts own D (q_tM ca)) {i : Int32} {x : Int32} (hi : vp_in i 150) (e1 : a1 = q_ua a 26 i.toNatClampNeg x) (hI : q_I D A H0 H locs (q_wM h ad ca s a g)) (hdg : decode cc pc = .ok (.iastore, 1))
    (kk : ∀ (H1 : Heap) (locs1 : List Loc), q_I D A H0 H1 locs1 (q_wM h ad ca s a1 g) → W p l e R st m args below meth c H1 locs1 cells slots Q (F0 m (pc + 1) ls rest)) : W p l e R st m args below meth c H locs cells slots Q (F0 m pc ls (.int x :: .int i :: .ref (ad 26) :: rest)) := by
  subst e1
  exact va_iast C.1 C.2.1 C.2.2.2.2 hI.1 hI.2.1 hI.2.2 21 20 rfl rfl hi hdg (fun H1 locs1 hP hD hS => kk H1 locs1 ⟨hP, hD, hS⟩)
theorem q_ld_M_laterChain (C : q_C p m c cc st args Ts own D (q_tM ca)) {i : Int32} (hi : vp_in i 150) (hI : q_I D A H0 H locs (q_wM h ad ca s a g)) (hdg : decode cc pc = .ok (.iaload, 1))
    (kk : W p l e R st m args below meth c H locs cells slots Q (F0 m (pc + 1) ls (.int (a 27 i.toNatClampNeg) :: rest))) : W p l e R st m args below meth c H locs cells slots Q (F0 m pc ls (.int i :: .ref (ad 27) :: rest)) := va_iald C.1 C.2.1 C.2.2.2.2 hI.1 22 21 rfl rfl hi hdg kk
theorem q_st_M_laterChain (C : q_C p m c cc st args Ts own D (q_tM ca)) {i : Int32} {x : Int32} (hi : vp_in i 150) (e1 : a1 = q_ua a 27 i.toNatClampNeg x) (hI : q_I D A H0 H locs (q_wM h ad ca s a g)) (hdg : decode cc pc = .ok (.iastore, 1))
    (kk : ∀ (H1 : Heap) (locs1 : List Loc), q_I D A H0 H1 locs1 (q_wM h ad ca s a1 g) → W p l e R st m args below meth c H1 locs1 cells slots Q (F0 m (pc + 1) ls rest)) : W p l e R st m args below meth c H locs cells slots Q (F0 m pc ls (.int x :: .int i :: .ref (ad 27) :: rest)) := by
  subst e1
  exact va_iast C.1 C.2.1 C.2.2.2.2 hI.1 hI.2.1 hI.2.2 22 21 rfl rfl hi hdg (fun H1 locs1 hP hD hS => kk H1 locs1 ⟨hP, hD, hS⟩)
theorem q_ld_M_laterMarks (C : q_C p m c cc st args Ts own D (q_tM ca)) {i : Int32} (hi : vp_in i 150) (hI : q_I D A H0 H locs (q_wM h ad ca s a g)) (hdg : decode cc pc = .ok (.iaload, 1))
    (kk : W p l e R st m args below meth c H locs cells slots Q (F0 m (pc + 1) ls (.int (a 28 i.toNatClampNeg) :: rest))) : W p l e R st m args below meth c H locs cells slots Q (F0 m pc ls (.int i :: .ref (ad 28) :: rest)) := va_iald C.1 C.2.1 C.2.2.2.2 hI.1 23 22 rfl rfl hi hdg kk
theorem q_st_M_laterMarks (C : q_C p m c cc st args Ts own D (q_tM ca)) {i : Int32} {x : Int32} (hi : vp_in i 150) (e1 : a1 = q_ua a 28 i.toNatClampNeg x) (hI : q_I D A H0 H locs (q_wM h ad ca s a g)) (hdg : decode cc pc = .ok (.iastore, 1))
    (kk : ∀ (H1 : Heap) (locs1 : List Loc), q_I D A H0 H1 locs1 (q_wM h ad ca s a1 g) → W p l e R st m args below meth c H1 locs1 cells slots Q (F0 m (pc + 1) ls rest)) : W p l e R st m args below meth c H locs cells slots Q (F0 m pc ls (.int x :: .int i :: .ref (ad 28) :: rest)) := by
  subst e1
  exact va_iast C.1 C.2.1 C.2.2.2.2 hI.1 hI.2.1 hI.2.2 23 22 rfl rfl hi hdg (fun H1 locs1 hP hD hS => kk H1 locs1 ⟨hP, hD, hS⟩)
end QW
end

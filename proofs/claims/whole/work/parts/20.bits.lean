/-! a sign out of a long -/
theorem bv_127a : ∀ j : Fin 64, (127#64).getLsbD j.val = decide (j.val < 7) := by decide
theorem bv_127b : ∀ j : Fin 32, (127#32).getLsbD j.val = decide (j.val < 7) := by decide
theorem bv_sh (b : BitVec 64) (k : Nat) (hk : k ≤ 56) : ((b >>> k) &&& 127#64).setWidth 32 = (b.sshiftRight k).setWidth 32 &&& 127#32 := by
  apply BitVec.eq_of_getLsbD_eq
  intro j hj
  have e1 := bv_127a ⟨j, by omega⟩
  have e2 := bv_127b ⟨j, hj⟩
  simp only at e1 e2
  simp only [BitVec.getLsbD_setWidth, BitVec.getLsbD_and, BitVec.getLsbD_ushiftRight, BitVec.getLsbD_sshiftRight, e1, e2]
  by_cases h : j < 7
  · have h2 : k + j < 64 := by omega
    have h3 : j < 64 := by omega
    simp [h, h2, hj, h3]
    try omega
  · simp [h]
theorem sh_gen (x : Int64) (c1 : UInt64) (c2 : Int64) (k : Nat) (hk : k ≤ 56) (h1 : (c1.toBitVec % 64).toNat = k) (h2 : (c2.toBitVec.smod 64).toNat = k) : ((x.toUInt64 >>> c1).toInt64 &&& 127).toInt32 = (x >>> c2).toInt32 &&& 127 := by
  have hA : (x.toUInt64 >>> c1).toInt64.toBitVec = x.toBitVec >>> k := by subst h1; rfl
  have hB : (x >>> c2).toBitVec = x.toBitVec.sshiftRight k := by subst h2; rfl
  generalize (x.toUInt64 >>> c1).toInt64 = y at hA ⊢
  generalize x >>> c2 = z at hB ⊢
  apply Int32.toBitVec_inj.mp
  show (y.toBitVec &&& 127#64).signExtend 32 = z.toBitVec.signExtend 32 &&& 127#32
  rw [BitVec.signExtend_eq_setWidth_of_le _ (by decide), BitVec.signExtend_eq_setWidth_of_le _ (by decide), hA, hB]
  exact bv_sh x.toBitVec k hk
theorem sh_eq (x : Int64) : ∀ i : Nat, i < 8 → ((x.toUInt64 >>> ((8 * nI i).toInt64.toUInt64 &&& Int64.toUInt64 63)).toInt64 &&& 127).toInt32 = (x >>> ((8 * nI i).toInt64 &&& 63)).toInt32 &&& 127 := by
  intro i hi
  have h : i = 0 ∨ i = 1 ∨ i = 2 ∨ i = 3 ∨ i = 4 ∨ i = 5 ∨ i = 6 ∨ i = 7 := by omega
  rcases h with rfl | rfl | rfl | rfl | rfl | rfl | rfl | rfl
  · exact sh_gen x _ _ 0 (by omega) (by decide) (by decide)
  · exact sh_gen x _ _ 8 (by omega) (by decide) (by decide)
  · exact sh_gen x _ _ 16 (by omega) (by decide) (by decide)
  · exact sh_gen x _ _ 24 (by omega) (by decide) (by decide)
  · exact sh_gen x _ _ 32 (by omega) (by decide) (by decide)
  · exact sh_gen x _ _ 40 (by omega) (by decide) (by decide)
  · exact sh_gen x _ _ 48 (by omega) (by decide) (by decide)
  · exact sh_gen x _ _ 56 (by omega) (by decide) (by decide)
theorem sg_b : ∀ v : Fin 128, (nI v.val).toInt8.toInt32 = nI v.val := by decide
theorem sg_eq (x : Int64) {i : Nat} (hi : i < 8) : ∃ v, v < 128 ∧ (x >>> ((8 * nI i).toInt64 &&& 63)).toInt32 &&& 127 = nI v ∧ vp_nar .byte (((x.toUInt64 >>> ((8 * nI i).toInt64.toUInt64 &&& Int64.toUInt64 63)).toInt64 &&& 127).toInt32.toInt8.toInt32) = nI v := by
  obtain ⟨v, v1, v2⟩ := pk_andE ((x >>> ((8 * nI i).toInt64 &&& 63)).toInt32) (m := 127) 7 (by decide)
  refine ⟨v, v1, v2, ?_⟩
  rw [pk_vb, sh_eq x i hi, v2]
  exact sg_b ⟨v, v1⟩

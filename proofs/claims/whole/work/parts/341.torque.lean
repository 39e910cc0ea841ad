/-! the movement: the torque -/
theorem sh8 : (8 : Int32).toInt64 &&& 63 = 8 := by decide
theorem sr8 (d : Int64) : (d >>> (8 : Int64)).toInt = d.toInt / 256 := by
  have e : (d >>> (8 : Int64)).toBitVec = d.toBitVec.sshiftRight 8 := by
    rw [Int64.toBitVec_shiftRight]
    rfl
  rw [← Int64.toInt_toBitVec, e, BitVec.toInt_sshiftRight, Int64.toInt_toBitVec, Int.shiftRight_eq_div_pow]
  rfl
theorem sm_32 {y : Int64} (h0 : 0 ≤ y.toInt) (h7 : y.toInt ≤ 7) : ∃ k : Nat, k ≤ 7 ∧ y.toInt32 = jN k := by
  refine ⟨y.toInt.toNat, by omega, ?_⟩
  rw [← Int32.toInt_inj, jN_toInt (by omega), Int64.toInt_toInt32, Int.bmod_eq_of_le (by omega) (by omega)]
  omega
section TQ
variable {I J : Nat → Nat → Int32} {L K : Nat → Nat → Int64} {A T : Nat}
theorem tq_ok {n : Nat} (h : SPR I J L K A T) (hw : WND I J L K A n) (hp : ∀ j, j < 9 → I 8 j = J 41 j) : ∃ t : Int32, f_Es_torqueNow I L = some t ∧ f_Md_torqueNow J K = some t := by
  obtain ⟨d, d1, d2, d3, d4, d5⟩ := ld_ok h hw
  have c0 : ¬ d < 0 := fun q => by have := lg_lt.mp q; rw [lg_0] at this; omega
  have e7 : (7 : Int64).toInt = 7 := by decide
  rcases d5 with ⟨hb, z⟩ | hb
  · refine ⟨I 8 0, ?_, ?_⟩
    · subst z
      rw [f_Es_torqueNow, d1, Option.bind_some, if_neg c0, sh8]
      have z8 : (0 : Int64) >>> (8 : Int64) = 0 := by decide
      have z9 : (0 : Int64) &&& 255 = 0 := by decide
      have c1 : (0 : Int64) ≤ 7 := by decide
      have c2 : (0 : Int32) ≤ 0 ∧ (0 : Int32) < 9 := by decide
      have c3 : (0 : Int32) ≤ 0 + 1 ∧ (0 : Int32) + 1 < 9 := by decide
      have c4 : (0 : Int64).toInt32 = 0 := by decide
      have c5 : (0 : Int32).toNatClampNeg = 0 := by decide
      have c6 : (0 : Int32) >>> ((8 : Int32) &&& 31) = 0 := by decide
      rw [z8, if_pos c1, z9, c4]
      simp only [bnd]
      rw [if_pos c2, if_pos c3, if_pos c2, Int32.mul_zero, c6, c5, Int32.add_zero]
    · rw [f_Md_torqueNow, hb, Option.bind_some, if_pos rfl, hp 0 (by decide)]
  · by_cases c : d >>> (8 : Int64) ≤ 7
    · have c' := lg_le.mp c
      rw [sr8, e7] at c'
      obtain ⟨k, k1, k2⟩ := sm_32 (y := d >>> (8 : Int64)) (by rw [sr8]; omega) (by rw [sr8]; omega)
      have c2 : 0 ≤ jN k ∧ jN k < 9 := jN_in (n := 9) (by omega) (by decide)
      have c3 : 0 ≤ jN (k + 1) ∧ jN (k + 1) < 9 := jN_in (n := 9) (by omega) (by decide)
      refine ⟨I 8 k + ((((I 8 (k + 1)) - I 8 k) * (d &&& 255).toInt32) >>> ((8 : Int32) &&& 31)), ?_, ?_⟩
      · rw [f_Es_torqueNow, d1, Option.bind_some, if_neg c0, sh8, if_pos c, k2]
        simp only [bnd]
        rw [if_pos c2, jN_1, if_pos c3, if_pos c2, jN_tc (by omega), jN_tc (by omega)]
      · rw [f_Md_torqueNow, hb, Option.bind_some, if_neg (by decide), d2, Option.bind_some, sh8]
        simp only [bnd]
        rw [if_pos c, k2, if_pos c2, jN_1, if_pos c3, if_pos c2, jN_tc (by omega), jN_tc (by omega), hp k (by omega), hp (k + 1) (by omega)]
    · refine ⟨0, ?_, ?_⟩
      · rw [f_Es_torqueNow, d1, Option.bind_some, if_neg c0, sh8, if_neg c]
      · rw [f_Md_torqueNow, hb, Option.bind_some, if_neg (by decide), d2, Option.bind_some, sh8]
        simp only [bnd]
        rw [if_neg c]
end TQ
theorem hv_bd (x : Int64) : -1000000 ≤ f_Es_held x ∧ f_Es_held x ≤ 1000000 := by
  have a1 : (-1000000 : Int64).toInt = -1000000 := by decide
  have a2 : (1000000 : Int64).toInt = 1000000 := by decide
  have key : ∀ y : Int64, -1000000 ≤ y.toInt → y.toInt ≤ 1000000 → -1000000 ≤ y.toInt32 ∧ y.toInt32 ≤ 1000000 := by
    intro y h1 h2
    have e : y.toInt32.toInt = y.toInt := by rw [Int64.toInt_toInt32, Int.bmod_eq_of_le (by omega) (by omega)]
    have b1 : (-1000000 : Int32).toInt = -1000000 := by decide
    have b2 : (1000000 : Int32).toInt = 1000000 := by decide
    exact ⟨Int32.le_iff_toInt_le.mpr (by rw [e, b1]; exact h1), Int32.le_iff_toInt_le.mpr (by rw [e, b2]; exact h2)⟩
  unfold f_Es_held bnd Jmax Jmin
  by_cases c : x < 1000000
  · rw [if_pos c]
    have c' := lg_lt.mp c
    rw [a2] at c'
    by_cases d : x < -1000000
    · rw [if_pos d]; decide
    · rw [if_neg d]
      have d' : ¬ x.toInt < -1000000 := fun q => d (lg_lt.mpr (by rw [a1]; exact q))
      exact key x (by omega) (by omega)
  · rw [if_neg c, if_neg (by decide)]; decide
theorem hv_id {v : Int32} (h : -1000000 ≤ v ∧ v ≤ 1000000) : f_Es_held v.toInt64 = v := by
  have a1 : (-1000000 : Int64) = (-1000000 : Int32).toInt64 := by decide
  have a2 : (1000000 : Int64) = (1000000 : Int32).toInt64 := by decide
  unfold f_Es_held bnd Jmax Jmin
  by_cases c : v.toInt64 < 1000000
  · rw [if_pos c]
    by_cases d : v.toInt64 < -1000000
    · rw [a1, i64_lt] at d
      exact absurd (Int32.lt_of_lt_of_le d h.1) Int32.lt_irrefl
    · rw [if_neg d]; exact Int32.toInt32_toInt64 v
  · rw [if_neg c, if_neg (by decide)]
    rw [a2, i64_lt] at c
    have : v = 1000000 := Int32.le_antisymm h.2 (Int32.not_lt.mp c)
    rw [this]; decide
theorem sV (x : Int64) (J : Nat → Nat → Int32) (K : Nat → Nat → Int64) : f_Md_setV x J K = some (uI J 34 28 (f_Es_held x), K) := rfl

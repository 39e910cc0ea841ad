/-! trains: limits, answers; never -/
def ivT (I : Nat → Nat → Int32) (L : Nat → Nat → Int64) : Prop := (I 17 0 = I 60 0 ∧ I 17 1 = I 60 1 ∧ I 17 2 = I 60 2 ∧ I 17 3 = I 60 3) ∧ (4 ≤ I 17 0 ∧ I 17 0 ≤ I 17 1 ∧ I 17 1 ≤ 200) ∧ (4 ≤ I 17 2 ∧ I 17 2 ≤ I 17 3 ∧ I 17 3 ≤ 200) ∧ I 17 4 = I 34 54 ∧ (0 ≤ I 17 4 ∧ I 17 4 ≤ 3) ∧ (I 34 58 = 0 → I 17 4 = 0 ∧ L 17 7 = 0 ∧ L 17 8 = 0) ∧ (¬ I 34 58 = 0 → L 17 7 = L 34 56 ∧ L 17 8 = L 34 57) ∧ ∀ j : Nat, j < (I 17 4).toNatClampNeg → I 18 j = I 61 j ∧ I 19 j = I 61 (3 + j)
theorem op_teeth {I : Nat → Nat → Int32} {L : Nat → Nat → Int64} {a0 a1 a2 : Int32} (h : ivT I L) : wp (f_H_teeth a0 a1 a2 I L) (fun q => wp (f_Md_teeth a0 a1 a2 q.2.1 q.2.2) (fun q' => q.1 = q'.1 ∧ ivT q'.2.1 q'.2.2)) := by
  have e1 : f_Md_within a0.toInt64 0 1 = f_H_isWithin a0 0 1 := w_eq rfl rfl
  by_cases v1 : 0 ≤ a0 ∧ a0 ≤ 1
  · have n1 : ¬ f_H_isWithin a0 0 1 = 0 := fun q => wi_0.mp q v1
    by_cases v2 : a1 < 4
    · simp only [f_H_teeth, f_Md_teeth, bnd, e1, if_neg n1, if_pos v2, wp_some]
      exact ⟨trivial, h⟩
    · by_cases v3 : 200 < a2
      · simp only [f_H_teeth, f_Md_teeth, bnd, e1, if_neg n1, if_neg v2, if_pos v3, wp_some]
        exact ⟨trivial, h⟩
      · by_cases v4 : a1 ≤ a2
        · obtain ⟨⟨h1, h2, h3, h4⟩, ⟨h5, h6, h7⟩, ⟨h8, h9, h10⟩, h11, h12, h13, h14, h15⟩ := h
          by_cases z : a0 = 0
          · subst z
            simp only [f_H_teeth, f_Tr_setLimits, f_Md_teeth, bnd, e1, if_neg n1, if_neg v2, if_neg v3, if_pos v4, if_true, Option.bind_some, wp_some]
            rw [if_pos (by decide), if_pos (by decide)]
            simp only [wp_some]
            have k0 : ((2 : Int32) * 0).toNatClampNeg = 0 := by decide
            have k1 : ((2 : Int32) * 0 + 1).toNatClampNeg = 1 := by decide
            rw [k0, k1]
            refine ⟨trivial, ⟨?_, ?_, ?_, ?_⟩, ⟨?_, ?_, ?_⟩, ⟨?_, ?_, ?_⟩, ?_, ?_, ?_, ?_, ?_⟩ <;> simp only [uI] <;> first | grind | (simp; first | assumption | grind)
          · have z1 : a0 = 1 := by grind
            subst z1
            simp only [f_H_teeth, f_Tr_setLimits, f_Md_teeth, bnd, e1, if_neg n1, if_neg v2, if_neg v3, if_pos v4, if_neg z, Option.bind_some, wp_some]
            rw [if_pos (by decide), if_pos (by decide)]
            simp only [wp_some]
            have k0 : ((2 : Int32) * 1).toNatClampNeg = 2 := by decide
            have k1 : ((2 : Int32) * 1 + 1).toNatClampNeg = 3 := by decide
            rw [k0, k1]
            refine ⟨trivial, ⟨?_, ?_, ?_, ?_⟩, ⟨?_, ?_, ?_⟩, ⟨?_, ?_, ?_⟩, ?_, ?_, ?_, ?_, ?_⟩ <;> simp only [uI] <;> first | grind | (simp; first | assumption | grind)
        · simp only [f_H_teeth, f_Md_teeth, bnd, e1, if_neg n1, if_neg v2, if_neg v3, if_neg v4, wp_some]
          exact ⟨trivial, h⟩
  · have n1 : f_H_isWithin a0 0 1 = 0 := wi_0.mpr v1
    simp only [f_H_teeth, f_Md_teeth, bnd, e1, if_pos n1, wp_some]
    exact ⟨trivial, h⟩
theorem op_error {I : Nat → Nat → Int32} {L : Nat → Nat → Int64} {a0 : Int32} (h : ivT I L) : f_H_error a0 I L = f_Md_error a0 I L := by
  have e1 : f_Md_within a0.toInt64 0 1 = f_H_isWithin a0 0 1 := w_eq rfl rfl
  obtain ⟨-, -, -, h1, h2, h3, h4, -⟩ := h
  simp only [f_H_error, f_Md_error, bnd, e1, wi_0]
  grind
theorem at_30 {a : Int32} (c : 0 ≤ a ∧ a < 3) : (0 ≤ 3 * 0 + a ∧ 3 * 0 + a < 6) ∧ (3 : Int32) * 0 + a = a := by grind
theorem at_31 {a : Int32} (c : 0 ≤ a ∧ a < 3) : (0 ≤ 3 * 1 + a ∧ 3 * 1 + a < 6) ∧ (3 : Int32) * 1 + a = a + 1 + 1 + 1 ∧ 0 ≤ a + 1 ∧ 0 ≤ a + 1 + 1 ∧ a < 1000000 ∧ a + 1 < 1000000 ∧ a + 1 + 1 < 1000000 := by grind
theorem at_c {a n : Int32} (h : 0 ≤ n ∧ n ≤ 3) (v : 0 ≤ a ∧ a ≤ n - 1) : (0 ≤ a ∧ a < 3) ∧ a < n := by grind
theorem at_z {n z : Int32} {P : Prop} {a : Int32} (h : z = 0 → n = 0 ∧ P) (v : 0 ≤ a ∧ a ≤ n - 1) : ¬ z = 0 := by grind
theorem at_b {a : Int32} (h : 0 ≤ a ∧ a ≤ 1) (n : ¬ a = 0) : a = 1 := by grind
theorem op_train {I : Nat → Nat → Int32} {L : Nat → Nat → Int64} {a0 a1 : Int32} (h : ivT I L) : wp (f_H_train a0 a1 I L) (fun q => wp (f_Md_train a0 a1 I L) (fun q' => q = q')) := by
  have e1 : f_Md_within a1.toInt64 0 1 = f_H_isWithin a1 0 1 := w_eq rfl rfl
  obtain ⟨-, -, -, h1, h2, h3, h4, h5⟩ := h
  have e2 : f_Md_within a0.toInt64 0 (I 17 4 - 1).toInt64 = f_H_isWithin a0 0 (I 17 4 - 1) := w_eq rfl rfl
  by_cases v1 : 0 ≤ a1 ∧ a1 ≤ 1
  · have n1 : ¬ f_H_isWithin a1 0 1 = 0 := fun q => wi_0.mp q v1
    by_cases v2 : 0 ≤ a0 ∧ a0 ≤ I 17 4 - 1
    · have n2 : ¬ f_H_isWithin a0 0 (I 17 4 - 1) = 0 := fun q => wi_0.mp q v2
      have z : ¬ I 34 58 = 0 := at_z h3 v2
      have c : 0 ≤ a0 ∧ a0 < 3 := (at_c h2 v2).1
      have hj : a0.toNatClampNeg < (I 17 4).toNatClampNeg := by
        have t1 := tc_toInt v2.1
        have t2 := tc_toInt h2.1
        have t3 : a0 < I 17 4 := (at_c h2 v2).2
        have t4 := Int32.lt_iff_toInt_lt.mp t3
        omega
      obtain ⟨g1, g2⟩ := h5 _ hj
      by_cases s : a1 = 0
      · subst s
        have c2 := (at_30 c).1
        have c3 := (at_30 c).2
        rw [c3] at c2
        simp only [f_H_train, f_Md_train, bnd, e1, ← h1, e2, if_neg n1, if_neg n2, if_neg z, if_true, if_pos c, if_pos c2, wp_some, c3, g1]
      · have s1 : a1 = 1 := at_b v1 s
        subst s1
        obtain ⟨c2, t4, t5, t6, t7, t8, t9⟩ := at_31 c
        have c3 : ((3 : Int32) * 1 + a0).toNatClampNeg = 3 + a0.toNatClampNeg := by
          have t1 := tc_succ v2.1 t7
          have t2 := tc_succ t5 t8
          have t3 := tc_succ t6 t9
          rw [t4, t3, t2, t1]
          omega
        simp only [f_H_train, f_Md_train, bnd, e1, ← h1, e2, if_neg n1, if_neg n2, if_neg z, if_neg s, if_pos c, if_pos c2, wp_some, c3, g2]
    · have n2 : f_H_isWithin a0 0 (I 17 4 - 1) = 0 := wi_0.mpr v2
      simp only [f_H_train, f_Md_train, bnd, e1, ← h1, e2, if_neg n1, if_pos n2, wp_some]
      split <;> simp [wp_some]
  · have n1 : f_H_isWithin a1 0 1 = 0 := wi_0.mpr v1
    simp only [f_H_train, f_Md_train, bnd, e1, if_pos n1, wp_some]
    split <;> simp [wp_some]
/-- what never is -/
def ivN (I : Nat → Nat → Int32) : Prop := ∀ j, I 56 j = 0
theorem op_never {I : Nat → Nat → Int32} {L : Nat → Nat → Int64} {a0 : Int32} (h : ivN I) : wp (f_Md_never a0 I L) (fun q' => f_H_never a0 = q') := by
  have e1 : f_Md_within a0.toInt64 0 4 = f_H_isWithin a0 0 4 := w_eq rfl rfl
  simp only [ivN] at h
  simp only [f_H_never, f_Md_never, bnd, e1, wp_ite, wp_some, wp_none, wi_0]
  grind (splits := 30)

/-! chains, trains' limits and answers, what never is -/
def ivC (I : Nat → Nat → Int32) : Prop := I 22 0 = I 34 67 ∧ (0 ≤ I 22 0 ∧ I 22 0 ≤ 8) ∧ (∀ j, I 23 j = I 64 j) ∧ (∀ j, I 24 j = I 65 j) ∧ (∀ j, I 25 j = I 66 j) ∧ (∀ j, I 26 j = I 67 j) ∧ ∀ j : Nat, j < (I 22 0).toNatClampNeg → (I 23 j = 1 ∨ I 23 j = -1) ∧ (0 ≤ I 24 j ∧ I 24 j ≤ 1000000) ∧ (-10000 ≤ I 25 j ∧ I 25 j ≤ 10000) ∧ (-10000 ≤ I 26 j ∧ I 26 j ≤ 10000) ∧ I 25 j ≤ I 26 j ∧ I 26 j ≤ I 25 j + 99
theorem op_chain {I : Nat → Nat → Int32} {L : Nat → Nat → Int64} (h : ivC I) : wp (f_H_chain I L) (fun q => wp (f_Md_chain q.2.1 q.2.2) (fun q' => q.1 = q'.1 ∧ ivC q'.2.1)) := by
  obtain ⟨h1, h2, h3, h4, h5, h6, h7⟩ := h
  simp only [f_H_chain, f_Md_chain, bnd, wp_some]
  refine ⟨by simp [uI, h1], ?_, ?_, ?_, ?_, ?_, ?_, ?_⟩
  · simp [uI]
  · simp [uI]
  · intro j; simp [uI, h3]
  · intro j; simp [uI, h4]
  · intro j; simp [uI, h5]
  · intro j; simp [uI, h6]
  · intro j hj
    have : (uI (uI I 22 0 0) 34 67 0 22 0) = 0 := by simp [uI]
    rw [this] at hj
    exact absurd hj (Nat.not_lt_zero j)
theorem tc_succ {a : Int32} (h0 : 0 ≤ a) (h1 : a < 1000000) : (a + 1).toNatClampNeg = a.toNatClampNeg + 1 := by
  have e1 := tc_toInt h0
  have e2 := tc_toInt (a := a + 1) (by grind)
  have b := Int32.lt_iff_toInt_lt.mp h1
  have e3 : (a + 1).toInt = a.toInt + 1 := by
    rw [Int32.toInt_add]
    have b1 : (1000000 : Int32).toInt = 1000000 := by decide
    have b2 : (1 : Int32).toInt = 1 := by decide
    have b3 : (0 : Int) ≤ a.toInt := by simpa using Int32.le_iff_toInt_le.mp h0
    rw [b1] at b
    rw [b2]
    apply Int.bmod_eq_of_le <;> omega
  omega
theorem op_size {I : Nat → Nat → Int32} {L : Nat → Nat → Int64} {a0 a1 a2 a3 : Int32} (h : ivC I) : wp (f_H_size a0 a1 a2 a3 I L) (fun q => wp (f_Md_size a0 a1 a2 a3 q.2.1 q.2.2) (fun q' => q.1 = q'.1 ∧ ivC q'.2.1)) := by
  have e1 : f_Md_within a1.toInt64 0 1000000 = f_H_isWithin a1 0 1000000 := w_eq rfl rfl
  have e2 : f_Md_within a2.toInt64 (-10000) 10000 = f_H_isWithin a2 (-10000) 10000 := w_eq rfl rfl
  have e3 : f_Md_within a3.toInt64 (-10000) 10000 = f_H_isWithin a3 (-10000) 10000 := w_eq rfl rfl
  have key : (a0 = 1 ∨ a0 = -1) → wp (f_H_size_L10 a0 a1 a2 a3 I L) (fun q => wp (f_Md_size_L10 a0 a1 a2 a3 q.2.1 q.2.2) (fun q' => q.1 = q'.1 ∧ ivC q'.2.1)) := by
    intro hs
    by_cases v1 : 0 ≤ a1 ∧ a1 ≤ 1000000
    · have n1 : ¬ f_H_isWithin a1 0 1000000 = 0 := fun q => wi_0.mp q v1
      by_cases v2 : -10000 ≤ a2 ∧ a2 ≤ 10000
      · have n2 : ¬ f_H_isWithin a2 (-10000) 10000 = 0 := fun q => wi_0.mp q v2
        by_cases v3 : -10000 ≤ a3 ∧ a3 ≤ 10000
        · have n3 : ¬ f_H_isWithin a3 (-10000) 10000 = 0 := fun q => wi_0.mp q v3
          by_cases v4 : a2 ≤ a3 ∧ a3 ≤ a2 + 99
          · have n4 : ¬ f_H_isWithin a3 a2 (a2 + 99) = 0 := fun q => wi_0.mp q v4
            have m4 : ¬ a3 < a2 := by grind
            obtain ⟨h1, h2, h3, h4, h5, h6, h7⟩ := h
            by_cases f : I 22 0 < 8
            · have f2 : 0 ≤ I 22 0 ∧ I 22 0 < 8 := ⟨h2.1, f⟩
              have f3 : ¬ I 22 0 = 8 := by grind
              simp only [f_H_size_L10, f_Ch_add, bnd, if_neg n1, if_neg n2, if_neg n3, if_neg n4, if_pos f, if_pos f2, Option.bind_some, wp_some]
              generalize hk : (I 22 0).toNatClampNeg = k
              have q0 : (uI (uI (uI (uI (uI I 23 k a0) 24 k a1) 25 k a2) 26 k a3) 22 0 (I 22 0 + 1)) 34 67 = I 22 0 := by simp [uI, h1]
              simp only [f_Md_size_L10, bnd, e1, e2, e3, if_neg n1, if_neg n2, if_neg n3, if_neg m4, if_pos v4.2, q0, if_neg f3, if_pos f2, wp_some, hk]
              refine ⟨by grind, ?_, ?_, ?_, ?_, ?_, ?_, ?_⟩
              · simp [uI]
              · simp only [uI]; grind
              · intro j; have := h3 j; simp only [uI]; grind
              · intro j; have := h4 j; simp only [uI]; grind
              · intro j; have := h5 j; simp only [uI]; grind
              · intro j; have := h6 j; simp only [uI]; grind
              · intro j hj
                have hz : uI (uI (uI (uI (uI (uI (uI (uI (uI (uI I 23 k a0) 24 k a1) 25 k a2) 26 k a3) 22 0 (I 22 0 + 1)) 64 k a0) 65 k a1) 66 k a2) 67 k a3) 34 67 (I 22 0 + 1) 22 0 = I 22 0 + 1 := by simp [uI]
                rw [hz, tc_succ h2.1 (by grind), hk] at hj
                rcases Nat.lt_or_ge j k with hlt | hge
                · have hne : j ≠ k := by omega
                  have := h7 j (by rw [hk]; exact hlt)
                  simp only [uI]
                  simp [hne]
                  exact this
                · have : j = k := by omega
                  subst this
                  simp only [uI]
                  simp
                  exact ⟨hs, v1, v2, v3, v4⟩
            · have f3 : I 22 0 = 8 := by grind
              have f4 : I 34 67 = 8 := by rw [← h1]; exact f3
              simp only [f_H_size_L10, f_Ch_add, f_Md_size_L10, bnd, e1, e2, e3, if_neg n1, if_neg n2, if_neg n3, if_neg n4, if_neg f, if_neg m4, if_pos v4.2, if_pos f4, Option.bind_some, wp_some]
              exact ⟨trivial, h1, h2, h3, h4, h5, h6, h7⟩
          · have n4 : f_H_isWithin a3 a2 (a2 + 99) = 0 := wi_0.mpr v4
            simp only [f_H_size_L10, bnd, if_neg n1, if_neg n2, if_neg n3, if_pos n4, wp_some, f_Md_size_L10, e1, e2, e3]
            by_cases m : a3 < a2
            · simp only [if_pos m, wp_some]
              exact ⟨trivial, h⟩
            · have m2 : ¬ a3 ≤ a2 + 99 := by grind
              simp only [if_neg m, if_neg m2, wp_some]
              exact ⟨trivial, h⟩
        · have n3 : f_H_isWithin a3 (-10000) 10000 = 0 := wi_0.mpr v3
          simp only [f_H_size_L10, f_Md_size_L10, bnd, e1, e2, e3, if_neg n1, if_neg n2, if_pos n3, wp_some]
          exact ⟨trivial, h⟩
      · have n2 : f_H_isWithin a2 (-10000) 10000 = 0 := wi_0.mpr v2
        simp only [f_H_size_L10, f_Md_size_L10, bnd, e1, e2, if_neg n1, if_pos n2, wp_some]
        exact ⟨trivial, h⟩
    · have n1 : f_H_isWithin a1 0 1000000 = 0 := wi_0.mpr v1
      simp only [f_H_size_L10, f_Md_size_L10, bnd, e1, if_pos n1, wp_some]
      exact ⟨trivial, h⟩
  by_cases s1 : a0 = 1
  · have k := key (Or.inl s1)
    simp only [f_H_size, f_Md_size, if_pos s1]
    exact k
  · by_cases s2 : a0 = -1
    · have k := key (Or.inr s2)
      simp only [f_H_size, f_Md_size, if_neg s1, if_pos s2]
      exact k
    · simp only [f_H_size, f_Md_size, if_neg s1, if_neg s2, wp_some]
      exact ⟨trivial, h⟩

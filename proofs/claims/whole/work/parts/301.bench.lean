/-! the benches: conflict, settle, setting -/
def cf (I : Nat → Nat → Int32) (a0 a1 : Int32) : Int32 :=
  if I 32 (a0 * 32 + a1).toNatClampNeg = I 31 (I 30 a0.toNatClampNeg * 32 + a1).toNatClampNeg then 0 else if I 31 (I 29 0 * 32 + a1).toNatClampNeg = I 31 (I 30 a0.toNatClampNeg * 32 + a1).toNatClampNeg then 0 else if I 32 (a0 * 32 + a1).toNatClampNeg = I 31 (I 29 0 * 32 + a1).toNatClampNeg then 0 else if I 33 (a0 * 32 + a1).toNatClampNeg = 0 then 1 else 0
theorem ix_c {a b : Int32} (v : (0 ≤ a ∧ a ≤ 3) ∧ (0 ≤ b ∧ b ≤ 31)) : 0 ≤ a * 32 + b ∧ a * 32 + b < 128 := by grind
theorem ix_v {a b : Int32} (v : 0 ≤ a ∧ a ≤ 500) (w : 0 ≤ b ∧ b ≤ 31) : 0 ≤ a * 32 + b ∧ a * 32 + b < 16032 := by grind
theorem mul32 (a b : Int32) : (32 : Int32) * a + b = a * 32 + b := by grind
theorem cf_H {I : Nat → Nat → Int32} {L : Nat → Nat → Int64} {a0 a1 : Int32} (h : ivB I) (v : (0 ≤ a0 ∧ a0 ≤ 3) ∧ (0 ≤ a1 ∧ a1 ≤ 31)) : f_Be_isConflict a0 a1 I L = some (cf I a0 a1) := by
  obtain ⟨h1, h2, h3, h4, h5, h6, h7, h8⟩ := h
  have c1 : 0 ≤ a0 ∧ a0 < 4 := by grind
  have c2 := ix_v (a := I 30 a0.toNatClampNeg) (b := a1) (by have := h7 a0.toNatClampNeg; grind) v.2
  have c3 := ix_v (a := I 29 0) (b := a1) h6 v.2
  have c4 := ix_c v
  simp only [f_Be_isConflict, f_Be_ofVersion, f_Be_ofCopy, if_pos c1, if_pos c2, if_pos c3, if_pos c4, Option.bind_some, cf]
  repeat (split <;> try rfl)
theorem cf_M {I : Nat → Nat → Int32} {L : Nat → Nat → Int64} {a0 a1 : Int32} (h : ivB I) (v : (0 ≤ a0 ∧ a0 ≤ 3) ∧ (0 ≤ a1 ∧ a1 ≤ 31)) : f_Md_isConflict a0 a1 I L = some (cf I a0 a1) := by
  obtain ⟨h1, h2, h3, h4, h5, h6, h7, h8⟩ := h
  have c1 : 0 ≤ a0 ∧ a0 < 4 := by grind
  have c2 := ix_v (a := I 30 a0.toNatClampNeg) (b := a1) (by have := h7 a0.toNatClampNeg; grind) v.2
  have c3 := ix_v (a := I 29 0) (b := a1) h6 v.2
  have c4 := ix_c v
  simp only [f_Md_isConflict, bnd, mul32, ← h1, ← h2, ← h3, ← h4, ← h5, if_pos c1, if_pos c2, if_pos c3, if_pos c4, cf]
  repeat (split <;> try rfl)
theorem op_conflict {I : Nat → Nat → Int32} {L : Nat → Nat → Int64} {a0 a1 : Int32} (h : ivB I) : wp (f_H_conflict a0 a1 I L) (fun q => wp (f_Md_conflict a0 a1 I L) (fun q' => q = q')) := by
  by_cases v : (0 ≤ a0 ∧ a0 ≤ 3) ∧ (0 ≤ a1 ∧ a1 ≤ 31)
  · have n : ¬ f_Be_has a0 a1 = 0 := fun q => has_0.mp q v
    simp only [f_H_conflict, f_Md_conflict, isSet_eq, if_neg n, cf_H h v, cf_M h v, Option.bind_some]
    split <;> simp [wp_some]
  · have n : f_Be_has a0 a1 = 0 := has_0.mpr v
    simp only [f_H_conflict, f_Md_conflict, isSet_eq, if_pos n, wp_some]
theorem ivB_copy {I : Nat → Nat → Int32} (h : ivB I) (k : Nat) (x : Int32) : ivB (uI (uI I 32 k x) 72 k x) := by
  obtain ⟨h1, h2, h3, h4, h5, h6, h7, h8⟩ := h
  refine ⟨?_, ?_, ?_, ?_, ?_, ?_, ?_, ?_⟩ <;> simp only [uI] <;> grind
theorem ivB_set {I : Nat → Nat → Int32} (h : ivB I) (k : Nat) (x : Int32) (hx : x = 0 ∨ x = 1) : ivB (uI (uI I 33 k x) 74 k x) := by
  obtain ⟨h1, h2, h3, h4, h5, h6, h7, h8⟩ := h
  refine ⟨?_, ?_, ?_, ?_, ?_, ?_, ?_, ?_⟩ <;> simp only [uI] <;> grind
theorem op_setting {I : Nat → Nat → Int32} {L : Nat → Nat → Int64} {a0 a1 : Int32} (h : ivB I) : wp (f_H_setting a0 a1 I L) (fun q => wp (f_Md_setting a0 a1 I L) (fun q' => q = q')) := by
  have e1 : f_Md_within a1.toInt64 0 31 = f_H_isWithin a1 0 31 := w_eq rfl rfl
  have e2 : f_Md_within a0.toInt64 (-4) (I 29 0).toInt64 = f_H_isWithin a0 (-4) (I 29 0) := w_eq rfl rfl
  obtain ⟨h1, h2, h3, h4, h5, h6, h7, h8⟩ := h
  by_cases v : 0 ≤ a1 ∧ a1 ≤ 31
  · by_cases w : 0 ≤ a0 ∧ a0 ≤ I 29 0
    · have c := ix_v (a := a0) (b := a1) (by grind) v
      have n0 : ¬ a0 < 0 := by grind
      have n1 : -4 ≤ a0 ∧ a0 ≤ I 29 0 := by grind
      simp only [f_H_setting, f_Md_setting, f_Be_ofVersion, f_Be_ofCopy, bnd, e1, e2, mul32, ← h1, ← h3, wp_ite, wp_some, wp_none, wp_bind, wi_0, v, w, c, n0, n1, not_true_eq_false, false_implies, true_implies, and_self, true_and, and_true, not_false_eq_true]
    · by_cases w2 : -4 ≤ a0 ∧ a0 ≤ -1
      · have c := ix_c (a := -1 - a0) (b := a1) ⟨by grind, v⟩
        have n0 : a0 < 0 := by grind
        have n1 : -4 ≤ a0 ∧ a0 ≤ I 29 0 := by grind
        simp only [f_H_setting, f_Md_setting, f_Be_ofVersion, f_Be_ofCopy, bnd, e1, e2, mul32, ← h1, ← h4, wp_ite, wp_some, wp_none, wp_bind, wi_0, v, w2, c, n0, n1, not_true_eq_false, false_implies, true_implies, and_self, true_and, and_true, not_false_eq_true]
        grind
      · have n1 : ¬ (-4 ≤ a0 ∧ a0 ≤ I 29 0) := by grind
        simp only [f_H_setting, f_Md_setting, bnd, e1, e2, ← h1, wp_ite, wp_some, wp_none, wp_bind, wi_0, v, w, w2, n1, not_true_eq_false, false_implies, true_implies, and_self, true_and, and_true, not_false_eq_true]
  · simp only [f_H_setting, f_Md_setting, bnd, e1, wp_ite, wp_some, wp_none, wp_bind, wi_0, v, not_true_eq_false, false_implies, true_implies, and_self, true_and, and_true, not_false_eq_true]
theorem op_settle {I : Nat → Nat → Int32} {L : Nat → Nat → Int64} {a0 a1 a2 : Int32} (h : ivB I) : wp (f_H_settle a0 a1 a2 I L) (fun q => wp (f_Md_settle a0 a1 a2 q.2.1 q.2.2) (fun q' => q.1 = q'.1 ∧ ivB q'.2.1)) := by
  have e2 : f_Md_within a2.toInt64 0 1 = f_H_isWithin a2 0 1 := w_eq rfl rfl
  by_cases v : (0 ≤ a0 ∧ a0 ≤ 3) ∧ (0 ≤ a1 ∧ a1 ≤ 31)
  · have n : ¬ f_Be_has a0 a1 = 0 := fun q => has_0.mp q v
    by_cases w : 0 ≤ a2 ∧ a2 ≤ 1
    · have nw : ¬ f_H_isWithin a2 0 1 = 0 := fun q => wi_0.mp q w
      simp only [f_H_settle, bnd, if_neg n, if_neg nw, cf_H h v, Option.bind_some]
      by_cases z : cf I a0 a1 = 0
      · simp only [if_pos z, wp_some, f_Md_settle, isSet_eq, bnd, if_neg n, e2, if_neg nw, cf_M h v, Option.bind_some]
        exact ⟨trivial, h⟩
      · have c := ix_c v
        have hz : I 33 (a0 * 32 + a1).toNatClampNeg = 0 := by
          unfold cf at z
          grind
        have c3 := ix_v (a := I 29 0) (b := a1) h.2.2.2.2.2.1 v.2
        simp only [if_neg z, f_Be_decide, f_Be_ofVersion, bnd]
        by_cases s0 : a2 = 0
        · have s1 : ¬ a2 = 1 := by grind
          simp only [if_pos s0, if_pos c3, Option.bind_some, if_pos c, wp_some]
          generalize hk : (a0 * 32 + a1).toNatClampNeg = k at hz
          generalize hx : I 31 (I 29 0 * 32 + a1).toNatClampNeg = x
          have hh : ivB (uI (uI (uI (uI I 32 k x) 72 k x) 33 k 0) 74 k 0) := ivB_set (ivB_copy h k x) k 0 (Or.inl rfl)
          have t1 : f_Md_isConflict a0 a1 (uI I 32 k x) L = some (cf I a0 a1) := by
            obtain ⟨h1, h2, h3, h4, h5, h6, h7, h8⟩ := h
            have c1 : 0 ≤ a0 ∧ a0 < 4 := by grind
            have c2 := ix_v (a := I 30 a0.toNatClampNeg) (b := a1) (by have := h7 a0.toNatClampNeg; grind) v.2
            have q1 : ∀ j, uI I 32 k x 71 j = I 31 j := fun j => by simp [uI, h3]
            have q2 : ∀ j, uI I 32 k x 72 j = I 32 j := fun j => by simp [uI, h4]
            have q3 : ∀ j, uI I 32 k x 73 j = I 30 j := fun j => by simp [uI, h2]
            have q4 : ∀ j, uI I 32 k x 74 j = I 33 j := fun j => by simp [uI, h5]
            have q5 : uI I 32 k x 34 75 = I 29 0 := by simp [uI, h1]
            simp only [f_Md_isConflict, bnd, mul32, q1, q2, q3, q4, q5, if_pos c1, if_pos c2, if_pos c3, if_pos c, cf]
            repeat (split <;> try rfl)
          have q5 : uI I 32 k x 34 75 = I 29 0 := by simp [uI, h.1]
          have q6 : uI I 32 k x 71 (I 29 0 * 32 + a1).toNatClampNeg = x := by simp [uI, ← h.2.2.1, hx]
          simp only [f_Md_settle, f_Md_settle_L65, isSet_eq, bnd, if_neg n, e2, if_neg nw, t1, Option.bind_some, if_neg z, mul32, if_pos s0, q5, if_pos c3, q6, if_pos c, if_neg s1, wp_some, hk]
          refine ⟨trivial, ?_⟩
          have hf : uI (uI (uI I 32 k x) 72 k x) 74 k 0 = uI (uI (uI (uI I 32 k x) 72 k x) 33 k 0) 74 k 0 := by
            funext b j
            simp only [uI]
            grind
          rw [hf]
          exact hh
        · have s1 : a2 = 1 := by grind
          simp only [if_neg s0, if_pos c, Option.bind_some, wp_some]
          generalize hk : (a0 * 32 + a1).toNatClampNeg = k at hz
          have t1 : f_Md_isConflict a0 a1 (uI I 33 k 1) L = some (cf I a0 a1) := by
            obtain ⟨h1, h2, h3, h4, h5, h6, h7, h8⟩ := h
            have c1 : 0 ≤ a0 ∧ a0 < 4 := by grind
            have c2 := ix_v (a := I 30 a0.toNatClampNeg) (b := a1) (by have := h7 a0.toNatClampNeg; grind) v.2
            have q1 : ∀ j, uI I 33 k 1 71 j = I 31 j := fun j => by simp [uI, h3]
            have q2 : ∀ j, uI I 33 k 1 72 j = I 32 j := fun j => by simp [uI, h4]
            have q3 : ∀ j, uI I 33 k 1 73 j = I 30 j := fun j => by simp [uI, h2]
            have q4 : ∀ j, uI I 33 k 1 74 j = I 33 j := fun j => by simp [uI, h5]
            have q5 : uI I 33 k 1 34 75 = I 29 0 := by simp [uI, h1]
            simp only [f_Md_isConflict, bnd, mul32, q1, q2, q3, q4, q5, if_pos c1, if_pos c2, if_pos c3, if_pos c, cf]
            repeat (split <;> try rfl)
          simp only [f_Md_settle, f_Md_settle_L65, isSet_eq, bnd, if_neg n, e2, if_neg nw, t1, Option.bind_some, if_neg z, mul32, if_neg s0, if_pos c, if_pos s1, wp_some, hk]
          exact ⟨trivial, ivB_set h k 1 (Or.inr rfl)⟩
    · have nw : f_H_isWithin a2 0 1 = 0 := wi_0.mpr w
      simp only [f_H_settle, f_Md_settle, isSet_eq, bnd, if_neg n, e2, if_pos nw, wp_some]
      exact ⟨trivial, h⟩
  · have n : f_Be_has a0 a1 = 0 := has_0.mpr v
    simp only [f_H_settle, f_Md_settle, isSet_eq, if_pos n, wp_some]
    exact ⟨trivial, h⟩

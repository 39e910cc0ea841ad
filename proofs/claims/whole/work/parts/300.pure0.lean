/-! numbers -/
theorem i64_lt (a b : Int32) : a.toInt64 < b.toInt64 ↔ a < b := by
  rw [Int64.lt_iff_toInt_lt, Int32.lt_iff_toInt_lt, Int32.toInt_toInt64, Int32.toInt_toInt64]
theorem i64_le (a b : Int32) : a.toInt64 ≤ b.toInt64 ↔ a ≤ b := by
  rw [Int64.le_iff_toInt_le, Int32.le_iff_toInt_le, Int32.toInt_toInt64, Int32.toInt_toInt64]
/-- the reference's within is the class's isWithin -/
theorem w_eq {a l h : Int32} {l' h' : Int64} (e1 : l.toInt64 = l') (e2 : h.toInt64 = h') : f_Md_within a.toInt64 l' h' = f_H_isWithin a l h := by
  subst e1; subst e2
  unfold f_Md_within f_H_isWithin
  simp only [i64_lt]
theorem wi_0 {a l h : Int32} : f_H_isWithin a l h = 0 ↔ ¬ (l ≤ a ∧ a ≤ h) := by
  unfold f_H_isWithin
  grind
theorem wi_ne {a l h : Int32} : ¬ f_H_isWithin a l h = 0 ↔ (l ≤ a ∧ a ≤ h) := by
  rw [wi_0]; simp
theorem tc_toInt {a : Int32} (h : 0 ≤ a) : (a.toNatClampNeg : Int) = a.toInt := by
  have h0 : (0 : Int) ≤ a.toInt := by simpa using Int32.le_iff_toInt_le.mp h
  show ((a.toInt.toNat : Nat) : Int) = a.toInt
  omega
theorem tc_inj {a b : Int32} (ha : 0 ≤ a) (hb : 0 ≤ b) : a.toNatClampNeg = b.toNatClampNeg ↔ a = b := by
  constructor
  · intro h
    have h1 := tc_toInt ha
    have h2 := tc_toInt hb
    exact Int32.toInt_inj.mp (by omega)
  · intro h; rw [h]
theorem tc_lt {a : Int32} {n : Nat} {N : Int32} (ha : 0 ≤ a) (hN : N.toInt = n) (h : a < N) : a.toNatClampNeg < n := by
  have h1 := tc_toInt ha
  have h2 := Int32.lt_iff_toInt_lt.mp h
  omega
/-- x ends, and Q holds of what it gives -/
def wp {α : Type} (x : Option α) (Q : α → Prop) : Prop := ∃ a, x = some a ∧ Q a
theorem wp_some {α : Type} {a : α} {Q : α → Prop} : wp (some a) Q ↔ Q a := ⟨fun ⟨_, e, h⟩ => by cases e; exact h, fun h => ⟨a, rfl, h⟩⟩
theorem wp_none {α : Type} {Q : α → Prop} : wp none Q ↔ False := ⟨fun ⟨_, e, _⟩ => (by cases e), fun h => h.elim⟩
theorem wp_ite {α : Type} {c : Prop} [Decidable c] {x y : Option α} {Q : α → Prop} : wp (if c then x else y) Q ↔ (c → wp x Q) ∧ (¬ c → wp y Q) := by
  by_cases h : c <;> simp [h]
theorem wp_bind {α β : Type} {x : Option α} {f : α → Option β} {Q : β → Prop} : wp (x.bind f) Q ↔ wp x (fun a => wp (f a) Q) := by
  cases x with
  | none => simp [wp]
  | some a => simp [wp]
theorem wp_mono {α : Type} {x : Option α} {Q R : α → Prop} (h : wp x Q) (g : ∀ a, x = some a → Q a → R a) : wp x R := by
  obtain ⟨a, e, q⟩ := h
  exact ⟨a, e, g a e q⟩
/-- the trial's rates -/
def ivR (I : Nat → Nat → Int32) : Prop := (∀ j, I 28 j = I 70 j) ∧ ∀ j, -1000 ≤ I 28 j ∧ I 28 j ≤ 1000
theorem op_rate {I : Nat → Nat → Int32} {L : Nat → Nat → Int64} {a0 a1 : Int32} (h : ivR I) : wp (f_H_rate a0 a1 I L) (fun q => wp (f_Md_rate a0 a1 q.2.1 q.2.2) (fun q' => q.1 = q'.1 ∧ ivR q'.2.1)) := by
  have e1 : f_Md_within a0.toInt64 1 15 = f_H_isWithin a0 1 15 := w_eq rfl rfl
  have e2 : f_Md_within a1.toInt64 (-1000) 1000 = f_H_isWithin a1 (-1000) 1000 := w_eq rfl rfl
  simp only [f_H_rate, f_Md_rate, bnd, wp_ite, wp_some, wp_none, e1, e2, wi_0, ivR] at h ⊢
  simp only [uI]
  obtain ⟨h, hb⟩ := h
  grind (splits := 30)
/-- the benches -/
def ivB (I : Nat → Nat → Int32) : Prop := I 29 0 = I 34 75 ∧ (∀ j, I 30 j = I 73 j) ∧ (∀ j, I 31 j = I 71 j) ∧ (∀ j, I 32 j = I 72 j) ∧ (∀ j, I 33 j = I 74 j) ∧ (0 ≤ I 29 0 ∧ I 29 0 ≤ 500) ∧ (∀ j, 0 ≤ I 30 j ∧ I 30 j ≤ I 29 0) ∧ ∀ j, I 33 j = 0 ∨ I 33 j = 1
theorem has_0 {a b : Int32} : f_Be_has a b = 0 ↔ ¬ ((0 ≤ a ∧ a ≤ 3) ∧ (0 ≤ b ∧ b ≤ 31)) := by
  simp only [f_Be_has, bnd, wi_0]
  grind
theorem isSet_eq {a b : Int32} : f_Md_isSetting a b = f_Be_has a b := by
  have e1 : f_Md_within a.toInt64 0 3 = f_H_isWithin a 0 3 := w_eq rfl rfl
  have e2 : f_Md_within b.toInt64 0 31 = f_H_isWithin b 0 31 := w_eq rfl rfl
  simp only [f_Be_has, f_Md_isSetting, bnd, e1, e2]
theorem op_version {I : Nat → Nat → Int32} {L : Nat → Nat → Int64} {a0 : Int32} (h : ivB I) : wp (f_H_version a0 I L) (fun q => wp (f_Md_version a0 I L) (fun q' => q = q')) := by
  have e1 : f_Md_within a0.toInt64 1 4 = f_H_isWithin a0 1 4 := w_eq rfl rfl
  simp only [f_H_version, f_Md_version, bnd, wp_ite, wp_some, wp_none, e1, wi_0, ivB] at h ⊢
  grind (splits := 40)
theorem op_change {I : Nat → Nat → Int32} {L : Nat → Nat → Int64} {a0 a1 a2 : Int32} (h : ivB I) : wp (f_H_change a0 a1 a2 I L) (fun q => wp (f_Md_change a0 a1 a2 q.2.1 q.2.2) (fun q' => q.1 = q'.1 ∧ ivB q'.2.1)) := by
  have e3 : f_Md_within a2.toInt64 (-1000000) 1000000 = f_H_isWithin a2 (-1000000) 1000000 := w_eq rfl rfl
  by_cases v : ((0 ≤ a0 ∧ a0 ≤ 3) ∧ (0 ≤ a1 ∧ a1 ≤ 31)) ∧ (-1000000 ≤ a2 ∧ a2 ≤ 1000000)
  · have c : 0 ≤ a0 * 32 + a1 ∧ a0 * 32 + a1 < 128 := by grind
    have c' : (32 : Int32) * a0 + a1 = a0 * 32 + a1 := by grind
    simp only [f_H_change, f_Be_put, f_Md_change, isSet_eq, bnd, wp_ite, wp_some, wp_none, wp_bind, e3, wi_0, has_0, v, c, c', not_true_eq_false, false_implies, true_implies, and_self, true_and, and_true, not_false_eq_true]
    generalize (a0 * 32 + a1).toNatClampNeg = k
    obtain ⟨h1, h2, h3, h4, h5, h6, h7, h8⟩ := h
    refine ⟨?_, ?_⟩
    · simp [uI, h4]
    · refine ⟨?_, ?_, ?_, ?_, ?_, ?_, ?_, ?_⟩ <;> simp only [uI] <;> grind
  · by_cases v1 : (0 ≤ a0 ∧ a0 ≤ 3) ∧ (0 ≤ a1 ∧ a1 ≤ 31)
    · have v2 : ¬ (-1000000 ≤ a2 ∧ a2 ≤ 1000000) := fun q => v ⟨v1, q⟩
      simp only [f_H_change, f_Md_change, isSet_eq, bnd, wp_ite, wp_some, wp_none, wp_bind, e3, wi_0, has_0, v1, v2, not_true_eq_false, false_implies, true_implies, and_self, true_and, and_true, not_false_eq_true]
      exact h
    · simp only [f_H_change, f_Md_change, isSet_eq, bnd, wp_ite, wp_some, wp_none, wp_bind, has_0, v1, not_true_eq_false, false_implies, true_implies, and_self, true_and, and_true, not_false_eq_true]
      exact h

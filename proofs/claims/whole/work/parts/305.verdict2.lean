theorem f_M2 (a0 : Int32) (I : Nat → Nat → Int32) (L : Nat → Nat → Int64) : ∃ n, f_Md_verdict a0 I L = f_Md_verdict_L91 (n + 1) a0 (vS (I 70)) (vP (I 70)) (vM (I 70)) (vF (I 70) (vS (I 70))) 10 I L := ⟨999989, f_M a0 I L⟩
theorem jabs_d {a b : Int32} (ha : -1000 ≤ a ∧ a ≤ 1000) (hb : -1000 ≤ b ∧ b ≤ 1000) : 0 ≤ jabs (a - b) ∧ jabs (a - b) ≤ 2000 := by
  have h : -2000 ≤ a - b ∧ a - b ≤ 2000 := by grind
  generalize a - b = x at h
  clear ha hb
  unfold jabs
  split
  · grind
  · grind
theorem jmax_0 {a b : Int32} (h : 0 ≤ a) : 0 ≤ jmax a b := by unfold jmax; grind
theorem sum5 {a b c d e : Int32} (ha : 0 ≤ a ∧ a ≤ 2000) (hb : 0 ≤ b ∧ b ≤ 2000) (hc : 0 ≤ c ∧ c ≤ 2000) (hd : 0 ≤ d ∧ d ≤ 2000) (he : 0 ≤ e ∧ e ≤ 2000) : 0 ≤ 0 + a + b + c + d + e := by grind
theorem vP_0 {r : Nat → Int32} (h : ∀ j, -1000 ≤ r j ∧ r j ≤ 1000) : 0 ≤ vP r := sum5 (jabs_d (h _) (h _)) (jabs_d (h _) (h _)) (jabs_d (h _) (h _)) (jabs_d (h _) (h _)) (jabs_d (h _) (h _))
theorem vM_0 (r : Nat → Int32) : 0 ≤ vM r := jmax_0 (jmax_0 (jmax_0 (jmax_0 (jmax_0 (by decide)))))
theorem vF_0 (r : Nat → Int32) (s : Int32) : 0 ≤ vF r s := jmax_0 (jmax_0 (jmax_0 (jmax_0 (jmax_0 (jmax_0 (jmax_0 (jmax_0 (jmax_0 (jmax_0 (by decide))))))))))
theorem wi_hi {a h : Int32} (h0 : 0 ≤ a) : f_H_isWithin a 0 h = 0 ↔ h < a := by rw [wi_0]; grind
theorem or_if (c : Prop) [Decidable c] (acc b : Int32) : acc ||| (if c then b else 0) = vb c acc b := by
  unfold vb
  split
  · rfl
  · exact Int32.or_zero
theorem vb_iff {c d : Prop} [Decidable c] [Decidable d] (h : c ↔ d) (acc b : Int32) : vb c acc b = vb d acc b := by
  unfold vb
  by_cases hc : c
  · rw [if_pos hc, if_pos (h.mp hc)]
  · rw [if_neg hc, if_neg (fun q => hc (h.mpr q))]
theorem ite_f {α β : Type} {c : Prop} [Decidable c] (f : α → β) (x y : α) : (if c then f x else f y) = f (if c then x else y) := by split <;> rfl
theorem v7_M (r : Nat → Int32) (I : Nat → Nat → Int32) (L : Nat → Nat → Int64) (hr : I 70 = r) (n : Nat) (p m f s : Int32) : f_Md_verdict_L91 (n + 1) 7 s p m f 10 I L = some (vb (f_H_isWithin (2 * r 14 - r 0 - r 1) (-100) 100 = 0) (vb (f_H_isWithin (r 12 - r 10) (-180) 180 = 0) (vb ((1000 : Int32) < f) (vb (f_H_isWithin (r 0 + r 1 - r 8 - r 9) (-120) 160 = 0) (vb ((50 : Int32) < m) (vb ((100 : Int32) < p) (vb (f_H_isWithin s (-400) 600 = 0) 0 1) 2) 4) 8) 16) 32) 64) := by
  have e1 : ∀ x : Int32, f_Md_within x.toInt64 (-400) 600 = f_H_isWithin x (-400) 600 := fun x => w_eq rfl rfl
  have e2 : ∀ x : Int32, f_Md_within x.toInt64 (-120) 160 = f_H_isWithin x (-120) 160 := fun x => w_eq rfl rfl
  have e3 : ∀ x : Int32, f_Md_within x.toInt64 (-180) 180 = f_H_isWithin x (-180) 180 := fun x => w_eq rfl rfl
  have e4 : ∀ x : Int32, f_Md_within x.toInt64 (-100) 100 = f_H_isWithin x (-100) 100 := fun x => w_eq rfl rfl
  rw [f_Md_verdict_L91, if_pos (by decide)]
  simp only [bnd, if_true, hr, e1]
  simp only [f_Md_verdict_L224, f_Md_verdict_L239, f_Md_verdict_L256, f_Md_verdict_L282, f_Md_verdict_L301, f_Md_verdict_L327, bnd, e2, e3, e4]
  have z : ∀ x : Int32, x ||| 0 = x := fun x => Int32.or_zero
  have z0 : vb (f_H_isWithin s (-400) 600 = 0) 0 1 = if f_H_isWithin s (-400) 600 = 0 then 1 else 0 := by unfold vb; split <;> rfl
  rw [z0]
  unfold vb
  simp only [z]
  by_cases c0 : f_H_isWithin s (-400) 600 = 0 <;> by_cases c1 : (100 : Int32) < p <;> by_cases c2 : (50 : Int32) < m <;> by_cases c3 : f_H_isWithin (r 0 + r 1 - r 8 - r 9) (-120) 160 = 0 <;> by_cases c4 : (1000 : Int32) < f <;> by_cases c5 : f_H_isWithin (r 12 - r 10) (-180) 180 = 0 <;> by_cases c6 : f_H_isWithin (2 * r 14 - r 0 - r 1) (-100) 100 = 0 <;> simp only [c0, c1, c2, c3, c4, c5, c6, if_true, if_false]
theorem vH_ne {I : Nat → Nat → Int32} {L : Nat → Nat → Int64} {a0 : Int32} (c : ¬ a0 = 7) : f_H_verdict a0 I L = some (vN (I 28) a0) := by
  unfold f_H_verdict
  rw [tn_H]
  exact if_neg c
theorem vM_ne {I : Nat → Nat → Int32} {L : Nat → Nat → Int64} {a0 : Int32} (c : ¬ a0 = 7) (n : Nat) : f_Md_verdict_L91 (n + 1) a0 (vS (I 70)) (vP (I 70)) (vM (I 70)) (vF (I 70) (vS (I 70))) 10 I L = some (vN (I 70) a0) := by
  rw [f_Md_verdict_L91, if_pos (by decide)]
  simp only [bnd, if_neg c, vN]
  repeat (split <;> try rfl)
theorem vN_0 (r : Nat → Int32) : vN r 0 = vS r := by simp [vN]
theorem vN_1 (r : Nat → Int32) : vN r 1 = vP r := by simp [vN]
theorem vN_2 (r : Nat → Int32) : vN r 2 = vM r := by simp [vN]
theorem vN_3 (r : Nat → Int32) : vN r 3 = r 0 + r 1 - r 8 - r 9 := by simp [vN]
theorem vN_4 (r : Nat → Int32) : vN r 4 = vF r (vS r) := by simp [vN]
theorem vN_5 (r : Nat → Int32) : vN r 5 = r 12 - r 10 := by simp [vN]
theorem vN_6 (r : Nat → Int32) : vN r 6 = 2 * r 14 - r 0 - r 1 := by simp [vN]
theorem v7_eq {r : Nat → Int32} (h2 : ∀ j, -1000 ≤ r j ∧ r j ≤ 1000) (acc : Int32) : (vb (f_H_isWithin (vN r 6) (-100) 100 = 0) (vb (f_H_isWithin (vN r 5) (-180) 180 = 0) (vb (f_H_isWithin (vN r 4) 0 1000 = 0) (vb (f_H_isWithin (vN r 3) (-120) 160 = 0) (vb (f_H_isWithin (vN r 2) 0 50 = 0) (vb (f_H_isWithin (vN r 1) 0 100 = 0) (vb (f_H_isWithin (vN r 0) (-400) 600 = 0) acc 1) 2) 4) 8) 16) 32) 64) = (vb (f_H_isWithin (2 * r 14 - r 0 - r 1) (-100) 100 = 0) (vb (f_H_isWithin (r 12 - r 10) (-180) 180 = 0) (vb ((1000 : Int32) < vF r (vS r)) (vb (f_H_isWithin (r 0 + r 1 - r 8 - r 9) (-120) 160 = 0) (vb ((50 : Int32) < vM r) (vb ((100 : Int32) < vP r) (vb (f_H_isWithin (vS r) (-400) 600 = 0) acc 1) 2) 4) 8) 16) 32) 64) := by
  simp only [vN_0, vN_1, vN_2, vN_3, vN_4, vN_5, vN_6]
  simp only [vb_iff (wi_hi (h := 100) (vP_0 h2)), vb_iff (wi_hi (h := 50) (vM_0 r)), vb_iff (wi_hi (h := 1000) (vF_0 r (vS r)))]
theorem op_verdict {I : Nat → Nat → Int32} {L : Nat → Nat → Int64} {a0 : Int32} (h : ivR I) : wp (f_H_verdict a0 I L) (fun q => wp (f_Md_verdict a0 I L) (fun q' => q = q')) := by
  obtain ⟨h1, h2⟩ := h
  have hr : I 70 = I 28 := funext fun j => (h1 j).symm
  obtain ⟨n, hn⟩ := f_M2 a0 I L
  by_cases c : a0 = 7
  · subst c
    refine ⟨_, v7_H I L, _, hn.trans (v7_M (I 70) I L rfl n _ _ _ _), ?_⟩
    rw [hr]
    exact v7_eq h2 0
  · refine ⟨_, vH_ne c, _, hn.trans (vM_ne c n), ?_⟩
    rw [hr]

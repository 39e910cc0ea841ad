/-! the movement: a calendar's trip in the class -/
/-- what stands behind a calendar's next day: shown -/
def sd (k m y d : Int32) : Int32 := if f_Ca_length k m y ≤ d then 1 else d + 1
def sm (k m y d : Int32) : Int32 := if f_Ca_length k m y ≤ d then f_Ca_nextMonth m else m
def sy (k m y d : Int32) : Int32 := if f_Ca_length k m y ≤ d then f_Ca_yearBehind (f_Ca_nextMonth m) y else y
section CAC
variable {I J : Nat → Nat → Int32} {L K : Nat → Nat → Int64} {p w : Nat}
theorem caT : ∃ I', f_Ca_advanceTrue p I L = some (I', L) ∧ I' p 10 = sd 3 (I p 11) (I p 12) (I p 10) ∧ I' p 11 = sm 3 (I p 11) (I p 12) (I p 10) ∧ I' p 12 = sy 3 (I p 11) (I p 12) (I p 10) ∧ ∀ a j, ¬ (a = p ∧ (j = 10 ∨ j = 11 ∨ j = 12)) → I' a j = I a j := by
  unfold sd sm sy
  by_cases c : f_Ca_length 3 (I p 11) (I p 12) ≤ I p 10
  · refine ⟨uI (uI (uI I p 10 1) p 11 (f_Ca_nextMonth (I p 11))) p 12 (f_Ca_yearBehind (f_Ca_nextMonth (I p 11)) (I p 12)), ?_, by simp [uI, c], by simp [uI, c], by simp [uI, c], fun a j h => ?_⟩
    · rw [f_Ca_advanceTrue]
      simp only [bnd]
      rw [if_pos c]
      simp [uI]
    · simp only [uI]
      rw [if_neg, if_neg, if_neg]
      · exact fun q => h ⟨q.1, Or.inl q.2⟩
      · exact fun q => h ⟨q.1, Or.inr (Or.inl q.2)⟩
      · exact fun q => h ⟨q.1, Or.inr (Or.inr q.2)⟩
  · refine ⟨uI I p 10 (I p 10 + 1), ?_, by simp [uI, c], by simp [uI, c], by simp [uI, c], fun a j h => ?_⟩
    · rw [f_Ca_advanceTrue]
      simp only [bnd]
      rw [if_neg c]
    · simp only [uI]
      rw [if_neg]
      exact fun q => h ⟨q.1, Or.inl q.2⟩
theorem caS : ∃ I', f_Ca_advanceShown p I L = some (I', L) ∧ I' p 6 = sd (I p 2) (I p 7) (I p 8) (I p 6) ∧ I' p 7 = sm (I p 2) (I p 7) (I p 8) (I p 6) ∧ I' p 8 = sy (I p 2) (I p 7) (I p 8) (I p 6) ∧ I' p 9 = (if 6 ≤ I p 9 then 0 else I p 9 + 1) ∧ ∀ a j, ¬ (a = p ∧ (j = 6 ∨ j = 7 ∨ j = 8 ∨ j = 9)) → I' a j = I a j := by
  have key : ∀ z : Int32, ∃ I', f_Ca_advanceShown_L20 p p p z I L = some (I', L) ∧ I' p 6 = sd (I p 2) (I p 7) (I p 8) (I p 6) ∧ I' p 7 = sm (I p 2) (I p 7) (I p 8) (I p 6) ∧ I' p 8 = sy (I p 2) (I p 7) (I p 8) (I p 6) ∧ I' p 9 = z ∧ ∀ a j, ¬ (a = p ∧ (j = 6 ∨ j = 7 ∨ j = 8 ∨ j = 9)) → I' a j = I a j := by
    intro z
    unfold sd sm sy
    have u2 : (uI I p 9 z) p 2 = I p 2 := by simp [uI]
    have u6 : (uI I p 9 z) p 6 = I p 6 := by simp [uI]
    have u7 : (uI I p 9 z) p 7 = I p 7 := by simp [uI]
    have u8 : (uI I p 9 z) p 8 = I p 8 := by simp [uI]
    by_cases c : f_Ca_length (I p 2) (I p 7) (I p 8) ≤ I p 6
    · refine ⟨uI (uI (uI (uI I p 9 z) p 6 1) p 7 (f_Ca_nextMonth (I p 7))) p 8 (f_Ca_yearBehind (f_Ca_nextMonth (I p 7)) (I p 8)), ?_, by simp [uI, c], by simp [uI, c], by simp [uI, c], by simp [uI], fun a j h => ?_⟩
      · rw [f_Ca_advanceShown_L20]
        simp only [bnd]
        rw [u2, u6, u7, u8, if_pos c]
        simp [uI]
      · simp only [uI]
        rw [if_neg, if_neg, if_neg, if_neg]
        · exact fun q => h ⟨q.1, Or.inr (Or.inr (Or.inr q.2))⟩
        · exact fun q => h ⟨q.1, Or.inl q.2⟩
        · exact fun q => h ⟨q.1, Or.inr (Or.inl q.2)⟩
        · exact fun q => h ⟨q.1, Or.inr (Or.inr (Or.inl q.2))⟩
    · refine ⟨uI (uI I p 9 z) p 6 (I p 6 + 1), ?_, by simp [uI, c], by simp [uI, c], by simp [uI, c], by simp [uI], fun a j h => ?_⟩
      · rw [f_Ca_advanceShown_L20]
        simp only [bnd]
        rw [u2, u6, u7, u8, if_neg c]
      · simp only [uI]
        rw [if_neg, if_neg]
        · exact fun q => h ⟨q.1, Or.inr (Or.inr (Or.inr q.2))⟩
        · exact fun q => h ⟨q.1, Or.inl q.2⟩
  rw [f_Ca_advanceShown]
  by_cases c : 6 ≤ I p 9
  · rw [if_pos c, if_pos c]; exact key 0
  · rw [if_neg c, if_neg c]; exact key _
theorem caA : ∃ I', f_Ca_advance p I L = some (I', L) ∧ (I' p 6 = sd (I p 2) (I p 7) (I p 8) (I p 6) ∧ I' p 7 = sm (I p 2) (I p 7) (I p 8) (I p 6) ∧ I' p 8 = sy (I p 2) (I p 7) (I p 8) (I p 6) ∧ I' p 9 = (if 6 ≤ I p 9 then 0 else I p 9 + 1)) ∧ (I' p 10 = sd 3 (I p 11) (I p 12) (I p 10) ∧ I' p 11 = sm 3 (I p 11) (I p 12) (I p 10) ∧ I' p 12 = sy 3 (I p 11) (I p 12) (I p 10)) ∧ I' p 13 = (if I' p 6 = I' p 10 ∧ I' p 7 = I' p 11 then I p 13 else I p 13 + 1) ∧ ∀ a j, ¬ (a = p ∧ 6 ≤ j ∧ j ≤ 13) → I' a j = I a j := by
  obtain ⟨I1, e1, a1, a2, a3, a4⟩ := caT (I := I) (L := L) (p := p)
  obtain ⟨I2, e2, b1, b2, b3, b4, b5⟩ := caS (I := I1) (L := L) (p := p)
  rw [a4 p 2 (by simp), a4 p 7 (by simp), a4 p 8 (by simp), a4 p 6 (by simp)] at b1 b2 b3
  rw [a4 p 9 (by simp)] at b4
  have c1 : I2 p 10 = I1 p 10 := b5 p 10 (by simp)
  have c2 : I2 p 11 = I1 p 11 := b5 p 11 (by simp)
  have c3 : I2 p 12 = I1 p 12 := b5 p 12 (by simp)
  have c4 : I2 p 13 = I p 13 := by rw [b5 p 13 (by simp), a4 p 13 (by simp)]
  have oth : ∀ a j, ¬ (a = p ∧ 6 ≤ j ∧ j ≤ 13) → I2 a j = I a j := fun a j h => by
    rw [b5 a j (fun q => h ⟨q.1, by omega⟩), a4 a j (fun q => h ⟨q.1, by omega⟩)]
  by_cases d : I2 p 6 = I2 p 10 ∧ I2 p 7 = I2 p 11
  · refine ⟨I2, ?_, ⟨b1, b2, b3, b4⟩, ⟨by rw [c1, a1], by rw [c2, a2], by rw [c3, a3]⟩, by rw [if_pos d, c4], oth⟩
    rw [f_Ca_advance, e1, Option.bind_some]
    simp only []
    rw [e2, Option.bind_some]
    simp only []
    rw [if_pos d.1, if_pos d.2]
  · have g : ∀ i, i ≠ 13 → (uI I2 p 13 (I2 p 13 + 1)) p i = I2 p i := fun i hi => by simp [uI, hi]
    refine ⟨uI I2 p 13 (I2 p 13 + 1), ?_, ⟨by rw [g 6 (by decide), b1], by rw [g 7 (by decide), b2], by rw [g 8 (by decide), b3], by rw [g 9 (by decide), b4]⟩, ⟨by rw [g 10 (by decide), c1, a1], by rw [g 11 (by decide), c2, a2], by rw [g 12 (by decide), c3, a3]⟩, ?_, fun a j h => ?_⟩
    · rw [f_Ca_advance, e1, Option.bind_some]
      simp only []
      rw [e2, Option.bind_some]
      simp only []
      by_cases d1 : I2 p 6 = I2 p 10
      · rw [if_pos d1, if_neg (fun q => d ⟨d1, q⟩)]
      · rw [if_neg d1]
    · rw [g 6 (by decide), g 10 (by decide), g 7 (by decide), g 11 (by decide), if_neg d]
      simp [uI, c4]
    · rw [← oth a j h]
      simp only [uI]
      rw [if_neg]
      exact fun q => h ⟨q.1, by omega⟩
end CAC

/-! the movement: works; a strike, both -/
def wDi (p w : Nat) (I J : Nat → Nat → Int32) : Prop := J 42 w = 0 ∧ ∃ a b : Nat, (a < b ∧ 2 ≤ b ∧ b ≤ 1000) ∧ I p 2 = jN b ∧ J 45 w = jN b ∧ I p 3 = jN a ∧ J 48 (10 * w) = jN a
def wCa (p w : Nat) (I J : Nat → Nat → Int32) : Prop := J 42 w = 1 ∧ (I p 2 = J 44 w ∧ (J 44 w = 0 ∨ J 44 w = 1 ∨ J 44 w = 2 ∨ J 44 w = 3)) ∧ (I p 6 = J 48 (10 * w) ∧ I p 7 = J 48 (10 * w + 1) ∧ I p 8 = J 48 (10 * w + 2) ∧ I p 9 = J 48 (10 * w + 3)) ∧ (∃ M Y V : Nat, (1 ≤ M ∧ M ≤ 12) ∧ (1 ≤ Y ∧ Y ≤ 9999) ∧ V ≤ 6 ∧ I p 7 = jN M ∧ I p 8 = jN Y ∧ I p 9 = jN V) ∧ DAY (J 48 (10 * w + 4)) (I p 10) (I p 11) (I p 12) ∧ I p 13 = J 48 (10 * w + 5) ∧ (J 44 w = 3 → J 48 (10 * w + 7) = 0 → I p 6 = I p 10 ∧ I p 7 = I p 11 ∧ I p 8 = I p 12) ∧ DAY (J 46 w) (I p 3) (I p 4) (I p 5)
def wSt (_ : Nat → Nat → Option Nat) (p w : Nat) (I J : Nat → Nat → Int32) : Prop := J 42 w = 2 ∧ I p 2 = J 44 w ∧ (I p 2 = 0 ∨ I p 2 = 1) ∧ (I p 7 = 0 ∨ I p 7 = 1) ∧ (I p 5 = J 48 (10 * w) ∧ I p 6 = J 48 (10 * w + 1) ∧ I p 7 = J 48 (10 * w + 2)) ∧ ∃ a b : Nat, (1 ≤ a ∧ a ≤ 12) ∧ (1 ≤ b ∧ b ≤ 12) ∧ I p 5 = jN a ∧ I p 6 = jN b
def WR (S : List xSh) (Rf : Nat → Nat → Option Nat) (A p w : Nat) (I J : Nat → Nat → Int32) : Prop := (∃ a, a < A ∧ I p 0 = jN a ∧ J 43 w = jN a) ∧ I p 1 = J 48 (10 * w + 6) ∧ ((S[p]? = some (.inl 4) ∧ wDi p w I J) ∨ (S[p]? = some (.inl 1) ∧ wCa p w I J) ∨ (S[p]? = some (.inl 8) ∧ wSt Rf p w I J))
/-- the rows of strikes -/
def STK (kb : Nat) (I J : Nat → Nat → Int32) : Prop := ∃ k, k ≤ kb ∧ I 13 3 = jN k ∧ J 34 40 = jN k ∧ I 13 0 = 3 ∧ I 13 1 = 1000 ∧ ∀ j, j < 3 * k → j < 3000 → I 14 j = J 54 j
def FI (p : Nat) (I I' : Nat → Nat → Int32) : Prop := ∀ a j, a ≠ p → a ≠ 14 → ¬ (a = 13 ∧ j = 3) → I' a j = I a j
def FJ (w : Nat) (J J' : Nat → Nat → Int32) : Prop := ∀ a j, ¬ (a = 48 ∧ 10 * w ≤ j ∧ j < 10 * w + 10) → a ≠ 54 → ¬ (a = 34 ∧ (j = 40 ∨ j = 45 ∨ j = 46 ∨ j = 47)) → J' a j = J a j
theorem STK_w {kb kb' : Nat} {I J : Nat → Nat → Int32} (h : STK kb I J) (hk : kb ≤ kb') : STK kb' I J := by
  obtain ⟨k, h1, h2⟩ := h
  exact ⟨k, by omega, h2⟩
theorem STK_ext {kb : Nat} {I J I' J' : Nat → Nat → Int32} (h : STK kb I J) (e1 : I' 13 3 = I 13 3) (e2 : I' 13 0 = I 13 0) (e3 : I' 13 1 = I 13 1) (e4 : J' 34 40 = J 34 40) (e5 : ∀ j, I' 14 j = I 14 j) (e6 : ∀ j, J' 54 j = J 54 j) : STK kb I' J' := by
  obtain ⟨k, h1, h2, h3, h4, h5, h6⟩ := h
  exact ⟨k, h1, by rw [e1, h2], by rw [e4, h3], by rw [e2, h4], by rw [e3, h5], fun j a b => by rw [e5, e6]; exact h6 j a b⟩
/-- a row of strikes is told -/
def tlS (a0 x : Int32) (I : Nat → Nat → Int32) (L : Nat → Nat → Int64) : Option (Int32 × (Nat → Nat → Int32) × (Nat → Nat → Int64)) := (f_Ro_open_13 I L).bind fun q3 => (f_Ro_write_13 q3.1 (0 : Int32) (q3.2.1 1 12) q3.2.1 q3.2.2).bind fun q5 => (f_Ro_write_13 q3.1 (1 : Int32) a0 q5.1 q5.2).bind fun q7 => (f_Ro_write_13 q3.1 (2 : Int32) x q7.1 q7.2).bind fun q9 => some (x, q9.1, q9.2)
theorem tlS_of (a0 : Int32) (p : Nat) (I : Nat → Nat → Int32) (L : Nat → Nat → Int64) : f_H_tellStrike_S a0 p I L = (f_St_sound p I L).bind fun q1 => tlS a0 q1.1 q1.2.1 q1.2.2 := rfl
section SND
variable {S : List xSh} {Rf : Nat → Nat → Option Nat} {I J : Nat → Nat → Int32} {L K : Nat → Nat → Int64} {p w n kb : Nat}
theorem snd0 {x : Int32} (hw : w < 8) (hi : I 1 12 = jN n) (hn : J 34 25 = jN n) (hs : STK kb I J) (hkb : kb < 3000000) : ∃ I' J', tlS (jN w) x I L = some (x, I', L) ∧ f_Md_strikes_L45 (jN w) x J K = some (x, J', K) ∧ STK (kb + 1) I' J' ∧ (∀ a j, a ≠ 14 → ¬ (a = 13 ∧ j = 3) → I' a j = I a j) ∧ ∀ a j, a ≠ 54 → ¬ (a = 34 ∧ j = 40) → J' a j = J a j := by
  obtain ⟨k, k1, k2, k3, k4, k5, k6⟩ := hs
  by_cases c : k < 1000
  · have c1 : ¬ (1000 : Int32) < jN (k + 1) := fun q => by have := (jN_lt (a := 1000) (by decide) (by omega)).mp q; omega
    have c2 : ¬ (1000 : Int32) ≤ jN k := fun q => by have := (jN_le (a := 1000) (by decide) (by omega)).mp q; omega
    have e1 : jN (k + 1) - 1 = jN k := jN_sub (a := k + 1) (b := 1) (by omega)
    have d1 : ¬ jN k < 0 := fun q => by have := (jN_lt (b := 0) (by omega) (by decide)).mp q; omega
    have f0 : jN k * 3 + 0 = jN (k * 3 + 0) := j3 k 0
    have f1 : jN k * 3 + 1 = jN (k * 3 + 1) := j3 k 1
    have f2 : jN k * 3 + 2 = jN (k * 3 + 2) := j3 k 2
    have g0 : 3 * jN k = jN (k * 3) := by have := jN_mul 3 k; rw [Nat.mul_comm k 3, ← this]; rfl
    have g1 : jN (k * 3) + 1 = jN (k * 3 + 1) := jN_1 _
    have g2 : jN (k * 3) + 2 = jN (k * 3 + 2) := jN_add _ 2
    have r0 : 0 ≤ jN (k * 3 + 0) ∧ jN (k * 3 + 0) < 3000 := jN_in (n := 3000) (by omega) (by decide)
    have r0' : 0 ≤ jN (k * 3) ∧ jN (k * 3) < 3000 := jN_in (n := 3000) (by omega) (by decide)
    have r1 : 0 ≤ jN (k * 3 + 1) ∧ jN (k * 3 + 1) < 3000 := jN_in (n := 3000) (by omega) (by decide)
    have r2 : 0 ≤ jN (k * 3 + 2) ∧ jN (k * 3 + 2) < 3000 := jN_in (n := 3000) (by omega) (by decide)
    have nr : ∀ {y : Int32}, 0 ≤ y ∧ y < 3000 → ¬ (3000 : Int32) ≤ y := fun h q => Int32.lt_irrefl (Int32.lt_of_lt_of_le h.2 q)
    refine ⟨uI (uI (uI (uI I 13 3 (jN (k + 1))) 14 (k * 3) (jN n)) 14 (k * 3 + 1) (jN w)) 14 (k * 3 + 2) x, uI (uI (uI (uI J 54 (k * 3) (jN n)) 54 (k * 3 + 1) (jN w)) 54 (k * 3 + 2) x) 34 40 (jN (k + 1)), ?_, ?_, ?_, fun a j h1 h2 => ?_, fun a j h1 h2 => ?_⟩
    · have w0 : (uI I 13 3 (jN (k + 1))) 13 0 = 3 := by simp [uI, k4]
      have w1 : ∀ y, (uI (uI I 13 3 (jN (k + 1))) 14 (k * 3 + 0) y) 13 0 = 3 := fun y => by simp [uI, k4]
      have w2 : ∀ y z, (uI (uI (uI I 13 3 (jN (k + 1))) 14 (k * 3 + 0) y) 14 (k * 3 + 1) z) 13 0 = 3 := fun y z => by simp [uI, k4]
      have w3 : (uI I 13 3 (jN (k + 1))) 1 12 = jN n := by simp [uI, hi]
      rw [tlS, f_Ro_open_13]
      simp only [bnd]
      rw [k2, jN_1, k5, if_neg c1, e1, Option.bind_some]
      simp only []
      rw [f_Ro_write_13]
      simp only [bnd]
      rw [w0, w3, f0, if_neg d1, if_neg (by decide), if_neg (by decide), if_neg (nr r0), if_pos r0, jN_tc (by omega), Option.bind_some]
      simp only []
      rw [f_Ro_write_13]
      simp only [bnd]
      rw [w1, f1, if_neg d1, if_neg (by decide), if_neg (by decide), if_neg (nr r1), if_pos r1, jN_tc (by omega), Option.bind_some]
      simp only []
      rw [f_Ro_write_13]
      simp only [bnd]
      rw [w2, f2, if_neg d1, if_neg (by decide), if_neg (by decide), if_neg (nr r2), if_pos r2, jN_tc (by omega), Option.bind_some]
      simp only [Nat.add_zero]
    · rw [f_Md_strikes_L45, k3, if_neg c2]
      simp only [bnd]
      rw [g0, if_pos r0', g1, if_pos r1, g2, if_pos r2, jN_1, hn, jN_tc (by omega), jN_tc (by omega), jN_tc (by omega)]
    · refine ⟨k + 1, by omega, by simp [uI], by simp [uI], by simp [uI, k4], by simp [uI, k5], fun j hj hj2 => ?_⟩
      by_cases q2 : j = k * 3 + 2
      · subst q2; simp [uI]
      · by_cases q1 : j = k * 3 + 1
        · subst q1; simp [uI]
        · by_cases q0 : j = k * 3
          · subst q0; simp [uI]
          · simp [uI, q0, q1, q2]
            exact k6 j (by omega) hj2
    · simp [uI, h1]
      intro q
      exact fun q2 => absurd ⟨q, q2⟩ h2
    · simp [uI, h1]
      intro q
      exact fun q2 => absurd ⟨q, q2⟩ h2
  · have c1 : (1000 : Int32) < jN (k + 1) := (jN_lt (a := 1000) (by decide) (by omega)).mpr (by omega)
    have c2 : (1000 : Int32) ≤ jN k := (jN_le (a := 1000) (by decide) (by omega)).mpr (by omega)
    refine ⟨uI I 13 3 (jN (k + 1)), uI J 34 40 (jN (k + 1)), ?_, ?_, ?_, fun a j h1 h2 => by simp only [uI]; rw [if_neg h2], fun a j h1 h2 => by simp only [uI]; rw [if_neg h2]⟩
    · have wn : ∀ a1 a2 I L, f_Ro_write_13 (-1) a1 a2 I L = some (I, L) := by
        intro a1 a2 I L
        rw [f_Ro_write_13]
        simp only [bnd]
        rw [if_pos (by decide)]
      rw [tlS, f_Ro_open_13]
      simp only [bnd]
      rw [k2, jN_1, k5, if_pos c1, Option.bind_some]
      simp only []
      rw [wn, Option.bind_some]
      simp only []
      rw [wn, Option.bind_some]
      simp only []
      rw [wn, Option.bind_some]
    · rw [f_Md_strikes_L45, k3, if_pos c2]
      simp only [bnd]
      rw [jN_1]
    · refine ⟨k + 1, by omega, by simp [uI], by simp [uI], by simp [uI, k4], by simp [uI, k5], fun j hj hj2 => ?_⟩
      simp [uI]
      exact k6 j (by omega) hj2
end SND

/-! the movement: a step of the balance, both -/
def DY (n s : Nat) (I J : Nat → Nat → Int32) : Prop := (n ≤ s ∧ s ≤ 200000) ∧ (I 1 12 = jN n ∧ J 34 25 = jN n ∧ I 9 3 = jN n) ∧ (I 1 11 = jN s ∧ J 34 26 = jN s) ∧ (I 1 8 = J 34 27 ∧ -10000000 ≤ I 1 8 ∧ I 1 8 ≤ 10000000) ∧ (I 1 9 = J 34 28 ∧ -1000000 ≤ I 1 9 ∧ I 1 9 ≤ 1000000) ∧ (I 1 10 = J 34 29 ∧ (I 1 10 = 1 ∨ I 1 10 = -1)) ∧ I 1 13 = J 34 30 ∧ I 1 14 = J 34 31 ∧ (I 9 0 = 2 ∧ I 9 1 = 3000) ∧ ∀ j, j < 2 * n → j < 6000 → I 10 j = J 53 j
def CB (I J : Nat → Nat → Int32) : Prop := (I 1 1 = J 34 10 ∧ I 1 2 = J 34 11 ∧ I 1 3 = J 34 12 ∧ I 1 4 = J 34 13) ∧ (0 ≤ I 1 2 ∧ I 1 2 ≤ 1000) ∧ 1 ≤ I 1 4 ∧ I 1 4 ≤ 10000000
/-- the torque, whatever the balance does -/
def TQI (t : Int32) (I J : Nat → Nat → Int32) (L K : Nat → Nat → Int64) : Prop := ∀ I' J' : Nat → Nat → Int32, I' 1 5 = I 1 5 → I' 1 12 = I 1 12 → (∀ j, I' 8 j = I 8 j) → J' 34 14 = J 34 14 → J' 34 25 = J 34 25 → J' 34 9 = J 34 9 → (∀ j, J' 57 j = J 57 j) → (∀ j, J' 41 j = J 41 j) → f_Es_torqueNow I' L = some t ∧ f_Md_torqueNow J' K = some t
section STP
variable {I J : Nat → Nat → Int32} {L K : Nat → Nat → Int64} {n s : Nat}
theorem tqi_of {t : Int32} (h1 : f_Es_torqueNow I L = some t) (h2 : f_Md_torqueNow J K = some t) : TQI t I J L K := by
  intro I' J' e1 e2 e3 e4 e5 e6 e7 e8
  refine ⟨?_, ?_⟩
  · rw [← h1]
    simp only [f_Es_torqueNow, f_Es_letDown, f_Ge_turned, e1, e2, e3]
  · rw [← h2]
    simp only [f_Md_torqueNow, f_Md_hasBarrel, f_Md_isKnown, f_Md_letDown, e4, e5, e6, e7, e8]
theorem beatC {t : Int32} (h1 : I 1 12 = jN n) (h2 : I 9 3 = jN n) (h3 : I 9 0 = 2) (h4 : I 9 1 = 3000) (hn : n < 200000) : f_Es_beat t I L = some ((if n < 3000 then uI (uI (uI (uI (uI (uI (uI I 1 10 (-(I 1 10))) 1 9 (f_Es_held (if I 1 9 ≤ 0 then (I 1 9).toInt64 - ((t.toInt64 * (I 1 3).toInt64) >>> ((16 : Int32).toInt64 &&& 63)) else (I 1 9).toInt64 + ((t.toInt64 * (I 1 3).toInt64) >>> ((16 : Int32).toInt64 &&& 63))))) 1 12 (jN (n + 1))) 9 3 (jN (n + 1))) 10 (2 * n) (I 1 11)) 10 (2 * n + 1) (I 1 14)) 1 14 0 else uI (uI (uI (uI (uI I 1 10 (-(I 1 10))) 1 9 (f_Es_held (if I 1 9 ≤ 0 then (I 1 9).toInt64 - ((t.toInt64 * (I 1 3).toInt64) >>> ((16 : Int32).toInt64 &&& 63)) else (I 1 9).toInt64 + ((t.toInt64 * (I 1 3).toInt64) >>> ((16 : Int32).toInt64 &&& 63))))) 1 12 (jN (n + 1))) 9 3 (jN (n + 1))) 1 14 0), L) := by
  have key : ∀ z : Int64, f_Es_beat_L46 z (uI I 1 10 (-(I 1 10))) L = some ((if n < 3000 then uI (uI (uI (uI (uI (uI (uI I 1 10 (-(I 1 10))) 1 9 (f_Es_held z)) 1 12 (jN (n + 1))) 9 3 (jN (n + 1))) 10 (2 * n) (I 1 11)) 10 (2 * n + 1) (I 1 14)) 1 14 0 else uI (uI (uI (uI (uI I 1 10 (-(I 1 10))) 1 9 (f_Es_held z)) 1 12 (jN (n + 1))) 9 3 (jN (n + 1))) 1 14 0), L) := by
    intro z
    have u1 : ∀ w, (uI (uI (uI I 1 10 (-(I 1 10))) 1 9 (f_Es_held z)) 1 12 w) 9 3 = jN n := fun w => by simp [uI, h2]
    have u2 : ∀ w, (uI (uI (uI I 1 10 (-(I 1 10))) 1 9 (f_Es_held z)) 1 12 w) 9 1 = 3000 := fun w => by simp [uI, h4]
    have u3 : (uI I 1 10 (-(I 1 10))) 1 12 = jN n := by simp [uI, h1]
    rw [f_Es_beat_L46]
    simp only [bnd]
    rw [u3, jN_1, f_Ro_open_9]
    simp only [bnd]
    rw [u1, u2, jN_1]
    by_cases c : n < 3000
    · have c1 : ¬ (3000 : Int32) < jN (n + 1) := fun q => by have := (jN_lt (a := 3000) (by decide) (by omega)).mp q; omega
      have e1 : jN (n + 1) - 1 = jN n := jN_sub (a := n + 1) (b := 1) (by omega)
      have d1 : ¬ jN n < 0 := fun q => by have := (jN_lt (b := 0) (by omega) (by decide)).mp q; omega
      have e2 : jN n * 2 + 0 = jN (2 * n) := by
        have := jN_mul n 2
        rw [Int32.add_zero, show (2 : Int32) = jN 2 from rfl, this, Nat.mul_comm]
      have e3 : jN n * 2 + 1 = jN (2 * n + 1) := by
        have := jN_mul n 2
        rw [show (2 : Int32) = jN 2 from rfl, this, jN_1, Nat.mul_comm]
      have d2 : ¬ (6000 : Int32) ≤ jN (2 * n) := fun q => by have := (jN_le (a := 6000) (by decide) (by omega)).mp q; omega
      have d3 : ¬ (6000 : Int32) ≤ jN (2 * n + 1) := fun q => by have := (jN_le (a := 6000) (by decide) (by omega)).mp q; omega
      have d4 : 0 ≤ jN (2 * n) ∧ jN (2 * n) < 6000 := jN_in (n := 6000) (by omega) (by decide)
      have d5 : 0 ≤ jN (2 * n + 1) ∧ jN (2 * n + 1) < 6000 := jN_in (n := 6000) (by omega) (by decide)
      rw [if_neg c1, Option.bind_some, e1]
      simp only []
      have w0 : ∀ w, (uI (uI (uI (uI I 1 10 (-(I 1 10))) 1 9 (f_Es_held z)) 1 12 (jN (n + 1))) 9 3 w) 9 0 = 2 := fun w => by simp [uI, h3]
      rw [f_Ro_write_9]
      simp only [bnd]
      rw [w0, e2, if_neg d1, if_neg (by decide), if_neg (by decide), if_neg d2, if_pos d4, Option.bind_some, jN_tc (by omega)]
      simp only []
      have w1 : ∀ w j y, (uI (uI (uI (uI (uI I 1 10 (-(I 1 10))) 1 9 (f_Es_held z)) 1 12 (jN (n + 1))) 9 3 w) 10 j y) 9 0 = 2 := fun w j y => by simp [uI, h3]
      rw [f_Ro_write_9]
      simp only [bnd]
      rw [w1, e3, if_neg d1, if_neg (by decide), if_neg (by decide), if_neg d3, if_pos d5, Option.bind_some, jN_tc (by omega), if_pos c]
      simp [uI]
    · have c1 : (3000 : Int32) < jN (n + 1) := (jN_lt (a := 3000) (by decide) (by omega)).mpr (by omega)
      rw [if_pos c1, Option.bind_some]
      simp only []
      rw [f_Ro_write_9]
      simp only [bnd]
      rw [if_pos (by decide), Option.bind_some]
      simp only []
      rw [f_Ro_write_9]
      simp only [bnd]
      rw [if_pos (by decide), Option.bind_some, if_neg c]
  rw [f_Es_beat]
  simp only [bnd]
  by_cases c : I 1 9 ≤ 0
  · rw [if_pos c, if_pos c, key]
  · rw [if_neg c, if_neg c, key]
theorem beatM {t : Int64} (h1 : J 34 25 = jN n) (hn : n < 200000) : f_Md_step_L235 t J K = ((f_Md_ticked (if n < 3000 then uI (uI (uI (uI (uI (uI J 34 29 (-(J 34 29))) 34 28 (f_Es_held (if J 34 28 ≤ 0 then (J 34 28).toInt64 - ((t * (J 34 12).toInt64) >>> ((16 : Int32).toInt64 &&& 63)) else (J 34 28).toInt64 + ((t * (J 34 12).toInt64) >>> ((16 : Int32).toInt64 &&& 63))))) 34 25 (jN (n + 1))) 53 (2 * n) (J 34 26)) 53 (2 * n + 1) (J 34 31)) 34 31 0 else uI (uI (uI (uI J 34 29 (-(J 34 29))) 34 28 (f_Es_held (if J 34 28 ≤ 0 then (J 34 28).toInt64 - ((t * (J 34 12).toInt64) >>> ((16 : Int32).toInt64 &&& 63)) else (J 34 28).toInt64 + ((t * (J 34 12).toInt64) >>> ((16 : Int32).toInt64 &&& 63))))) 34 25 (jN (n + 1))) 34 31 0) K).bind fun q => some (1, q.1, q.2)) := by
  have key : ∀ z : Int64, f_Md_step_L280 z (uI J 34 29 (-(J 34 29))) K = ((f_Md_ticked (if n < 3000 then uI (uI (uI (uI (uI (uI J 34 29 (-(J 34 29))) 34 28 (f_Es_held z)) 34 25 (jN (n + 1))) 53 (2 * n) (J 34 26)) 53 (2 * n + 1) (J 34 31)) 34 31 0 else uI (uI (uI (uI J 34 29 (-(J 34 29))) 34 28 (f_Es_held z)) 34 25 (jN (n + 1))) 34 31 0) K).bind fun q => some (1, q.1, q.2)) := by
    intro z
    have u1 : (uI (uI J 34 29 (-(J 34 29))) 34 28 (f_Es_held z)) 34 25 = jN n := by simp [uI, h1]
    have u2 : (uI (uI J 34 29 (-(J 34 29))) 34 28 (f_Es_held z)) 34 26 = J 34 26 := by simp [uI]
    have u3 : (uI (uI J 34 29 (-(J 34 29))) 34 28 (f_Es_held z)) 34 31 = J 34 31 := by simp [uI]
    rw [f_Md_step_L280, sV, Option.bind_some]
    simp only [bnd]
    rw [u1, jN_1, u2, u3]
    by_cases c : n < 3000
    · have c1 : ¬ (3000 : Int32) < jN (n + 1) := fun q => by have := (jN_lt (a := 3000) (by decide) (by omega)).mp q; omega
      have e1 : 2 * jN (n + 1) - 2 = jN (2 * n) := by
        have := jN_mul 2 (n + 1)
        rw [show (2 : Int32) = jN 2 from rfl, this, jN_sub (by omega), show 2 * (n + 1) - 2 = 2 * n by omega]
      have e2 : 2 * jN (n + 1) - 1 = jN (2 * n + 1) := by
        have := jN_mul 2 (n + 1)
        rw [show (2 : Int32) = jN 2 from rfl, show (1 : Int32) = jN 1 from rfl, this, jN_sub (by omega), show 2 * (n + 1) - 1 = 2 * n + 1 by omega]
      have d4 : 0 ≤ jN (2 * n) ∧ jN (2 * n) < 6000 := jN_in (n := 6000) (by omega) (by decide)
      have d5 : 0 ≤ jN (2 * n + 1) ∧ jN (2 * n + 1) < 6000 := jN_in (n := 6000) (by omega) (by decide)
      rw [if_neg c1, e1, e2, if_pos d4, if_pos d5, jN_tc (by omega), jN_tc (by omega), f_Md_step_L337, if_pos c]
    · have c1 : (3000 : Int32) < jN (n + 1) := (jN_lt (a := 3000) (by decide) (by omega)).mpr (by omega)
      rw [if_pos c1, f_Md_step_L337, if_neg c]
  rw [f_Md_step_L235]
  simp only [bnd]
  by_cases c : J 34 28 ≤ 0
  · rw [if_pos c, if_pos c, key]
  · rw [if_neg c, if_neg c, key]
end STP

/-! the movement: days -/
theorem jN_div {a b : Nat} (ha : a < 2147483648) (hb : b < 2147483648) : jN a / jN b = jN (a / b) := by
  have h : a / b ≤ a := Nat.div_le_self _ _
  have e : ((a : Int).tdiv (b : Int)) = ((a / b : Nat) : Int) := rfl
  rw [← Int32.toInt_inj, Int32.toInt_div, jN_toInt ha, jN_toInt hb, e, jN_toInt (by omega)]
  generalize a / b = q at *
  exact Int.bmod_eq_of_le (by omega) (by omega)
theorem jN_rem {a b : Nat} (ha : a < 2147483648) (hb : b < 2147483648) : irem (jN a) (jN b) = jN (a % b) := by
  unfold irem
  have h := Nat.div_add_mod a b
  rw [jN_div ha hb, jN_mul, jN_sub (by rw [Nat.mul_comm]; omega), Nat.mul_comm]
  congr 1
  omega
def tl (M Y : Nat) : Nat := if M = 2 then (if Y % 4 = 0 then (if Y % 100 = 0 then (if Y % 400 = 0 then 29 else 28) else 29) else 28) else if M = 4 then 30 else if M = 6 then 30 else if M = 9 then 30 else if M = 11 then 30 else 31
def dB (Y : Nat) : Nat := 365 * (Y - 1) + (Y - 1) / 4 - (Y - 1) / 100 + (Y - 1) / 400
def cm (Y : Nat) : Nat → Nat
  | 0 => 0
  | M + 1 => cm Y M + if M = 0 then 0 else tl M Y
theorem tl_bd (M Y : Nat) : 28 ≤ tl M Y ∧ tl M Y ≤ 31 := by
  unfold tl
  repeat' split
  all_goals omega
theorem cm_1 (Y : Nat) : cm Y 1 = 0 := rfl
theorem cm_s {Y M : Nat} (h : 1 ≤ M) : cm Y (M + 1) = cm Y M + tl M Y := by
  rw [cm, if_neg (by omega)]
theorem cm_mono {Y : Nat} : ∀ {M M' : Nat}, M ≤ M' → cm Y M ≤ cm Y M' := by
  intro M M' h
  induction M' with
  | zero => have : M = 0 := by omega
            subst this; exact Nat.le_refl _
  | succ k ih =>
    by_cases e : M = k + 1
    · subst e; exact Nat.le_refl _
    · have := ih (by omega)
      rw [cm]
      omega
theorem cm_13 (Y : Nat) : cm Y 13 = 337 + tl 2 Y := by
  simp [cm, tl]
  omega
theorem dv_s (a b : Nat) (hb : 0 < b) : (a + 1) / b = a / b + if (a + 1) % b = 0 then 1 else 0 := by
  rw [Nat.succ_div]
  simp only [Nat.dvd_iff_mod_eq_zero]
theorem dB_s {Y : Nat} (h : 1 ≤ Y) : dB (Y + 1) = dB Y + cm Y 13 := by
  rw [cm_13]
  obtain ⟨a, rfl⟩ : ∃ a, Y = a + 1 := ⟨Y - 1, by omega⟩
  have l4 : a / 100 ≤ a := Nat.div_le_self _ _
  have l5 : (a + 1) / 100 ≤ a + 1 := Nat.div_le_self _ _
  have d1 : (a + 1) % 100 = 0 → (a + 1) % 4 = 0 := by omega
  have d2 : (a + 1) % 400 = 0 → (a + 1) % 100 = 0 := by omega
  unfold dB tl
  rw [if_pos rfl, show a + 1 + 1 - 1 = a + 1 by omega, show a + 1 - 1 = a by omega]
  rw [dv_s a 100 (by decide)] at l5 ⊢
  rw [dv_s a 4 (by decide), dv_s a 400 (by decide)]
  generalize a / 4 = u
  generalize a / 100 = v at *
  generalize a / 400 = w
  by_cases y4 : (a + 1) % 4 = 0
  · by_cases y100 : (a + 1) % 100 = 0
    · by_cases y400 : (a + 1) % 400 = 0
      · simp only [if_pos y4, if_pos y100, if_pos y400] at l5 ⊢; clear d1 d2 y4 y100 y400; omega
      · simp only [if_pos y4, if_pos y100, if_neg y400] at l5 ⊢; clear d1 d2 y4 y100 y400; omega
    · have y400 : ¬ (a + 1) % 400 = 0 := fun q => y100 (d2 q)
      simp only [if_pos y4, if_neg y100, if_neg y400] at l5 ⊢; clear d1 d2 y4 y100 y400; omega
  · have y100 : ¬ (a + 1) % 100 = 0 := fun q => y4 (d1 q)
    have y400 : ¬ (a + 1) % 400 = 0 := fun q => y100 (d2 q)
    simp only [if_neg y4, if_neg y100, if_neg y400] at l5 ⊢; clear d1 d2 y4 y100 y400; omega
theorem dB_mono {Y Y' : Nat} (h : Y ≤ Y') : dB Y ≤ dB Y' := by
  induction Y' with
  | zero => have : Y = 0 := by omega
            subst this; exact Nat.le_refl _
  | succ k ih =>
    by_cases e : Y = k + 1
    · subst e; exact Nat.le_refl _
    · have := ih (by omega)
      by_cases k0 : k = 0
      · subst k0
        have : Y = 0 := by omega
        subst this; decide
      · rw [dB_s (by omega)]
        omega
theorem dB_hi {Y : Nat} (h : 1 ≤ Y) : dB (Y + 1) ≤ 366 * Y := by
  unfold dB
  omega
theorem dB_big {Y : Nat} (h : Y ≤ 10000) : dB Y ≤ 3652059 := by
  have := dB_mono h
  have e : dB 10000 = 3652059 := by decide
  omega
theorem dB_ok {Y : Nat} (h1 : 1 ≤ Y) (h2 : Y ≤ 10000) : f_Md_daysBefore (jN Y) = jN (dB Y) := by
  have e : jN Y - 1 = jN (Y - 1) := jN_sub (b := 1) h1
  unfold f_Md_daysBefore bnd
  show (365 * (jN Y - 1) + (jN Y - 1) / 4 - (jN Y - 1) / 100 + (jN Y - 1) / 400) = _
  rw [e, show (365 : Int32) = jN 365 from rfl, show (4 : Int32) = jN 4 from rfl, show (100 : Int32) = jN 100 from rfl, show (400 : Int32) = jN 400 from rfl, jN_mul, jN_div (by omega) (by decide), jN_div (by omega) (by decide), jN_div (by omega) (by decide), jN_add, jN_sub (by omega), jN_add]
  rfl
theorem mr {Y : Nat} (h2 : Y ≤ 10000) (b : Nat) (hb : b ≤ 1000) : irem (jN Y) (jN b) = 0 ↔ Y % b = 0 := by
  rw [jN_rem (by omega) (by omega)]
  have : Y % b ≤ Y := Nat.mod_le _ _
  exact (jN_inj (b := 0) (by omega) (by decide))
theorem tl_ok {M Y : Nat} (hM : M ≤ 12) (h2 : Y ≤ 10000) : f_Md_trueLength (jN M) (jN Y) = jN (tl M Y) := by
  have i2 : jN M = 2 ↔ M = 2 := jN_inj (b := 2) (by omega) (by decide)
  have i4 : jN M = 4 ↔ M = 4 := jN_inj (b := 4) (by omega) (by decide)
  have i6 : jN M = 6 ↔ M = 6 := jN_inj (b := 6) (by omega) (by decide)
  have i9 : jN M = 9 ↔ M = 9 := jN_inj (b := 9) (by omega) (by decide)
  have i11 : jN M = 11 ↔ M = 11 := jN_inj (b := 11) (by omega) (by decide)
  have r4 : irem (jN Y) 4 = 0 ↔ Y % 4 = 0 := mr h2 4 (by decide)
  have r100 : irem (jN Y) 100 = 0 ↔ Y % 100 = 0 := mr h2 100 (by decide)
  have r400 : irem (jN Y) 400 = 0 ↔ Y % 400 = 0 := mr h2 400 (by decide)
  have n1 : ¬ (1 : Int32) = 0 := by decide
  unfold f_Md_trueLength f_Md_isLeap tl
  simp only [i2, i4, i6, i9, i11, r4, r100, r400]
  by_cases m2 : M = 2
  · simp only [if_pos m2]
    by_cases y4 : Y % 4 = 0
    · by_cases y100 : Y % 100 = 0
      · by_cases y400 : Y % 400 = 0
        · simp only [if_pos y4, if_pos y100, if_pos y400, if_neg n1]; rfl
        · simp only [if_pos y4, if_pos y100, if_neg y400, if_true]; rfl
      · simp only [if_pos y4, if_neg y100, if_neg n1]; rfl
    · simp only [if_neg y4, if_true]; rfl
  · simp only [if_neg m2]
    by_cases m4 : M = 4
    · simp only [if_pos m4]; rfl
    · by_cases m6 : M = 6
      · simp only [if_neg m4, if_pos m6]; rfl
      · by_cases m9 : M = 9
        · simp only [if_neg m4, if_neg m6, if_pos m9]; rfl
        · by_cases m11 : M = 11
          · simp only [if_neg m4, if_neg m6, if_neg m9, if_pos m11]; rfl
          · simp only [if_neg m4, if_neg m6, if_neg m9, if_neg m11]; rfl
/-- the class's lengths are the reference's -/
theorem len_eq {k M Y : Int32} (hk : k = 0 ∨ k = 1 ∨ k = 2 ∨ k = 3) : f_Ca_length k M Y = f_Md_length k M Y := by
  have a0 : ¬ (1 : Int32) = 0 := by decide
  have a1 : ¬ (2 : Int32) = 0 := by decide
  have a2 : ¬ (3 : Int32) = 0 := by decide
  have b1 : ¬ (1 : Int32) = 3 := by decide
  have b2 : ¬ (2 : Int32) = 3 := by decide
  have b3 : ¬ (2 : Int32) = 1 := by decide
  have c1 : ¬ (2 : Int32) ≤ 1 := by decide
  have c2 : ¬ (3 : Int32) ≤ 1 := by decide
  have c3 : (1 : Int32) ≤ 1 := by decide
  have d4 : ¬ (2 : Int32) = 4 := by decide
  have d6 : ¬ (2 : Int32) = 6 := by decide
  have d9 : ¬ (2 : Int32) = 9 := by decide
  have d11 : ¬ (2 : Int32) = 11 := by decide
  unfold f_Ca_length f_Ca_length_L41 f_Ca_length_L42 f_Ca_length_L61 f_Md_length f_Md_length_L23 f_Md_length_L28 f_Md_trueLength f_Md_isLeap
  by_cases m2 : M = 2
  · subst m2
    rcases hk with rfl | rfl | rfl | rfl
    · simp only [if_true, if_neg d4, if_neg d6, if_neg d9, if_neg d11]
    · simp only [if_true, if_neg d4, if_neg d6, if_neg d9, if_neg d11, if_neg a0, if_pos c3, if_neg b1]
    · by_cases y4 : irem Y 4 = 0
      · simp only [if_true, if_neg d4, if_neg d6, if_neg d9, if_neg d11, if_neg a1, if_neg c1, if_neg b2, if_neg b3, if_pos y4]
      · simp only [if_true, if_neg d4, if_neg d6, if_neg d9, if_neg d11, if_neg a1, if_neg c1, if_neg b2, if_neg b3, if_neg y4]
    · by_cases y4 : irem Y 4 = 0
      · by_cases y100 : irem Y 100 = 0
        · by_cases y400 : irem Y 400 = 0
          · simp only [if_true, if_neg d4, if_neg d6, if_neg d9, if_neg d11, if_neg a2, if_neg c2, if_pos y4, if_pos y100, if_pos y400, if_neg a0]
          · simp only [if_true, if_neg d4, if_neg d6, if_neg d9, if_neg d11, if_neg a2, if_neg c2, if_pos y4, if_pos y100, if_neg y400, if_neg a0]
        · simp only [if_true, if_neg d4, if_neg d6, if_neg d9, if_neg d11, if_neg a2, if_neg c2, if_pos y4, if_neg y100, if_neg a0]
      · by_cases y100 : irem Y 100 = 0
        · by_cases y400 : irem Y 400 = 0
          · simp only [if_true, if_neg d4, if_neg d6, if_neg d9, if_neg d11, if_neg a2, if_neg c2, if_neg y4, if_pos y100, if_pos y400, if_neg a0]
          · simp only [if_true, if_neg d4, if_neg d6, if_neg d9, if_neg d11, if_neg a2, if_neg c2, if_neg y4, if_pos y100, if_neg y400, if_neg a0]
        · simp only [if_true, if_neg d4, if_neg d6, if_neg d9, if_neg d11, if_neg a2, if_neg c2, if_neg y4, if_neg y100, if_neg a0]
  · by_cases m4 : M = 4
    · rcases hk with rfl | rfl | rfl | rfl <;> simp only [if_neg m2, if_pos m4, if_true, if_neg a0, if_neg a1, if_neg a2, if_neg b1, if_neg b2]
    · by_cases m6 : M = 6
      · rcases hk with rfl | rfl | rfl | rfl <;> simp only [if_neg m2, if_neg m4, if_pos m6, if_true, if_neg a0, if_neg a1, if_neg a2, if_neg b1, if_neg b2]
      · by_cases m9 : M = 9
        · rcases hk with rfl | rfl | rfl | rfl <;> simp only [if_neg m2, if_neg m4, if_neg m6, if_pos m9, if_true, if_neg a0, if_neg a1, if_neg a2, if_neg b1, if_neg b2]
        · by_cases m11 : M = 11
          · rcases hk with rfl | rfl | rfl | rfl <;> simp only [if_neg m2, if_neg m4, if_neg m6, if_neg m9, if_pos m11, if_true, if_neg a0, if_neg a1, if_neg a2, if_neg b1, if_neg b2]
          · rcases hk with rfl | rfl | rfl | rfl <;> simp only [if_neg m2, if_neg m4, if_neg m6, if_neg m9, if_neg m11, if_true, if_neg a0, if_neg a1, if_neg a2, if_neg b1, if_neg b2]
theorem len_3 {M Y : Int32} : f_Ca_length 3 M Y = f_Md_trueLength M Y := by
  rw [len_eq (by simp)]
  have a2 : ¬ (3 : Int32) = 0 := by decide
  unfold f_Md_length f_Md_length_L23 f_Md_length_L28
  by_cases m4 : M = 4
  · rw [if_pos m4, if_neg a2, if_pos rfl]
  · by_cases m6 : M = 6
    · rw [if_neg m4, if_pos m6, if_neg a2, if_pos rfl]
    · by_cases m9 : M = 9
      · rw [if_neg m4, if_neg m6, if_pos m9, if_neg a2, if_pos rfl]
      · by_cases m11 : M = 11
        · rw [if_neg m4, if_neg m6, if_neg m9, if_pos m11, if_neg a2, if_pos rfl]
        · rw [if_neg m4, if_neg m6, if_neg m9, if_neg m11, if_neg a2, if_pos rfl]
theorem len3 {M Y : Nat} (hM : M ≤ 12) (h2 : Y ≤ 10000) : f_Ca_length 3 (jN M) (jN Y) = jN (tl M Y) := by
  rw [len_3, tl_ok hM h2]

/-! the movement: a day's number and its day, month and year -/
def dN (D M Y : Nat) : Nat := dB Y + cm Y M + (D - 1)
def isD (D M Y : Nat) : Prop := (1 ≤ Y ∧ Y ≤ 9999) ∧ (1 ≤ M ∧ M ≤ 12) ∧ 1 ≤ D ∧ D ≤ tl M Y
def DAY (n d m y : Int32) : Prop := ∃ D M Y : Nat, isD D M Y ∧ d = jN D ∧ m = jN M ∧ y = jN Y ∧ n = jN (dN D M Y)
theorem dN_in {D M Y : Nat} (h : isD D M Y) : dB Y ≤ dN D M Y ∧ dN D M Y < dB (Y + 1) := by
  obtain ⟨⟨y1, y2⟩, ⟨m1, m2⟩, d1, d2⟩ := h
  have h1 := cm_s (Y := Y) m1
  have h2 : cm Y (M + 1) ≤ cm Y 13 := cm_mono (by omega)
  unfold dN
  rw [dB_s y1]
  omega
theorem dN_big {D M Y : Nat} (h : isD D M Y) : dN D M Y < 3652059 := by
  have := (dN_in h).2
  have := dB_big (Y := Y + 1) (by have := h.1.2; omega)
  omega
theorem sp62 {L : Nat → Nat → Int64} {D M' Y : Nat} (h : isD D M' Y) : ∀ (m M N : Nat) (I : Nat → Nat → Int32), M + m = M' → 1 ≤ M → m < N → I 34 46 = jN M → I 34 47 = jN Y → ∃ I', f_Md_splitDay_L62 N (jN (cm Y M' - cm Y M + (D - 1))) I L = some (I', L) ∧ I' 34 45 = jN D ∧ I' 34 46 = jN M' ∧ I' 34 47 = jN Y ∧ ∀ a j, (a = 34 → j ≠ 45 ∧ j ≠ 46) → I' a j = I a j := by
  obtain ⟨⟨y1, y2⟩, ⟨m1, m2⟩, d1, d2⟩ := h
  intro m
  induction m with
  | zero =>
    intro M N I e1 e2 e3 e4 e5
    obtain ⟨N, rfl⟩ : ∃ k, N = k + 1 := ⟨N - 1, by omega⟩
    have : M = M' := by omega
    subst this
    have tb := tl_bd M Y
    refine ⟨uI I 34 45 (jN D), ?_, by simp [uI], by simp [uI, e4], by simp [uI, e5], fun a j h => ?_⟩
    · rw [f_Md_splitDay_L62, e4, e5, tl_ok (by omega) (by omega), if_pos ((jN_lt (by omega) (by omega)).mpr (by omega))]
      simp only [bnd]
      rw [jN_1, show cm Y M - cm Y M + (D - 1) + 1 = D by omega]
    · by_cases a34 : a = 34
      · have := (h a34).1
        simp [uI, this]
      · simp [uI, a34]
  | succ m ih =>
    intro M N I e1 e2 e3 e4 e5
    obtain ⟨N, rfl⟩ : ∃ k, N = k + 1 := ⟨N - 1, by omega⟩
    have tb := tl_bd M Y
    have tb' := tl_bd M' Y
    have c1 := cm_s (Y := Y) e2
    have c2 : cm Y (M + 1) ≤ cm Y M' := cm_mono (by omega)
    have c3 : cm Y M' ≤ cm Y 13 := cm_mono (by omega)
    have c4 := cm_13 Y
    have tb2 := tl_bd 2 Y
    obtain ⟨I', a1, a2, a3, a4, a5⟩ := ih (M + 1) N (uI I 34 46 (jN (M + 1))) (by omega) (by omega) (by omega) (by simp [uI]) (by simp [uI, e5])
    refine ⟨I', ?_, a2, a3, a4, fun a j h => ?_⟩
    · rw [f_Md_splitDay_L62, e4, e5, tl_ok (by omega) (by omega), if_neg (fun q => by have := (jN_lt (by omega) (by omega)).mp q; omega)]
      simp only [bnd]
      rw [jN_sub (by omega), jN_1, show cm Y M' - cm Y M + (D - 1) - tl M Y = cm Y M' - cm Y (M + 1) + (D - 1) by omega]
      exact a1
    · rw [a5 a j h]
      by_cases a34 : a = 34
      · have := (h a34).2
        simp [uI, this]
      · simp [uI, a34]
theorem sp11 {L : Nat → Nat → Int64} {D M Y' : Nat} (h : isD D M Y') : ∀ (m Y N : Nat) (I : Nat → Nat → Int32), Y + m = Y' → 1 ≤ Y → m < N → I 34 47 = jN Y → ∃ I', f_Md_splitDay_L11 N (jN (dN D M Y')) I L = some (I', L) ∧ I' 34 45 = jN D ∧ I' 34 46 = jN M ∧ I' 34 47 = jN Y' ∧ ∀ a j, (a = 34 → j ≠ 45 ∧ j ≠ 46 ∧ j ≠ 47) → I' a j = I a j := by
  obtain ⟨n1, n2⟩ := dN_in h
  have n3 := dN_big h
  have hh := h
  obtain ⟨⟨y1, y2⟩, ⟨m1, m2⟩, d1, d2⟩ := h
  intro m
  induction m with
  | zero =>
    intro Y N I e1 e2 e3 e4
    obtain ⟨N, rfl⟩ : ∃ k, N = k + 1 := ⟨N - 1, by omega⟩
    have : Y = Y' := by omega
    subst this
    have fin : ∃ I', f_Md_splitDay_L47 (jN (dN D M Y)) I L = some (I', L) ∧ I' 34 45 = jN D ∧ I' 34 46 = jN M ∧ I' 34 47 = jN Y ∧ ∀ a j, (a = 34 → j ≠ 45 ∧ j ≠ 46 ∧ j ≠ 47) → I' a j = I a j := by
      obtain ⟨I', a1, a2, a3, a4, a5⟩ := sp62 (L := L) hh (M - 1) 1 xF (uI I 34 46 1) (by omega) (by omega) (xF_lt (by omega)) (by simp [uI]; rfl) (by simp [uI, e4])
      refine ⟨I', ?_, a2, a3, a4, fun a j h => ?_⟩
      · rw [f_Md_splitDay_L47, e4, dB_ok y1 (by omega)]
        simp only [bnd]
        rw [jN_sub n1, show dN D M Y - dB Y = cm Y M - cm Y 1 + (D - 1) by unfold dN; rw [cm_1]; omega]
        exact a1
      · rw [a5 a j (fun q => ⟨(h q).1, (h q).2.1⟩)]
        by_cases a34 : a = 34
        · have := (h a34).2.1
          simp [uI, this]
        · simp [uI, a34]
    have e : f_Md_splitDay_L11 (N + 1) (jN (dN D M Y)) I L = f_Md_splitDay_L47 (jN (dN D M Y)) I L := by
      rw [f_Md_splitDay_L11, e4]
      by_cases c : (9999 : Int32) ≤ jN Y
      · rw [if_pos c]
      · rw [if_neg c, jN_1, dB_ok (by omega) (by omega)]
        simp only [bnd]
        have := dB_big (Y := Y + 1) (by omega)
        rw [if_pos ((jN_lt (by omega) (by omega)).mpr n2)]
    rw [e]
    exact fin
  | succ m ih =>
    intro Y N I e1 e2 e3 e4
    obtain ⟨N, rfl⟩ : ∃ k, N = k + 1 := ⟨N - 1, by omega⟩
    have c1 : ¬ (9999 : Int32) ≤ jN Y := fun q => by have := (jN_le (a := 9999) (by decide) (by omega)).mp q; omega
    have mono : dB (Y + 1) ≤ dB Y' := dB_mono (by omega)
    obtain ⟨I', a1, a2, a3, a4, a5⟩ := ih (Y + 1) N (uI I 34 47 (jN (Y + 1))) (by omega) (by omega) (by omega) (by simp [uI])
    refine ⟨I', ?_, a2, a3, a4, fun a j h => ?_⟩
    · rw [f_Md_splitDay_L11, e4, if_neg c1, jN_1, dB_ok (by omega) (by omega)]
      simp only [bnd]
      rw [if_neg (fun q => by have := (jN_lt (by omega) (by omega)).mp q; omega)]
      exact a1
    · rw [a5 a j h]
      by_cases a34 : a = 34
      · have := (h a34).2.2
        simp [uI, this]
      · simp [uI, a34]
theorem split_ok {n d m y : Int32} (h : DAY n d m y) (I : Nat → Nat → Int32) (L : Nat → Nat → Int64) : ∃ I', f_Md_splitDay n I L = some (I', L) ∧ I' 34 45 = d ∧ I' 34 46 = m ∧ I' 34 47 = y ∧ ∀ a j, (a = 34 → j ≠ 45 ∧ j ≠ 46 ∧ j ≠ 47) → I' a j = I a j := by
  obtain ⟨D, M, Y, hd, rfl, rfl, rfl, rfl⟩ := h
  obtain ⟨n1, n2⟩ := dN_in hd
  have n3 := dN_big hd
  have n4 := dB_hi hd.1.1
  have y2 := hd.1.2
  have hq : dN D M Y / 366 < Y := by omega
  have e : 1 + jN (dN D M Y) / 366 = jN (1 + dN D M Y / 366) := by
    rw [show (366 : Int32) = jN 366 from rfl, jN_div (by omega) (by decide), show (1 : Int32) = jN 1 from rfl, jN_add]
  obtain ⟨I', a1, a2, a3, a4, a5⟩ := sp11 (L := L) hd (Y - (1 + dN D M Y / 366)) (1 + dN D M Y / 366) xF (uI I 34 47 (jN (1 + dN D M Y / 366))) (by omega) (by omega) (xF_lt (by omega)) (by simp [uI])
  refine ⟨I', ?_, a2, a3, a4, fun a j h => ?_⟩
  · rw [f_Md_splitDay, e]
    exact a1
  · rw [a5 a j h]
    by_cases a34 : a = 34
    · have := (h a34).2.2
      simp [uI, this]
    · simp [uI, a34]
theorem nu12 {Y M' : Nat} (hY : 1 ≤ Y ∧ Y ≤ 9999) (hM : M' ≤ 12) (b : Nat) : ∀ (m M N : Nat), M + m = M' → 1 ≤ M → m < N → f_Md_numberOf_L12 N (jN M') (jN Y) (jN (b + cm Y M)) (jN M) = some (jN (b + cm Y M')) := by
  intro m
  induction m with
  | zero =>
    intro M N e1 e2 e3
    obtain ⟨N, rfl⟩ : ∃ k, N = k + 1 := ⟨N - 1, by omega⟩
    have : M = M' := by omega
    subst this
    rw [f_Md_numberOf_L12, if_pos (Int32.le_refl _)]
  | succ m ih =>
    intro M N e1 e2 e3
    obtain ⟨N, rfl⟩ : ∃ k, N = k + 1 := ⟨N - 1, by omega⟩
    have c1 : ¬ jN M' ≤ jN M := fun q => by have := (jN_le (by omega) (by omega)).mp q; omega
    have := ih (M + 1) N (by omega) (by omega) (by omega)
    rw [cm_s e2] at this
    rw [f_Md_numberOf_L12, if_neg c1, tl_ok (by omega) (by omega)]
    simp only [bnd]
    rw [jN_add, jN_1, Nat.add_assoc]
    exact this
theorem num_ok {D M Y : Nat} (h : isD D M Y) : f_Md_numberOf (jN D) (jN M) (jN Y) = some (jN (dN D M Y)) := by
  have hh := h
  obtain ⟨⟨y1, y2⟩, ⟨m1, m2⟩, d1, d2⟩ := h
  have := nu12 (Y := Y) (M' := M) ⟨y1, y2⟩ m2 (dB Y + (D - 1)) (M - 1) 1 xF (by omega) (by omega) (xF_lt (by omega))
  rw [cm_1] at this
  rw [f_Md_numberOf, dB_ok y1 (by omega)]
  simp only [bnd]
  rw [jN_add, show (1 : Int32) = jN 1 from rfl, jN_sub (by omega), show dB Y + D - 1 = dB Y + (D - 1) + 0 by omega, this]
  congr 1
  unfold dN
  congr 1
  omega
theorem wd33 {Y M' : Nat} (hY : 1 ≤ Y ∧ Y ≤ 9999) (hM : M' ≤ 12) (b : Nat) : ∀ (m M N : Nat), M + m = M' → 1 ≤ M → m < N → f_Ca_weekDayOf_L33 N (jN M') (jN Y) (jN (b + cm Y M)) (jN M) = some (irem (jN (b + cm Y M')) 7) := by
  intro m
  induction m with
  | zero =>
    intro M N e1 e2 e3
    obtain ⟨N, rfl⟩ : ∃ k, N = k + 1 := ⟨N - 1, by omega⟩
    have : M = M' := by omega
    subst this
    rw [f_Ca_weekDayOf_L33, if_pos (Int32.le_refl _)]
  | succ m ih =>
    intro M N e1 e2 e3
    obtain ⟨N, rfl⟩ : ∃ k, N = k + 1 := ⟨N - 1, by omega⟩
    have c1 : ¬ jN M' ≤ jN M := fun q => by have := (jN_le (by omega) (by omega)).mp q; omega
    have c2 : ¬ (12 : Int32) < jN M := fun q => by have := (jN_lt (a := 12) (by decide) (by omega)).mp q; omega
    have := ih (M + 1) N (by omega) (by omega) (by omega)
    rw [cm_s e2] at this
    rw [f_Ca_weekDayOf_L33, if_neg c1, if_neg c2, len3 (by omega) (by omega)]
    simp only [bnd]
    rw [jN_add, jN_1, Nat.add_assoc]
    exact this
theorem wkd_ok {D M Y : Nat} (h : isD D M Y) : f_Ca_weekDayOf (jN D) (jN M) (jN Y) = some (irem (jN (dN D M Y)) 7) := by
  have hh := h
  obtain ⟨⟨y1, y2⟩, ⟨m1, m2⟩, d1, d2⟩ := h
  have := wd33 (Y := Y) (M' := M) ⟨y1, y2⟩ m2 (dB Y + (D - 1)) (M - 1) 1 xF (by omega) (by omega) (xF_lt (by omega))
  rw [cm_1] at this
  have e : jN Y - 1 = jN (Y - 1) := jN_sub (b := 1) y1
  have eb : jN (Y - 1) * 365 + jN (Y - 1) / 4 - jN (Y - 1) / 100 + jN (Y - 1) / 400 = jN (dB Y) := by
    rw [show (365 : Int32) = jN 365 from rfl, show (4 : Int32) = jN 4 from rfl, show (100 : Int32) = jN 100 from rfl, show (400 : Int32) = jN 400 from rfl, jN_mul, jN_div (by omega) (by decide), jN_div (by omega) (by decide), jN_div (by omega) (by decide), jN_add, jN_sub (by omega), jN_add]
    congr 1
    unfold dB
    omega
  rw [f_Ca_weekDayOf, e]
  simp only [bnd]
  rw [eb, jN_add, show (1 : Int32) = jN 1 from rfl, jN_sub (by omega), show dB Y + D - 1 = dB Y + (D - 1) + 0 by omega, this]
  congr 2
  unfold dN
  congr 1
  omega

/-! the movement: the next day, both -/
theorem ra {x : Int32} {a b : Nat} (h : jN a ≤ x ∧ x ≤ jN b) (hb : b < 2147483648) (ha : a < 2147483648) : ∃ k, x = jN k ∧ a ≤ k ∧ k ≤ b := by
  have h0 : (0 : Int32) ≤ x := Int32.le_trans (jN_ge0 ha) h.1
  obtain ⟨k, k1, k2⟩ := jN_ex h0 h.2 hb
  refine ⟨k, k2, ?_, k1⟩
  rw [k2] at h
  exact (jN_le ha (by omega)).mp h.1
/-- one more, from 1 to b and again -/
theorem cyc {k b : Nat} (h1 : 1 ≤ k) (h2 : k ≤ b) (hb : b < 100000) : irem (jN k) (jN b) + 1 = (if jN b ≤ jN k then 1 else jN k + 1) ∧ ∃ j, irem (jN k) (jN b) + 1 = jN j ∧ 1 ≤ j ∧ j ≤ b := by
  rw [jN_rem (by omega) (by omega), jN_1, jN_1]
  by_cases e : k = b
  · subst e
    rw [Nat.mod_self, if_pos (Int32.le_refl _)]
    exact ⟨rfl, 1, rfl, by omega, by omega⟩
  · have : k % b = k := Nat.mod_eq_of_lt (by omega)
    rw [this, if_neg (fun q => by have := (jN_le (by omega) (by omega)).mp q; omega)]
    exact ⟨rfl, k + 1, rfl, by omega, by omega⟩
/-- one more, from 0 to b - 1 and again -/
theorem cyc0 {k b : Nat} (h2 : k < b) (hb : b < 100000) : irem (jN k + 1) (jN b) = (if jN b - 1 ≤ jN k then 0 else jN k + 1) ∧ ∃ j, irem (jN k + 1) (jN b) = jN j ∧ j < b := by
  have e1 : jN b - 1 = jN (b - 1) := jN_sub (b := 1) (by omega)
  rw [jN_1, jN_rem (by omega) (by omega), e1]
  by_cases e : k + 1 = b
  · subst e
    rw [Nat.mod_self, if_pos ((jN_le (by omega) (by omega)).mpr (by omega))]
    exact ⟨rfl, 0, rfl, by omega⟩
  · have : (k + 1) % b = k + 1 := Nat.mod_eq_of_lt (by omega)
    rw [this, if_neg (fun q => by have := (jN_le (by omega) (by omega)).mp q; omega)]
    exact ⟨rfl, k + 1, rfl, by omega⟩
theorem lastd : f_Md_daysBefore 10000 - 1 = jN 3652058 := by
  have := dB_ok (Y := 10000) (by decide) (by decide)
  rw [show (10000 : Int32) = jN 10000 from rfl, this, show dB 10000 = 3652059 by decide]
  rfl
theorem day_next {n d m y : Int32} (h : DAY n d m y) : DAY (if n = f_Md_daysBefore 10000 - 1 then 0 else n + 1) (if f_Ca_length 3 m y ≤ d then 1 else d + 1) (if f_Ca_length 3 m y ≤ d then f_Ca_nextMonth m else m) (if f_Ca_length 3 m y ≤ d then f_Ca_yearBehind (f_Ca_nextMonth m) y else y) := by
  obtain ⟨D, M, Y, hd, rfl, rfl, rfl, rfl⟩ := h
  have hh := hd
  have big := dN_big hd
  obtain ⟨⟨y1, y2⟩, ⟨m1, m2⟩, d1, d2⟩ := hd
  have tb := tl_bd M Y
  have cs := cm_s (Y := Y) m1
  have cl : cm Y (M + 1) ≤ cm Y 13 := cm_mono (by omega)
  have ds := dB_s y1
  have dm : dB (Y + 1) ≤ dB 10000 := dB_mono (by omega)
  have e10 : dB 10000 = 3652059 := by decide
  rw [lastd, len3 (by omega) (by omega)]
  have ndl : dN D M Y < 3652058 → ¬ jN (dN D M Y) = jN 3652058 := fun q w => by have := (jN_inj (by omega) (by decide)).mp w; omega
  by_cases c : tl M Y ≤ D
  · have c' : jN (tl M Y) ≤ jN D := (jN_le (by omega) (by omega)).mpr c
    simp only [if_pos c']
    by_cases m12 : M = 12
    · subst m12
      have cs' : cm Y 13 = cm Y 12 + tl 12 Y := cs
      have nm : f_Ca_nextMonth (jN 12) = 1 := by decide
      rw [nm]
      by_cases y9 : Y = 9999
      · subst y9
        have t31 : tl 12 9999 = 31 := by decide
        have e : dN D 12 9999 = 3652058 := by
          have a1 : dB 9999 = 3651694 := by decide
          have a2 : cm 9999 12 = 334 := by decide
          unfold dN
          omega
        have yb : f_Ca_yearBehind 1 (jN 9999) = 1 := by decide
        rw [e, if_pos rfl, yb]
        exact ⟨1, 1, 1, ⟨⟨by omega, by omega⟩, ⟨by omega, by omega⟩, by omega, by decide⟩, rfl, rfl, rfl, by decide⟩
      · have d9 : dB (Y + 1) ≤ dB 9999 := dB_mono (by omega)
        have a1 : dB 9999 = 3651694 := by decide
        have lt : dN D 12 Y < 3652058 := by have := (dN_in hh).2; omega
        have yb : f_Ca_yearBehind 1 (jN Y) = jN (Y + 1) := by
          rw [f_Ca_yearBehind, if_pos rfl, if_neg (fun q => by have := (jN_le (a := 9999) (by decide) (by omega)).mp q; omega), jN_1]
        rw [if_neg (ndl lt), yb, jN_1]
        refine ⟨1, 1, Y + 1, ⟨⟨by omega, by omega⟩, ⟨by omega, by omega⟩, by omega, (by have := tl_bd 1 (Y + 1); omega)⟩, rfl, rfl, rfl, ?_⟩
        have e : dN D 12 Y + 1 = dN 1 1 (Y + 1) := by
          unfold dN
          rw [cm_1]
          omega
        rw [e]
    · have nm : f_Ca_nextMonth (jN M) = jN (M + 1) := by
        rw [f_Ca_nextMonth, if_neg (fun q => by have := (jN_le (a := 12) (by decide) (by omega)).mp q; omega), jN_1]
      have yb : f_Ca_yearBehind (jN (M + 1)) (jN Y) = jN Y := by
        rw [f_Ca_yearBehind, if_neg (fun q => by have := (jN_inj (b := 1) (by omega) (by decide)).mp q; omega)]
      have cl2 : cm Y (M + 1 + 1) ≤ cm Y 13 := cm_mono (by omega)
      have cs2 := cm_s (Y := Y) (show 1 ≤ M + 1 by omega)
      have tb2 := tl_bd (M + 1) Y
      have lt : dN D M Y < 3652058 := by unfold dN; omega
      rw [nm, yb, if_neg (ndl lt), jN_1]
      refine ⟨1, M + 1, Y, ⟨⟨by omega, by omega⟩, ⟨by omega, by omega⟩, by omega, by omega⟩, rfl, rfl, rfl, ?_⟩
      congr 1
      unfold dN
      omega
  · have c' : ¬ jN (tl M Y) ≤ jN D := fun q => c ((jN_le (by omega) (by omega)).mp q)
    simp only [if_neg c']
    have lt : dN D M Y < 3652058 := by unfold dN; omega
    rw [if_neg (ndl lt), jN_1, jN_1]
    refine ⟨D + 1, M, Y, ⟨⟨by omega, by omega⟩, ⟨by omega, by omega⟩, by omega, by omega⟩, rfl, rfl, rfl, ?_⟩
    congr 1
    unfold dN
    omega

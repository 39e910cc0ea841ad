theorem op_search {I : Nat → Nat → Int32} {L : Nat → Nat → Int64} {a0 a1 a2 : Int32} (h : ivT I L) : wp (f_H_search a0 a1 a2 I L) (fun q => wp (f_Md_search a0 a1 a2 q.2.1 q.2.2) (fun q' => q.1 = q'.1 ∧ ivT q'.2.1 q'.2.2)) := by
  have e1 : f_Md_within a0.toInt64 1 100000 = f_H_isWithin a0 1 100000 := w_eq rfl rfl
  have e2 : f_Md_within a1.toInt64 1 100000 = f_H_isWithin a1 1 100000 := w_eq rfl rfl
  have e3 : f_Md_within a2.toInt64 1 3 = f_H_isWithin a2 1 3 := w_eq rfl rfl
  by_cases v1 : 1 ≤ a0 ∧ a0 ≤ 100000
  case neg =>
    have z := wi_0.mpr v1
    simp only [f_H_search, f_Md_search, bnd, e1, if_pos z, wp_some]
    exact ⟨trivial, h⟩
  by_cases v2 : 1 ≤ a1 ∧ a1 ≤ 100000
  case neg =>
    have z := wi_0.mpr v2
    simp only [f_H_search, f_Md_search, bnd, e1, e2, if_neg (wi_ne.mpr v1), if_pos z, wp_some]
    exact ⟨trivial, h⟩
  by_cases v3 : 1 ≤ a2 ∧ a2 ≤ 3
  case neg =>
    have z := wi_0.mpr v3
    simp only [f_H_search, f_Md_search, bnd, e1, e2, e3, if_neg (wi_ne.mpr v1), if_neg (wi_ne.mpr v2), if_pos z, wp_some]
    exact ⟨trivial, h⟩
  have hH : f_H_search a0 a1 a2 I L = (f_Tr_find a0 a1 a2 I L).bind fun q7 => some (q7.1, q7.2.1, q7.2.2) := by
    simp only [f_H_search, bnd, if_neg (wi_ne.mpr v1), if_neg (wi_ne.mpr v2), if_neg (wi_ne.mpr v3)]
  have hM : ∀ I L, f_Md_search a0 a1 a2 I L = if (f_Md_rowsOf (Int32.toInt64 (((I 60 1) - (I 60 0)) + (1 : Int32))) a2) * (f_Md_rowsOf (Int32.toInt64 (((I 60 3) - (I 60 2)) + (1 : Int32))) a2) ≤ 200000 then f_Md_search_L109 xF a1 a2 (uI (uI (uI (uI I 34 61 a0) 34 62 a1) 34 63 (0 : Int32)) 34 59 (1 : Int32)) L else some (-3, I, L) := by
    intro I L
    simp only [f_Md_search, bnd, e1, e2, e3, if_neg (wi_ne.mpr v1), if_neg (wi_ne.mpr v2), if_neg (wi_ne.mpr v3)]
  obtain ⟨⟨t0, t1, t2, t3⟩, ⟨b1, b2, b3⟩, ⟨b4, b5, b6⟩, t4, t5, t6, t7, t8⟩ := id h
  have g200 : (200 : Int32) = jN 200 := rfl
  obtain ⟨most, m3, m4⟩ := jN_ex (a := a2) (n := 3) (by grind) v3.2 (by decide)
  obtain ⟨lW, w1, w2⟩ := jN_ex (a := I 17 0) (n := 200) (by grind) (by rw [← g200]; grind) (by decide)
  obtain ⟨gW, w3, w4⟩ := jN_ex (a := I 17 1) (n := 200) (by grind) b3 (by decide)
  obtain ⟨lP, p1, p2⟩ := jN_ex (a := I 17 2) (n := 200) (by grind) (by rw [← g200]; grind) (by decide)
  obtain ⟨gP, p3, p4⟩ := jN_ex (a := I 17 3) (n := 200) (by grind) b6 (by decide)
  rw [w2, w4] at b2
  rw [w2] at b1
  rw [p2, p4] at b5
  rw [p2] at b4
  have hlW : 4 ≤ lW := (jN_le (a := 4) (by decide) (by omega)).mp b1
  have hlP : 4 ≤ lP := (jN_le (a := 4) (by decide) (by omega)).mp b4
  have hgW : lW ≤ gW := (jN_le (by omega) (by omega)).mp b2
  have hgP : lP ≤ gP := (jN_le (by omega) (by omega)).mp b5
  have hmost : 1 ≤ most := by
    have := v3.1
    rw [m4] at this
    exact (jN_le (a := 1) (by decide) (by omega)).mp this
  have lt1 := rwN_lt (n := most) (m := gW + 1 - lW) (by omega)
  have lt2 := rwN_lt (n := most) (m := gP + 1 - lP) (by omega)
  have e200 : (200000 : Int64).toInt = 200000 := by decide
  have cEq : ((jN (rwN most (gW + 1 - lW))).toInt64 * (jN (rwN most (gP + 1 - lP))).toInt64 ≤ 200000) ↔ rwN most (gW + 1 - lW) * rwN most (gP + 1 - lP) ≤ 200000 := by
    rw [lg_le, jN_mul64 lt1 lt2, e200]
    omega
  have hF : f_Tr_find a0 a1 a2 I L = if (jN (rwN most (gW + 1 - lW))).toInt64 * (jN (rwN most (gP + 1 - lP))).toInt64 ≤ 200000 then f_Tr_find_L61 xF a2 1 I (uL (uL (uL L 17 9 a0.toInt64) 17 10 a1.toInt64) 17 12 0) else some (-3, I, L) := by
    simp only [f_Tr_find, bnd, w2, w4, p2, p4, m4, rowsC ⟨hmost, m3⟩ hlW hgW w3, rowsC ⟨hmost, m3⟩ hlP hgP p3]
  have hM' : ∀ I' L', (∀ i, I' 60 i = I 60 i) → f_Md_search a0 a1 a2 I' L' = if (jN (rwN most (gW + 1 - lW))).toInt64 * (jN (rwN most (gP + 1 - lP))).toInt64 ≤ 200000 then f_Md_search_L109 xF a1 a2 (uI (uI (uI (uI I' 34 61 a0) 34 62 a1) 34 63 (0 : Int32)) 34 59 (1 : Int32)) L' else some (-3, I', L') := by
    intro I' L' hI
    rw [hM, hI 0, hI 1, hI 2, hI 3, ← t0, ← t1, ← t2, ← t3, w2, w4, p2, p4]
    have r1 := rowsM (n := most) ⟨hmost, m3⟩ hlW hgW w3
    have r2 := rowsM (n := most) ⟨hmost, m3⟩ hlP hgP p3
    rw [← m4] at r1 r2
    rw [r1, r2]
  by_cases big : rwN most (gW + 1 - lW) * rwN most (gP + 1 - lP) ≤ 200000
  case neg =>
    rw [hH, hF, if_neg (fun q => big (cEq.mp q)), Option.bind_some, wp_some]
    show wp (f_Md_search a0 a1 a2 I L) _
    rw [hM' I L (fun _ => rfl), if_neg (fun q => big (cEq.mp q)), wp_some]
    exact ⟨rfl, h⟩
  rw [if_pos (cEq.mpr big)] at hF
  have hab := rat_of v1
  have hbe := rat_of v2
  have bigs : ∀ n, 1 ≤ n → n ≤ most → rwN n (gP + 1 - lP) < 1000000 ∧ rwN n (gW + 1 - lW) < 1000000 := by
    intro n n1 n2
    have k1 := rwN_le (m := gP + 1 - lP) n1 n2 m3 (by omega)
    have k2 := rwN_le (m := gW + 1 - lW) n1 n2 m3 (by omega)
    have k3 := rwN_le (n := 1) (m := gP + 1 - lP) (by omega) hmost m3 (by omega)
    have k4 := rwN_le (n := 1) (m := gW + 1 - lW) (by omega) hmost m3 (by omega)
    have k5 := (rwN_mono (gP + 1 - lP) (by omega)).2.2
    have k6 := (rwN_mono (gW + 1 - lW) (by omega)).2.2
    generalize rwN most (gW + 1 - lW) = u at *
    generalize rwN most (gP + 1 - lP) = w at *
    have q1 : 1 ≤ u := by omega
    have q2 : 1 ≤ w := by omega
    have q3 : u ≤ u * w := Nat.le_mul_of_pos_right u q2
    have q4 : w ≤ u * w := Nat.le_mul_of_pos_left w q1
    omega
  -- the class
  have cs0 : CS a0.toInt64 a1.toInt64 lW gW lP gP (0, 0, 0, [], []) I (uL (uL (uL L 17 9 a0.toInt64) 17 10 a1.toInt64) 17 12 0) := ⟨⟨w2, w4, p2, p4⟩, by simp [uL], by simp [uL], by simp [uL], fun q => absurd rfl q⟩
  obtain ⟨I1, L1, c1, c2⟩ := fd_go hab hbe hlP hgP p3 hlW hgW w3 m3 bigs most 1 xF (0, 0, 0, [], []) I _ (by omega) (by omega) (xF_lt (by omega)) (Or.inl rfl) cs0
  have gb : gB (fF a0.toInt64 a1.toInt64 lW gW lP gP most 1 (0, 0, 0, [], [])) := by
    obtain ⟨k, rfl⟩ : ∃ k, most = k + 1 := ⟨most - 1, by omega⟩
    exact fF_g hab hbe hlP hgP p3 hlW hgW w3 k 2 _ (by omega) (by omega) (gF_g hab hbe ⟨by omega, by omega⟩ hlP hgP p3 hlW hgW w3 (Or.inl rfl))
  obtain ⟨d, d1, d2, d3⟩ := serr hbe c2 gb
  generalize hB : fF a0.toInt64 a1.toInt64 lW gW lP gP most 1 (0, 0, 0, [], []) = B at *
  have hC : f_H_search a0 a1 a2 I L = some (jN B.1, I1, uL (uL L1 17 7 (B.2.1 / d)) 17 8 (B.2.2.1 * a1.toInt64 / d)) := by
    have one : (1 : Int32) = jN 1 := rfl
    rw [hH, hF, m4, one, c1, d3]
    rfl
  have frC := fun S => u_H_search (S := S) hC
  rw [hC, wp_some]
  have q60 : ∀ i, I1 60 i = I 60 i := fun i => fr_I frC 60 i (by decide) (fun _ => by simp; omega)
  show wp (f_Md_search a0 a1 a2 I1 _) _
  -- the reference
  have rs0 : RS a0 a1 lW gW lP gP 1 (0, 0, 0, [], []) (uI (uI (uI (uI I1 34 61 a0) 34 62 a1) 34 63 (0 : Int32)) 34 59 (1 : Int32)) (uL (uL L1 17 7 (B.2.1 / d)) 17 8 (B.2.2.1 * a1.toInt64 / d)) := by
    refine ⟨?_, by simp [uI]; rfl, by simp [uI], by simp [uI], fun _ => by simp [uI], fun q => absurd rfl q⟩
    simp only [uI]
    simp [q60, ← t0, ← t1, ← t2, ← t3, w2, w4, p2, p4]
  obtain ⟨I2, L2, r1, r2⟩ := sl_go (ab := a0.toInt64) (be := a1.toInt64) rfl rfl hlP hgP p3 hgW w3 m3 most 1 xF (0, 0, 0, [], []) _ _ (by omega) (by omega) (xF_lt (by omega)) rs0
  rw [hB] at r2
  obtain ⟨_, _, _, _, _, x6⟩ := r2
  obtain ⟨x1, x2, x3, x4, x5, x7⟩ := x6 (gB_ne gb)
  have hR : f_Md_search a0 a1 a2 I1 (uL (uL L1 17 7 (B.2.1 / d)) 17 8 (B.2.2.1 * a1.toInt64 / d)) = some (jN B.1, uI (uC (uI I2 34 54 (jN B.1)) 63 0 61 0 6) 34 58 1, uL (uL L2 34 56 (B.2.1 / d)) 34 57 (B.2.2.1 * a1.toInt64 / d)) := by
    rw [hM' I1 _ q60, if_pos (cEq.mpr big), m4, r1, sEnd, x3, x4, d2, x2]
    simp only [bnd, Option.bind_some]
    rw [if_pos d1, if_pos d1]
    rfl
  have frM := fun S => u_Md_search (S := S) hR
  rw [hR, wp_some]
  refine ⟨rfl, ?_⟩
  have hb1 := gb.2.2
  obtain ⟨s1, s2, s3, s4, s5⟩ := c2
  obtain ⟨s6, s7, s8, s9⟩ := s5 (gB_ne gb)
  have k17 : ∀ i, i < 4 → (uI (uC (uI I2 34 54 (jN B.1)) 63 0 61 0 6) 34 58 1) 17 i = I 17 i := fun i hi => by
    exact (fr_I frM 17 i (by decide) (fun _ => by simp; omega)).trans (fr_I frC 17 i (by decide) (fun _ => by simp; omega))
  have k174 : (uI (uC (uI I2 34 54 (jN B.1)) 63 0 61 0 6) 34 58 1) 17 4 = jN B.1 := by
    exact (fr_I frM 17 4 (by decide) (by decide)).trans s7
  have k60 : ∀ i, (uI (uC (uI I2 34 54 (jN B.1)) 63 0 61 0 6) 34 58 1) 60 i = I 60 i := fun i => by
    exact (fr_I frM 60 i (by decide) (fun _ => by simp; omega)).trans (q60 i)
  have k18 : ∀ i, i < 3 → (uI (uC (uI I2 34 54 (jN B.1)) 63 0 61 0 6) 34 58 1) 18 i = I1 18 i := fun i hi => by
    exact fr_I frM 18 i (by decide) (fun _ => by simp; omega)
  have k19 : ∀ i, i < 3 → (uI (uC (uI I2 34 54 (jN B.1)) 63 0 61 0 6) 34 58 1) 19 i = I1 19 i := fun i hi => by
    exact fr_I frM 19 i (by decide) (fun _ => by simp; omega)
  have l17 : ∀ i, i < 10 → (uL (uL L2 34 56 (B.2.1 / d)) 34 57 (B.2.2.1 * a1.toInt64 / d)) 17 i = (uL (uL L1 17 7 (B.2.1 / d)) 17 8 (B.2.2.1 * a1.toInt64 / d)) 17 i := fun i hi => by
    exact fr_L frM 17 i (by decide) (fun _ => by simp; omega)
  have k54 : (uI (uC (uI I2 34 54 (jN B.1)) 63 0 61 0 6) 34 58 1) 34 54 = jN B.1 := by simp [uI, uC]
  have k58 : (uI (uC (uI I2 34 54 (jN B.1)) 63 0 61 0 6) 34 58 1) 34 58 = 1 := by simp [uI]
  have k61 : ∀ i, i < 6 → (uI (uC (uI I2 34 54 (jN B.1)) 63 0 61 0 6) 34 58 1) 61 i = I2 63 i := fun i hi => by simp [uI, uC, hi]
  unfold ivT
  simp only []
  refine ⟨⟨?_, ?_, ?_, ?_⟩, ⟨?_, ?_, ?_⟩, ⟨?_, ?_, ?_⟩, ?_, ⟨?_, ?_⟩, ?_, ?_, ?_⟩
  · rw [k17 0 (by decide), k60]; exact t0
  · rw [k17 1 (by decide), k60]; exact t1
  · rw [k17 2 (by decide), k60]; exact t2
  · rw [k17 3 (by decide), k60]; exact t3
  · rw [k17 0 (by decide)]; exact h.2.1.1
  · rw [k17 0 (by decide), k17 1 (by decide)]; exact h.2.1.2.1
  · rw [k17 1 (by decide)]; exact h.2.1.2.2
  · rw [k17 2 (by decide)]; exact h.2.2.1.1
  · rw [k17 2 (by decide), k17 3 (by decide)]; exact h.2.2.1.2.1
  · rw [k17 3 (by decide)]; exact h.2.2.1.2.2
  · rw [k174, k54]
  · rw [k174]; exact jN_ge0 (by omega)
  · rw [k174]; exact (jN_le (b := 3) (by omega) (by decide)).mpr (by omega)
  · rw [k58]; intro q; exact absurd q (by decide)
  · intro _
    rw [l17 7 (by decide), l17 8 (by decide)]
    simp [uL]
  · intro j hj
    rw [k174, jN_tc (by omega)] at hj
    rw [k18 j (by omega), k19 j (by omega), k61 j (by omega), k61 (3 + j) (by omega), x5 j hj, x7 j hj]
    exact ⟨s8 j hj, s9 j hj⟩

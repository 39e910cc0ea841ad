/-! the movement: a calendar's trip in the reference -/
section CAM
variable {J : Nat → Nat → Int32} {K : Nat → Nat → Int64} {w : Nat}
theorem i10 (w i : Nat) : jN (10 * w) + jN i = jN (10 * w + i) := jN_add _ _
theorem x10 (w : Nat) : (10 : Int32) * jN w = jN (10 * w) := jN_mul 10 w
theorem r80 {w i : Nat} (hw : w < 8) (hi : i < 10) : 0 ≤ jN (10 * w + i) ∧ jN (10 * w + i) < 80 := jN_in (n := 80) (by omega) (by decide)
theorem t80 {w i : Nat} (hw : w < 8) (hi : i < 10) : (jN (10 * w + i)).toNatClampNeg = 10 * w + i := jN_tc (by omega)
theorem m176 {td tm ty : Int32} (hw : w < 8) (hd : DAY (J 48 (10 * w + 4)) td tm ty) (hg : J 44 w = 3 → J 48 (10 * w + 7) = 0 → J 48 (10 * w) = td ∧ J 48 (10 * w + 1) = tm) : ∃ J', f_Md_nextDay_L176 (jN w) (jN (10 * w)) J K = some (J', K) ∧ J' 48 (10 * w + 5) = (if J 48 (10 * w) = td ∧ J 48 (10 * w + 1) = tm then J 48 (10 * w + 5) else J 48 (10 * w + 5) + 1) ∧ ∀ a j, ¬ (a = 48 ∧ j = 10 * w + 5) → (a = 34 → j ≠ 45 ∧ j ≠ 46 ∧ j ≠ 47) → J' a j = J a j := by
  obtain ⟨J1, s1, s2, s3, s4, s5⟩ := split_ok hd J K
  have e4 : jN (10 * w) + 4 = jN (10 * w + 4) := i10 w 4
  have e1 : jN (10 * w) + 1 = jN (10 * w + 1) := i10 w 1
  have e5 : jN (10 * w) + 5 = jN (10 * w + 5) := i10 w 5
  have e7 : jN (10 * w) + 7 = jN (10 * w + 7) := i10 w 7
  have c0 : 0 ≤ jN (10 * w) ∧ jN (10 * w) < 80 := r80 (i := 0) hw (by decide)
  have t0 : (jN (10 * w)).toNatClampNeg = 10 * w := t80 (i := 0) hw (by decide)
  have c8 : 0 ≤ jN w ∧ jN w < 8 := jN_in (n := 8) hw (by decide)
  have k48 : ∀ i, J1 48 i = J 48 i := fun i => s5 48 i (fun q => absurd q (by decide))
  have ev : f_Md_nextDay_L176 (jN w) (jN (10 * w)) J K = if td = J 48 (10 * w) then (if tm = J 48 (10 * w + 1) then some (J1, K) else f_Md_nextDay_L216 (jN w) (jN (10 * w)) J1 K) else f_Md_nextDay_L216 (jN w) (jN (10 * w)) J1 K := by
    rw [f_Md_nextDay_L176, e4, if_pos (r80 hw (by decide)), t80 hw (by decide), s1, Option.bind_some]
    simp only []
    rw [if_pos c0, t0, s2, k48, e1, if_pos (r80 hw (by decide)), t80 hw (by decide), s3, k48]
  by_cases d1 : td = J 48 (10 * w) ∧ tm = J 48 (10 * w + 1)
  · refine ⟨J1, by rw [ev, if_pos d1.1, if_pos d1.2], by rw [if_pos ⟨d1.1.symm, d1.2.symm⟩, k48], fun a j _ h2 => s5 a j h2⟩
  · have d2 : ¬ (J 48 (10 * w) = td ∧ J 48 (10 * w + 1) = tm) := fun q => d1 ⟨q.1.symm, q.2.symm⟩
    have ev2 : f_Md_nextDay_L176 (jN w) (jN (10 * w)) J K = f_Md_nextDay_L216 (jN w) (jN (10 * w)) J1 K := by
      rw [ev]
      by_cases q1 : td = J 48 (10 * w)
      · rw [if_pos q1, if_neg (fun q2 => d1 ⟨q1, q2⟩)]
      · rw [if_neg q1]
    have ev3 : f_Md_nextDay_L216 (jN w) (jN (10 * w)) J1 K = some (uI (uI J1 48 (10 * w + 5) (J 48 (10 * w + 5) + 1)) 56 2 (J1 56 2 + 0), K) := by
      rw [f_Md_nextDay_L216, e5, if_pos (r80 hw (by decide)), t80 hw (by decide), k48]
      simp only [bnd]
      rw [if_pos (r80 hw (by decide)), if_pos c8, jN_tc (by omega), s5 44 w (fun q => absurd q (by decide))]
      by_cases k3 : J 44 w = 3
      · rw [if_pos k3, e7, if_pos (r80 hw (by decide)), t80 hw (by decide)]
        have u : (uI J1 48 (10 * w + 5) (J 48 (10 * w + 5) + 1)) 48 (10 * w + 7) = J 48 (10 * w + 7) := by simp [uI, k48]
        have nz : ¬ J 48 (10 * w + 7) = 0 := fun z => d2 (hg k3 z)
        rw [u, if_neg nz]
      · rw [if_neg k3]
    refine ⟨_, by rw [ev2, ev3], by rw [if_neg d2]; simp [uI], fun a j h1 h2 => ?_⟩
    rw [Int32.add_zero]
    simp only [uI]
    by_cases q : a = 56 ∧ j = 2
    · rw [if_pos q, q.1, q.2, s5 56 2 (by decide)]
    · rw [if_neg q, if_neg h1, s5 a j h2]
theorem mdN {td tm ty : Int32} {M Y V : Nat} (hw : w < 8) (hM : J 48 (10 * w + 1) = jN M ∧ 1 ≤ M ∧ M ≤ 12) (hY : J 48 (10 * w + 2) = jN Y ∧ 1 ≤ Y ∧ Y ≤ 9999) (hV : J 48 (10 * w + 3) = jN V ∧ V ≤ 6) (hd : DAY (J 48 (10 * w + 4)) td tm ty) (hk : J 44 w = 0 ∨ J 44 w = 1 ∨ J 44 w = 2 ∨ J 44 w = 3) (hg : J 44 w = 3 → J 48 (10 * w + 7) = 0 → J 48 (10 * w) = td ∧ J 48 (10 * w + 1) = tm ∧ J 48 (10 * w + 2) = ty) : ∃ J', f_Md_nextDay (jN w) J K = some (J', K) ∧ (J' 48 (10 * w) = sd (J 44 w) (J 48 (10 * w + 1)) (J 48 (10 * w + 2)) (J 48 (10 * w)) ∧ J' 48 (10 * w + 1) = sm (J 44 w) (J 48 (10 * w + 1)) (J 48 (10 * w + 2)) (J 48 (10 * w)) ∧ J' 48 (10 * w + 2) = sy (J 44 w) (J 48 (10 * w + 1)) (J 48 (10 * w + 2)) (J 48 (10 * w)) ∧ J' 48 (10 * w + 3) = (if 6 ≤ J 48 (10 * w + 3) then 0 else J 48 (10 * w + 3) + 1)) ∧ DAY (J' 48 (10 * w + 4)) (sd 3 tm ty td) (sm 3 tm ty td) (sy 3 tm ty td) ∧ J' 48 (10 * w + 5) = (if J' 48 (10 * w) = sd 3 tm ty td ∧ J' 48 (10 * w + 1) = sm 3 tm ty td then J 48 (10 * w + 5) else J 48 (10 * w + 5) + 1) ∧ ∀ a j, ¬ (a = 48 ∧ 10 * w ≤ j ∧ j ≤ 10 * w + 5) → (a = 34 → j ≠ 45 ∧ j ≠ 46 ∧ j ≠ 47) → J' a j = J a j := by
  have e4 : jN (10 * w) + 4 = jN (10 * w + 4) := i10 w 4
  have e1 : jN (10 * w) + 1 = jN (10 * w + 1) := i10 w 1
  have e2 : jN (10 * w) + 2 = jN (10 * w + 2) := i10 w 2
  have e3 : jN (10 * w) + 3 = jN (10 * w + 3) := i10 w 3
  have c0 : 0 ≤ jN (10 * w) ∧ jN (10 * w) < 80 := r80 (i := 0) hw (by decide)
  have t0 : (jN (10 * w)).toNatClampNeg = 10 * w := t80 (i := 0) hw (by decide)
  have r1 := r80 (i := 1) hw (by decide)
  have r2 := r80 (i := 2) hw (by decide)
  have r3 := r80 (i := 3) hw (by decide)
  have r4 := r80 (i := 4) hw (by decide)
  have t1 := t80 (i := 1) hw (by decide)
  have t2 := t80 (i := 2) hw (by decide)
  have t3 := t80 (i := 3) hw (by decide)
  have t4 := t80 (i := 4) hw (by decide)
  have c8 : 0 ≤ jN w ∧ jN w < 8 := jN_in (n := 8) hw (by decide)
  have tw := jN_tc (k := w) (by omega)
  have hnx := day_next hd
  have wdE : irem (J 48 (10 * w + 3) + 1) 7 = (if 6 ≤ J 48 (10 * w + 3) then 0 else J 48 (10 * w + 3) + 1) := by
    have := (cyc0 (k := V) (b := 7) (by omega) (by decide)).1
    rw [hV.1]
    exact this
  have moE : irem (J 48 (10 * w + 1)) 12 + 1 = f_Ca_nextMonth (J 48 (10 * w + 1)) := by
    have := (cyc (k := M) (b := 12) hM.2.1 hM.2.2 (by decide)).1
    rw [hM.1]
    exact this
  have yrE : irem (J 48 (10 * w + 2)) 9999 + 1 = (if 9999 ≤ J 48 (10 * w + 2) then 1 else J 48 (10 * w + 2) + 1) := by
    have := (cyc (k := Y) (b := 9999) hY.2.1 hY.2.2 (by decide)).1
    rw [hY.1]
    exact this
  -- the number of the day first
  have key : ∀ num : Int32, DAY num (sd 3 tm ty td) (sm 3 tm ty td) (sy 3 tm ty td) → ∃ J', f_Md_nextDay_L45 (jN w) (jN (10 * w)) (jN (10 * w + 4)) num J K = some (J', K) ∧ (J' 48 (10 * w) = sd (J 44 w) (J 48 (10 * w + 1)) (J 48 (10 * w + 2)) (J 48 (10 * w)) ∧ J' 48 (10 * w + 1) = sm (J 44 w) (J 48 (10 * w + 1)) (J 48 (10 * w + 2)) (J 48 (10 * w)) ∧ J' 48 (10 * w + 2) = sy (J 44 w) (J 48 (10 * w + 1)) (J 48 (10 * w + 2)) (J 48 (10 * w)) ∧ J' 48 (10 * w + 3) = (if 6 ≤ J 48 (10 * w + 3) then 0 else J 48 (10 * w + 3) + 1)) ∧ DAY (J' 48 (10 * w + 4)) (sd 3 tm ty td) (sm 3 tm ty td) (sy 3 tm ty td) ∧ J' 48 (10 * w + 5) = (if J' 48 (10 * w) = sd 3 tm ty td ∧ J' 48 (10 * w + 1) = sm 3 tm ty td then J 48 (10 * w + 5) else J 48 (10 * w + 5) + 1) ∧ ∀ a j, ¬ (a = 48 ∧ 10 * w ≤ j ∧ j ≤ 10 * w + 5) → (a = 34 → j ≠ 45 ∧ j ≠ 46 ∧ j ≠ 47) → J' a j = J a j := by
    intro num hnum
    have fin : ∀ J2 : Nat → Nat → Int32, J2 48 (10 * w) = sd (J 44 w) (J 48 (10 * w + 1)) (J 48 (10 * w + 2)) (J 48 (10 * w)) → J2 48 (10 * w + 1) = sm (J 44 w) (J 48 (10 * w + 1)) (J 48 (10 * w + 2)) (J 48 (10 * w)) → J2 48 (10 * w + 2) = sy (J 44 w) (J 48 (10 * w + 1)) (J 48 (10 * w + 2)) (J 48 (10 * w)) → J2 48 (10 * w + 3) = (if 6 ≤ J 48 (10 * w + 3) then 0 else J 48 (10 * w + 3) + 1) → J2 48 (10 * w + 4) = num → J2 48 (10 * w + 5) = J 48 (10 * w + 5) → (∀ a j, ¬ (a = 48 ∧ 10 * w ≤ j ∧ j ≤ 10 * w + 5) → J2 a j = J a j) → ∃ J', f_Md_nextDay_L176 (jN w) (jN (10 * w)) J2 K = some (J', K) ∧ (J' 48 (10 * w) = sd (J 44 w) (J 48 (10 * w + 1)) (J 48 (10 * w + 2)) (J 48 (10 * w)) ∧ J' 48 (10 * w + 1) = sm (J 44 w) (J 48 (10 * w + 1)) (J 48 (10 * w + 2)) (J 48 (10 * w)) ∧ J' 48 (10 * w + 2) = sy (J 44 w) (J 48 (10 * w + 1)) (J 48 (10 * w + 2)) (J 48 (10 * w)) ∧ J' 48 (10 * w + 3) = (if 6 ≤ J 48 (10 * w + 3) then 0 else J 48 (10 * w + 3) + 1)) ∧ DAY (J' 48 (10 * w + 4)) (sd 3 tm ty td) (sm 3 tm ty td) (sy 3 tm ty td) ∧ J' 48 (10 * w + 5) = (if J' 48 (10 * w) = sd 3 tm ty td ∧ J' 48 (10 * w + 1) = sm 3 tm ty td then J 48 (10 * w + 5) else J 48 (10 * w + 5) + 1) ∧ ∀ a j, ¬ (a = 48 ∧ 10 * w ≤ j ∧ j ≤ 10 * w + 5) → (a = 34 → j ≠ 45 ∧ j ≠ 46 ∧ j ≠ 47) → J' a j = J a j := by
      intro J2 f0 f1 f2 f3 f4 f5 f6
      obtain ⟨J', q1, q2, q3⟩ := m176 (J := J2) (K := K) hw (by rw [f4]; exact hnum) (fun k3 z => by
        rw [f6 44 w (by simp)] at k3
        rw [f6 48 (10 * w + 7) (by omega)] at z
        obtain ⟨g1, g2, g3⟩ := hg k3 z
        rw [f0, f1, k3, g1, g2, g3]
        exact ⟨rfl, rfl⟩)
      have u : ∀ i, i ≠ 5 → J' 48 (10 * w + i) = J2 48 (10 * w + i) := fun i hi => q3 48 _ (by omega) (fun q => absurd q (by decide))
      have u0 : J' 48 (10 * w) = J2 48 (10 * w) := u 0 (by decide)
      refine ⟨J', q1, ⟨by rw [u0, f0], by rw [u 1 (by decide), f1], by rw [u 2 (by decide), f2], by rw [u 3 (by decide), f3]⟩, by rw [u 4 (by decide), f4]; exact hnum, ?_, fun a j h1 h2 => ?_⟩
      · rw [q2, u0, u 1 (by decide), f5]
      · rw [q3 a j (fun q => h1 ⟨q.1, by omega⟩) h2, f6 a j h1]
    have v3 : (uI J 48 (10 * w + 4) num) 48 (10 * w + 3) = J 48 (10 * w + 3) := by simp [uI]
    have v0 : ∀ z, (uI (uI J 48 (10 * w + 4) num) 48 (10 * w + 3) z) 48 (10 * w) = J 48 (10 * w) := fun z => by simp [uI]
    have v1 : ∀ z, (uI (uI J 48 (10 * w + 4) num) 48 (10 * w + 3) z) 48 (10 * w + 1) = J 48 (10 * w + 1) := fun z => by simp [uI]
    have v2 : ∀ z, (uI (uI J 48 (10 * w + 4) num) 48 (10 * w + 3) z) 48 (10 * w + 2) = J 48 (10 * w + 2) := fun z => by simp [uI]
    have frm : ∀ (a j : Nat) (z0 z1 z2 z3 : Int32), ¬ (a = 48 ∧ 10 * w ≤ j ∧ j ≤ 10 * w + 5) → (uI (uI (uI (uI (uI J 48 (10 * w + 4) num) 48 (10 * w + 3) z3) 48 (10 * w) z0) 48 (10 * w + 1) z1) 48 (10 * w + 2) z2) a j = J a j := fun a j z0 z1 z2 z3 h => by
      simp only [uI]
      rw [if_neg, if_neg, if_neg, if_neg, if_neg] <;> exact fun q => h ⟨q.1, by omega⟩
    rw [f_Md_nextDay_L45, if_pos r4, t4, e3, if_pos r3, t3, v3]
    simp only [bnd]
    rw [if_pos r3, if_pos c0, t0, v0, if_pos c8, tw, e1, if_pos r1, t1, v1, e2, if_pos r2, t2, v2, wdE, ← len_eq hk]
    by_cases c : f_Ca_length (J 44 w) (J 48 (10 * w + 1)) (J 48 (10 * w + 2)) ≤ J 48 (10 * w)
    · have s0 : sd (J 44 w) (J 48 (10 * w + 1)) (J 48 (10 * w + 2)) (J 48 (10 * w)) = 1 := if_pos c
      have s1 : sm (J 44 w) (J 48 (10 * w + 1)) (J 48 (10 * w + 2)) (J 48 (10 * w)) = f_Ca_nextMonth (J 48 (10 * w + 1)) := if_pos c
      have s2 : sy (J 44 w) (J 48 (10 * w + 1)) (J 48 (10 * w + 2)) (J 48 (10 * w)) = f_Ca_yearBehind (f_Ca_nextMonth (J 48 (10 * w + 1))) (J 48 (10 * w + 2)) := if_pos c
      have v4 : ∀ z, (uI (uI (uI J 48 (10 * w + 4) num) 48 (10 * w + 3) z) 48 (10 * w) 1) 48 (10 * w + 1) = J 48 (10 * w + 1) := fun z => by simp [uI]
      have v5 : ∀ z y, (uI (uI (uI (uI J 48 (10 * w + 4) num) 48 (10 * w + 3) z) 48 (10 * w) 1) 48 (10 * w + 1) y) 48 (10 * w + 1) = y := fun z y => by simp [uI]
      have v6 : ∀ z y, (uI (uI (uI (uI J 48 (10 * w + 4) num) 48 (10 * w + 3) z) 48 (10 * w) 1) 48 (10 * w + 1) y) 48 (10 * w + 2) = J 48 (10 * w + 2) := fun z y => by simp [uI]
      rw [if_pos c, if_pos c0, if_pos r1, v4, moE, if_pos r1, if_pos r1, v5]
      by_cases m1 : f_Ca_nextMonth (J 48 (10 * w + 1)) = 1
      · rw [if_pos m1, if_pos r2, v6, yrE, if_pos r2]
        refine fin _ (by rw [s0]; simp [uI]) (by rw [s1]; simp [uI]) ?_ (by simp [uI]) (by simp [uI]) (by simp [uI]) (fun a j h => frm a j _ _ _ _ h)
        rw [s2, f_Ca_yearBehind, if_pos m1]
        simp [uI]
      · rw [if_neg m1]
        refine fin _ (by rw [s0]; simp [uI]) (by rw [s1]; simp [uI]) ?_ (by simp [uI]) (by simp [uI]) (by simp [uI]) (fun a j h => ?_)
        · rw [s2, f_Ca_yearBehind, if_neg m1]
          simp [uI]
        · simp only [uI]
          rw [if_neg, if_neg, if_neg, if_neg] <;> exact fun q => h ⟨q.1, by omega⟩
    · have s0 : sd (J 44 w) (J 48 (10 * w + 1)) (J 48 (10 * w + 2)) (J 48 (10 * w)) = J 48 (10 * w) + 1 := if_neg c
      have s1 : sm (J 44 w) (J 48 (10 * w + 1)) (J 48 (10 * w + 2)) (J 48 (10 * w)) = J 48 (10 * w + 1) := if_neg c
      have s2 : sy (J 44 w) (J 48 (10 * w + 1)) (J 48 (10 * w + 2)) (J 48 (10 * w)) = J 48 (10 * w + 2) := if_neg c
      rw [if_neg c, if_pos c0, if_pos c0]
      refine fin _ (by rw [s0]; simp [uI]) (by rw [s1]; simp [uI]) (by rw [s2]; simp [uI]) (by simp [uI]) (by simp [uI]) (by simp [uI]) (fun a j h => ?_)
      simp only [uI]
      rw [if_neg, if_neg, if_neg] <;> exact fun q => h ⟨q.1, by omega⟩
  rw [f_Md_nextDay, x10]
  simp only [bnd]
  rw [e4, if_pos r4, t4, if_pos r4]
  by_cases l : J 48 (10 * w + 4) = f_Md_daysBefore 10000 - 1
  · rw [if_pos l] at hnx
    rw [if_pos l]
    exact key 0 hnx
  · rw [if_neg l] at hnx
    rw [if_neg l]
    exact key _ hnx
end CAM

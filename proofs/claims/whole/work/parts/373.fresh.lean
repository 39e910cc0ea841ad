/-! a new movement -/
section FRS
variable {S : List xSh} {Rf : Nat → Nat → Option Nat} {I J : Nat → Nat → Int32} {L K : Nat → Nat → Int64} {k : Nat}
theorem fl_8 (L : Nat → Nat → Int64) : ∀ (m j N : Nat) (I : Nat → Nat → Int32), j + m = 9 → m < N → ∃ I', f_Ar_fill_i_8_L5 N 0 (jN j) 9 I L = some (I', L) ∧ (∀ a i, a ≠ 8 → I' a i = I a i) ∧ (∀ i, j ≤ i → i < 9 → I' 8 i = 0) ∧ ∀ i, i < j → I' 8 i = I 8 i := by
  intro m
  induction m with
  | zero =>
    intro j N I h1 h2
    obtain ⟨N, rfl⟩ : ∃ k, N = k + 1 := ⟨N - 1, by omega⟩
    have : j = 9 := by omega
    subst this
    exact ⟨I, by rw [f_Ar_fill_i_8_L5, if_pos (show (9 : Int32) ≤ jN 9 by decide)], fun _ _ _ => rfl, fun i _ _ => by omega, fun _ _ => rfl⟩
  | succ m ih =>
    intro j N I h1 h2
    obtain ⟨N, rfl⟩ : ∃ k, N = k + 1 := ⟨N - 1, by omega⟩
    have c1 : ¬ (9 : Int32) ≤ jN j := fun q => by have := (jN_le (a := 9) (by decide) (by omega)).mp q; omega
    have c2 : 0 ≤ jN j ∧ jN j < 9 := jN_in (n := 9) (by omega) (by decide)
    obtain ⟨I', e, g1, g2, g3⟩ := ih (j + 1) N (uI I 8 j 0) (by omega) (by omega)
    refine ⟨I', by rw [f_Ar_fill_i_8_L5, if_neg c1, if_pos c2, jN_tc (by omega), jN_1]; exact e, fun a i h => ?_, fun i h h' => ?_, fun i h => ?_⟩
    · rw [g1 a i h]; simp [uI, h]
    · by_cases ej : i = j
      · subst ej
        rw [g3 i (by omega)]
        simp [uI]
      · exact g2 i (by omega) h'
    · rw [g3 i (by omega)]
      have : i ≠ j := by omega
      simp [uI, this]
/-- the class's movement as at first -/
def NEWI (I : Nat → Nat → Int32) (L : Nat → Nat → Int64) : Prop := (I 2 0 = 0 ∧ I 2 1 = 0 ∧ I 2 2 = -1 ∧ I 2 3 = 0 ∧ I 2 4 = 0) ∧ (I 1 1 = 1 ∧ I 1 2 = 0 ∧ I 1 3 = 0 ∧ I 1 4 = 10000000 ∧ I 1 5 = -1) ∧ (∀ j, j < 9 → I 8 j = 0) ∧ (I 1 8 = 0 ∧ I 1 9 = 0 ∧ I 1 10 = -1 ∧ I 1 11 = 0 ∧ I 1 12 = 0 ∧ I 1 13 = 0 ∧ I 1 14 = 0 ∧ I 9 3 = 0 ∧ I 13 3 = 0) ∧ (I 15 3 = 0 ∧ I 0 6 = 0 ∧ I 0 7 = 0 ∧ I 0 8 = 0) ∧ L 1 7 = 0 ∧ ∀ i, i < 24 → L 3 i = 0 ∧ L 4 i = 0 ∧ L 5 i = 0
theorem clr_ok : ∃ I' L', f_H_clearMovement I L = some (I', L') ∧ NEWI I' L' ∧ (∀ a j, a ≠ 0 → a ≠ 1 → a ≠ 2 → a ≠ 8 → ¬ (a = 9 ∧ j = 3) → ¬ (a = 13 ∧ j = 3) → ¬ (a = 15 ∧ j = 3) → I' a j = I a j) ∧ ∀ a j, a ≠ 1 → a ≠ 3 → a ≠ 4 → a ≠ 5 → L' a j = L a j := by
  obtain ⟨Ic, hIc⟩ : ∃ Ic, Ic = uI (uI (uI (uI (uI I 2 0 0) 2 1 0) 2 2 (-1)) 2 3 0) 2 4 0 := ⟨_, rfl⟩
  obtain ⟨L1, e1, f1, z1⟩ := fgt Ic L
  obtain ⟨Ib, hIb⟩ : ∃ Ib, Ib = uI (uI (uI (uI (uI Ic 1 1 1) 1 2 0) 1 3 0) 1 4 10000000) 1 5 (-1) := ⟨_, rfl⟩
  obtain ⟨I8, e2, f2, z2, _⟩ := fl_8 L1 9 0 xF Ib (by omega) (xF_lt (by omega))
  obtain ⟨Ir, hIr⟩ : ∃ Ir, Ir = uI (uI (uI (uI (uI (uI (uI (uI I8 1 8 0) 1 9 0) 1 10 (-1)) 1 11 0) 1 12 0) 1 13 0) 1 14 0) 9 3 0 := ⟨_, rfl⟩
  have oc' : ∀ a j, a ≠ 2 → Ic a j = I a j := fun a j q => by rw [hIc, uI_o (by omega), uI_o (by omega), uI_o (by omega), uI_o (by omega), uI_o (by omega)]
  have ob : ∀ a j, a ≠ 1 → Ib a j = Ic a j := fun a j q => by rw [hIb, uI_o (by omega), uI_o (by omega), uI_o (by omega), uI_o (by omega), uI_o (by omega)]
  have or' : ∀ a j, ¬ (a = 1 ∧ 8 ≤ j ∧ j ≤ 14) → ¬ (a = 9 ∧ j = 3) → Ir a j = I8 a j := fun a j q1 q2 => by
    rw [hIr, uI_o q2, uI_o (by omega), uI_o (by omega), uI_o (by omega), uI_o (by omega), uI_o (by omega), uI_o (by omega), uI_o (by omega)]
  have fin : ∀ a j, ¬ (a = 0 ∧ 6 ≤ j ∧ j ≤ 8) → ¬ (a = 13 ∧ j = 3) → ¬ (a = 15 ∧ j = 3) → (uI (uI (uI (uI (uI Ir 0 6 0) 0 7 0) 13 3 0) 15 3 0) 0 8 0) a j = Ir a j := fun a j q1 q2 q3 => by
    rw [uI_o (by omega), uI_o q3, uI_o q2, uI_o (by omega), uI_o (by omega)]
  refine ⟨uI (uI (uI (uI (uI Ir 0 6 0) 0 7 0) 13 3 0) 15 3 0) 0 8 0, uL L1 1 7 0, ?_, ⟨⟨?_, ?_, ?_, ?_, ?_⟩, ⟨?_, ?_, ?_, ?_, ?_⟩, fun j hj => ?_, ⟨?_, ?_, ?_, ?_, ?_, ?_, ?_, ?_, ?_⟩, ⟨?_, ?_, ?_, ?_⟩, by simp [uL], fun i hi => ?_⟩, fun a j q1 q2 q3 q4 q5 q6 q7 => ?_, fun a j q1 q2 q3 q4 => ?_⟩
  · have e2' : f_Ar_fill_i_8 0 Ib L1 = some (I8, L1) := e2
    have g1 : f_Ge_clear I L = some (Ic, L1) := by rw [f_Ge_clear, ← hIc, e1, Option.bind_some]
    have g2 : f_Es_clear Ic L1 = some (Ir, uL L1 1 7 0) := by
      rw [f_Es_clear, f_Es_setBalance, Option.bind_some]
      simp only []
      rw [← hIb, e2', Option.bind_some]
      simp only []
      rw [f_Es_restart, Option.bind_some, hIr]
    rw [f_H_clearMovement, g1, Option.bind_some]
    simp only []
    rw [g2, Option.bind_some]
  · rw [fin 2 0 (by omega) (by omega) (by omega), or' 2 0 (by omega) (by omega), f2 2 0 (by decide), ob 2 0 (by decide), hIc]; simp [uI]
  · rw [fin 2 1 (by omega) (by omega) (by omega), or' 2 1 (by omega) (by omega), f2 2 1 (by decide), ob 2 1 (by decide), hIc]; simp [uI]
  · rw [fin 2 2 (by omega) (by omega) (by omega), or' 2 2 (by omega) (by omega), f2 2 2 (by decide), ob 2 2 (by decide), hIc]; simp [uI]
  · rw [fin 2 3 (by omega) (by omega) (by omega), or' 2 3 (by omega) (by omega), f2 2 3 (by decide), ob 2 3 (by decide), hIc]; simp [uI]
  · rw [fin 2 4 (by omega) (by omega) (by omega), or' 2 4 (by omega) (by omega), f2 2 4 (by decide), ob 2 4 (by decide), hIc]; simp [uI]
  · rw [fin 1 1 (by omega) (by omega) (by omega), or' 1 1 (by omega) (by omega), f2 1 1 (by decide), hIb]; simp [uI]
  · rw [fin 1 2 (by omega) (by omega) (by omega), or' 1 2 (by omega) (by omega), f2 1 2 (by decide), hIb]; simp [uI]
  · rw [fin 1 3 (by omega) (by omega) (by omega), or' 1 3 (by omega) (by omega), f2 1 3 (by decide), hIb]; simp [uI]
  · rw [fin 1 4 (by omega) (by omega) (by omega), or' 1 4 (by omega) (by omega), f2 1 4 (by decide), hIb]; simp [uI]
  · rw [fin 1 5 (by omega) (by omega) (by omega), or' 1 5 (by omega) (by omega), f2 1 5 (by decide), hIb]; simp [uI]
  · rw [fin 8 j (by omega) (by omega) (by omega), or' 8 j (by omega) (by omega)]; exact z2 j (by omega) hj
  · rw [fin 1 8 (by omega) (by omega) (by omega), hIr]; simp [uI]
  · rw [fin 1 9 (by omega) (by omega) (by omega), hIr]; simp [uI]
  · rw [fin 1 10 (by omega) (by omega) (by omega), hIr]; simp [uI]
  · rw [fin 1 11 (by omega) (by omega) (by omega), hIr]; simp [uI]
  · rw [fin 1 12 (by omega) (by omega) (by omega), hIr]; simp [uI]
  · rw [fin 1 13 (by omega) (by omega) (by omega), hIr]; simp [uI]
  · rw [fin 1 14 (by omega) (by omega) (by omega), hIr]; simp [uI]
  · rw [fin 9 3 (by omega) (by omega) (by omega), hIr]; simp [uI]
  · simp [uI]
  · simp [uI]
  · simp [uI]
  · simp [uI]
  · simp [uI]
  · simp [uL]; exact z1 i hi
  · rw [fin a j (by omega) q6 q7, or' a j (by omega) q5, f2 a j q4, ob a j q2, oc' a j q3]
  · rw [uL_o (by omega), f1 a j q2 q3 q4]
/-- the reference's movement as at first -/
def NEWJ (J : Nat → Nat → Int32) (K : Nat → Nat → Int64) : Prop := (J 34 0 = 0 ∧ J 34 1 = 0 ∧ J 34 8 = -1 ∧ J 34 9 = 0) ∧ (J 34 10 = 1 ∧ J 34 11 = 0 ∧ J 34 12 = 0 ∧ J 34 13 = 10000000 ∧ J 34 14 = -1) ∧ (∀ j, j < 9 → J 41 j = 0) ∧ (J 34 25 = 0 ∧ J 34 26 = 0 ∧ J 34 27 = 0 ∧ J 34 28 = 0 ∧ J 34 29 = -1 ∧ J 34 30 = 0 ∧ J 34 31 = 0 ∧ J 34 40 = 0) ∧ (J 34 42 = 0 ∧ J 34 16 = 0 ∧ J 34 22 = 0 ∧ J 34 24 = 0) ∧ K 34 32 = 0
theorem b53 (x : Int32) : ∀ (m j N : Nat) (J : Nat → Nat → Int32), j + m = 9 → m < N → ∃ J', f_Md_build_L53 N x (jN j) J K = ((f_Md_renew (uI (uI (uI (uI J' 34 16 0) 34 22 0) 34 24 0) 34 42 0) K).bind fun q3 => some (x, q3.1, q3.2)) ∧ (∀ a i, a ≠ 41 → J' a i = J a i) ∧ (∀ i, j ≤ i → i < 9 → J' 41 i = 0) ∧ ∀ i, i < j → J' 41 i = J 41 i := by
  intro m
  induction m with
  | zero =>
    intro j N J h1 h2
    obtain ⟨N, rfl⟩ : ∃ k, N = k + 1 := ⟨N - 1, by omega⟩
    have : j = 9 := by omega
    subst this
    exact ⟨J, by rw [f_Md_build_L53, if_pos (show (9 : Int32) ≤ jN 9 by decide)], fun _ _ _ => rfl, fun i _ _ => by omega, fun _ _ => rfl⟩
  | succ m ih =>
    intro j N J h1 h2
    obtain ⟨N, rfl⟩ : ∃ k, N = k + 1 := ⟨N - 1, by omega⟩
    have c1 : ¬ (9 : Int32) ≤ jN j := fun q => by have := (jN_le (a := 9) (by decide) (by omega)).mp q; omega
    have c2 : 0 ≤ jN j ∧ jN j < 9 := jN_in (n := 9) (by omega) (by decide)
    obtain ⟨I', e, g1, g2, g3⟩ := ih (j + 1) N (uI J 41 j 0) (by omega) (by omega)
    refine ⟨I', by rw [f_Md_build_L53, if_neg c1, if_pos c2, jN_tc (by omega), jN_1]; exact e, fun a i h => ?_, fun i h h' => ?_, fun i h => ?_⟩
    · rw [g1 a i h]; simp [uI, h]
    · by_cases ej : i = j
      · subst ej
        rw [g3 i (by omega)]
        simp [uI]
      · exact g2 i (by omega) h'
    · rw [g3 i (by omega)]
      have : i ≠ j := by omega
      simp [uI, this]
theorem bld_ok : ∃ J' K', f_Md_build J K = some (J 34 42, J', K') ∧ NEWJ J' K' ∧ J' 34 43 = J 34 43 ∧ ∀ j, J' 56 j = J 56 j := by
  obtain ⟨J0, hJ0⟩ : ∃ J0, J0 = uI (uI (uI (uI (uI (uI (uI (uI (uI J 34 0 0) 34 1 0) 34 8 (-1)) 34 9 0) 34 10 1) 34 11 0) 34 12 0) 34 13 10000000) 34 14 (-1) := ⟨_, rfl⟩
  obtain ⟨J1, e1, f1, z1, _⟩ := b53 (K := K) (J 34 42) 9 0 xF J0 (by omega) (xF_lt (by omega))
  obtain ⟨J2, hJ2⟩ : ∃ J2, J2 = uI (uI (uI (uI J1 34 16 0) 34 22 0) 34 24 0) 34 42 0 := ⟨_, rfl⟩
  rw [← hJ2] at e1
  obtain ⟨J3, b1, b2, b3⟩ := ren_ok (A := 0) (J := J2) (K := K) (nw := 0) (nc := 0) ⟨by rw [hJ2]; simp [uI]; rfl, by omega⟩ ⟨by rw [hJ2]; simp [uI]; rfl, by omega⟩ (fun w hw => by omega)
  have e1' : f_Md_build_L53 xF (J 34 42) 0 J0 K = _ := e1
  have o2 : ∀ a j, ¬ (a = 34 ∧ (j = 16 ∨ j = 22 ∨ j = 24 ∨ j = 42)) → J2 a j = J1 a j := fun a j q => by rw [hJ2, uI_o (by omega), uI_o (by omega), uI_o (by omega), uI_o (by omega)]
  have p : ∀ j, ¬ (25 ≤ j ∧ j ≤ 31) → j ≠ 40 → j ≠ 45 → j ≠ 46 → j ≠ 47 → J3 34 j = J2 34 j := fun j q1 q2 q3 q4 q5 => b3 34 j (by omega) (by omega)
  have p2 : ∀ j, ¬ (25 ≤ j ∧ j ≤ 31) → j ≠ 40 → j ≠ 45 → j ≠ 46 → j ≠ 47 → j ≠ 16 → j ≠ 22 → j ≠ 24 → j ≠ 42 → J3 34 j = J0 34 j := fun j q1 q2 q3 q4 q5 q6 q7 q8 q9 => by
    rw [p j q1 q2 q3 q4 q5, o2 34 j (by omega), f1 34 j (by decide)]
  have eb : f_Md_build J K = some (J 34 42, J3, uL K 34 32 0) := by
    rw [f_Md_build]
    simp only [bnd]
    rw [← hJ0, e1', b1, Option.bind_some]
  refine ⟨J3, uL K 34 32 0, eb, ⟨⟨?_, ?_, ?_, ?_⟩, ⟨?_, ?_, ?_, ?_, ?_⟩, fun j hj => ?_, b2.2.1, ⟨?_, ?_, ?_, ?_⟩, by simp [uL]⟩, ?_, fun j => ?_⟩
  · rw [p2 0 (by omega) (by omega) (by omega) (by omega) (by omega) (by omega) (by omega) (by omega) (by omega), hJ0]; simp [uI]
  · rw [p2 1 (by omega) (by omega) (by omega) (by omega) (by omega) (by omega) (by omega) (by omega) (by omega), hJ0]; simp [uI]
  · rw [p2 8 (by omega) (by omega) (by omega) (by omega) (by omega) (by omega) (by omega) (by omega) (by omega), hJ0]; simp [uI]
  · rw [p2 9 (by omega) (by omega) (by omega) (by omega) (by omega) (by omega) (by omega) (by omega) (by omega), hJ0]; simp [uI]
  · rw [p2 10 (by omega) (by omega) (by omega) (by omega) (by omega) (by omega) (by omega) (by omega) (by omega), hJ0]; simp [uI]
  · rw [p2 11 (by omega) (by omega) (by omega) (by omega) (by omega) (by omega) (by omega) (by omega) (by omega), hJ0]; simp [uI]
  · rw [p2 12 (by omega) (by omega) (by omega) (by omega) (by omega) (by omega) (by omega) (by omega) (by omega), hJ0]; simp [uI]
  · rw [p2 13 (by omega) (by omega) (by omega) (by omega) (by omega) (by omega) (by omega) (by omega) (by omega), hJ0]; simp [uI]
  · rw [p2 14 (by omega) (by omega) (by omega) (by omega) (by omega) (by omega) (by omega) (by omega) (by omega), hJ0]; simp [uI]
  · rw [b3 41 j (by omega) (by omega), o2 41 j (by omega)]; exact z1 j (by omega) hj
  · rw [p 42 (by omega) (by omega) (by omega) (by omega) (by omega), hJ2]; simp [uI]
  · rw [p 16 (by omega) (by omega) (by omega) (by omega) (by omega), hJ2]; simp [uI]
  · rw [p 22 (by omega) (by omega) (by omega) (by omega) (by omega), hJ2]; simp [uI]
  · rw [p 24 (by omega) (by omega) (by omega) (by omega) (by omega), hJ2]; simp [uI]
  · rw [p2 43 (by omega) (by omega) (by omega) (by omega) (by omega) (by omega) (by omega) (by omega) (by omega), hJ0]; simp [uI]
  · rw [b3 56 j (by omega) (by omega), o2 56 j (by omega), f1 56 j (by decide), hJ0]; simp [uI]
theorem spc_0 (h1 : I 2 1 = 0) (h2 : I 2 2 = -1) (h4 : I 2 4 = 0) (hL : ∀ i, i < 24 → L 3 i = 0 ∧ L 4 i = 0) : SPC I L := by
  intro J K A0 A nl hG
  obtain ⟨⟨g1, g2, g3, g4, g5, g6, g7⟩, g8, g9⟩ := hG
  have n0 : nl = 0 := by
    rw [h1] at g4
    exact ((jN_inj (a := 0) (by decide) (by omega)).mp g4).symm
  subst n0
  have e8 : J 34 8 = -1 := by
    rcases g9 with q | ⟨e, q1, q2, q3⟩
    · exact q.2
    · rw [h2] at q2
      have ge : (0 : Int32) ≤ jN e := jN_ge0 (by omega)
      rw [← q2] at ge
      exact absurd ge (by decide)
  obtain ⟨J', K', e, f, z, _⟩ := sp2 g3 A 0 xF J K (by omega) (xF_lt (by omega)) g6
  have es : f_Md_speeds J K = f_Md_speeds_L51 xF 1 J' K' := e
  obtain ⟨N, hN⟩ := xF_10
  have j1 : J' 34 1 = jN 0 := by rw [f 34 1 (by decide)]; exact g7
  have r59 : ∀ k51, f_Md_speeds_L59 k51 xF 0 0 J' K' = k51 0 J' K' := fun k51 => by
    rw [hN, show N + 10 = N + 9 + 1 by omega, f_Md_speeds_L59, j1, if_pos (by decide)]
  have r51 : f_Md_speeds_L51 xF 1 J' K' = some (J', K') := by
    rw [hN, show N + 10 = N + 8 + 1 + 1 by omega, f_Md_speeds_L51, if_neg (by decide), r59, f_Md_speeds_L51, if_pos rfl]
  have rl : f_Md_isLocked J' K' = some (0, J', K') := by
    rw [f_Md_isLocked, hN, show N + 10 = N + 9 + 1 by omega, f_Md_isLocked_L2, j1, if_pos (by decide)]
  refine ⟨J', K', K', by rw [es]; exact r51, by rw [h4]; exact rl, fun a ha => Or.inl ⟨?_, (hL a (by omega)).2, (hL a (by omega)).1⟩⟩
  rw [(z a (by omega) ha).1, e8, if_neg]
  intro q
  have ge : (0 : Int32) ≤ jN a := jN_ge0 (by omega)
  rw [q] at ge
  exact absurd ge (by decide)
theorem MOV_0 (hS : SHP k S Rf) (hI : NEWI I L) (hJ : NEWJ J K) (i9 : I 9 0 = 2 ∧ I 9 1 = 3000) (i13 : I 13 0 = 3 ∧ I 13 1 = 1000) (i15 : I 15 0 = 4 ∧ I 15 1 = 2000) (j43 : J 34 43 = 0) (j56 : ∀ j, J 56 j = 0) : MOV k S Rf I J L K := by
  obtain ⟨⟨a0, a1, a2, a3, a4⟩, ⟨b1, b2, b3, b4, b5⟩, c, ⟨d8, d9, d10, d11, d12, d13, d14, d93, d133⟩, ⟨e1, e2, e3, e4⟩, l7, l3⟩ := hI
  obtain ⟨⟨p0, p1, p8, p9⟩, ⟨q10, q11, q12, q13, q14⟩, t, ⟨u25, u26, u27, u28, u29, u30, u31, u40⟩, ⟨v42, v16, v22, v24⟩, k32⟩ := hJ
  have u20 : uI I 2 0 (jN 0) = I := by
    funext a j
    by_cases z : a = 2 ∧ j = 0
    · obtain ⟨rfl, rfl⟩ := z
      simp [uI, a0]; rfl
    · exact uI_o z
  have gr : GRS 0 0 0 0 I J L := by
    refine ⟨?_, a0, by rw [u20]; exact spc_0 a1 a2 a4 (fun i hi => ⟨(l3 i hi).1, (l3 i hi).2.1⟩), ⟨by omega, a3, p9⟩, Or.inr ⟨a2, fun a ha => (l3 a ha).2.1⟩, fun a ha => ?_, Or.inl a4⟩
    · rw [u20]
      exact ⟨⟨a0, Nat.le_refl _, by omega, a1, by omega, p0, p1⟩, fun l hl => by omega, Or.inl ⟨a2, p8⟩⟩
    · rw [(l3 a ha).2.2, (l3 a ha).2.1, Int64.zero_mul, Int64.zero_mul]
  refine MOV_b (nc := 0) (nw := 0) (pc := fun _ => 0) (pw := fun _ => 0) (n := 0) (s := 0) hS j56 e4 v24 gr ⟨?_, WND_b gr ⟨d12, u25⟩ (by rw [b5, q14]) (Or.inl b5) l7 k32, ⟨⟨by rw [b1, q10], by rw [b2, q11], by rw [b3, q12], by rw [b4, q13]⟩, by rw [b2]; decide, by rw [b4]; decide⟩, fun j hj => by rw [c j hj, t j hj], ⟨fun c hc => by omega, fun w hw => by omega, fun a b ha => by omega, fun a b ha => by omega⟩, ⟨e3, v22, by omega, fun c hc => by omega⟩, ⟨e2, v16, by omega, fun w hw => by omega⟩, ⟨0, by omega, d133, u40, i13.1, i13.2, fun j hj => by omega⟩, ⟨fun c hc => by omega, fun w hw => by omega⟩⟩ ⟨i15, e1, v42, by omega, j43, fun j hj => by omega⟩ ⟨fun _ _ _ => rfl, ⟨d8, d9, d10, d11, d12, d13, d14, d93, d133⟩, l7, fun _ _ _ => rfl, fun c hc => by omega, fun w hw => by omega⟩ ⟨fun _ _ _ => rfl, ⟨u25, u26, u27, u28, u29, u30, u31, u40⟩, k32, fun _ _ => ⟨rfl, fun _ => ⟨rfl, rfl⟩⟩, fun c hc => by omega, fun w hw => by omega⟩
  exact ⟨⟨Nat.le_refl _, by omega⟩, ⟨d12, u25, d93⟩, ⟨d11, u26⟩, ⟨by rw [d8, u27], by rw [d8]; decide, by rw [d8]; decide⟩, ⟨by rw [d9, u28], by rw [d9]; decide, by rw [d9]; decide⟩, ⟨by rw [d10, u29], Or.inr d10⟩, by rw [d13, u30], by rw [d14, u31], i9, fun j hj => by omega⟩
theorem op_build (h : MOV k S Rf I J L K) : RES (k + 1) S Rf (f_H_build I L) (f_Md_build J K) := by
  obtain ⟨h1, h2, ⟨h3, h4⟩, A, A0, T, nl, nc, nw, pc, pw, r, n, s, g1, g2, g3, g4, g5⟩ := h
  obtain ⟨I', L', a1, a2, a3, a4⟩ := clr_ok (I := I) (L := L)
  obtain ⟨J', K', b1, b2, b3, b4⟩ := bld_ok (J := J) (K := K)
  obtain ⟨x1, x2⟩ := g2.1.2.2.2.2.2.2.2.2.1
  obtain ⟨_, _, _, _, y1, y2, _⟩ := g2.2.2.2.2.2.2.2.1
  refine ⟨J 34 42, I', L', J', K', ?_, b1, MOV_0 (SHP_mono h1 (by omega)) a2 b2 ⟨?_, ?_⟩ ⟨?_, ?_⟩ ⟨?_, ?_⟩ (by rw [b3]; exact g3.2.2.2.2.1) (fun j => by rw [b4]; exact h2 j)⟩
  · rw [f_H_build, a1, g3.2.1, g3.2.2.1]
    rfl
  · rw [a3 9 0 (by omega) (by omega) (by omega) (by omega) (by omega) (by omega) (by omega)]; exact x1
  · rw [a3 9 1 (by omega) (by omega) (by omega) (by omega) (by omega) (by omega) (by omega)]; exact x2
  · rw [a3 13 0 (by omega) (by omega) (by omega) (by omega) (by omega) (by omega) (by omega)]; exact y1
  · rw [a3 13 1 (by omega) (by omega) (by omega) (by omega) (by omega) (by omega) (by omega)]; exact y2
  · rw [a3 15 0 (by omega) (by omega) (by omega) (by omega) (by omega) (by omega) (by omega)]; exact g3.1.1
  · rw [a3 15 1 (by omega) (by omega) (by omega) (by omega) (by omega) (by omega) (by omega)]; exact g3.1.2
end FRS

/-! the movement's gears: findSpeeds and speeds -/
theorem fl_3 (I : Nat → Nat → Int32) : ∀ (m j N : Nat) (L : Nat → Nat → Int64), j + m = 24 → m < N → ∃ L', f_Ar_fill_l_3_L6 N 0 (jN j) 24 I L = some (I, L') ∧ (∀ a i, a ≠ 3 → L' a i = L a i) ∧ (∀ i, j ≤ i → i < 24 → L' 3 i = 0) ∧ ∀ i, i < j → L' 3 i = L 3 i := by
  intro m
  induction m with
  | zero =>
    intro j N L h1 h2
    obtain ⟨N, rfl⟩ : ∃ k, N = k + 1 := ⟨N - 1, by omega⟩
    have : j = 24 := by omega
    subst this
    exact ⟨L, by rw [f_Ar_fill_l_3_L6, if_pos (show (24 : Int32) ≤ jN 24 by decide)], fun _ _ _ => rfl, fun i _ _ => by omega, fun _ _ => rfl⟩
  | succ m ih =>
    intro j N L h1 h2
    obtain ⟨N, rfl⟩ : ∃ k, N = k + 1 := ⟨N - 1, by omega⟩
    have c1 : ¬ (24 : Int32) ≤ jN j := fun q => by have := (jN_le (a := 24) (by decide) (by omega)).mp q; omega
    have c2 : 0 ≤ jN j ∧ jN j < 24 := jN_in (n := 24) (by omega) (by decide)
    obtain ⟨L', e, g1, g2, g3⟩ := ih (j + 1) N (uL L 3 j 0) (by omega) (by omega)
    refine ⟨L', by rw [f_Ar_fill_l_3_L6, if_neg c1, if_pos c2, jN_tc (by omega), jN_1]; exact e, fun a i h => ?_, fun i h h' => ?_, fun i h => ?_⟩
    · rw [g1 a i h]; simp [uL, h]
    · by_cases ej : i = j
      · subst ej
        rw [g3 i (by omega)]
        simp [uL]
      · exact g2 i (by omega) h'
    · rw [g3 i (by omega)]
      have : i ≠ j := by omega
      simp [uL, this]
theorem fl_4 (I : Nat → Nat → Int32) : ∀ (m j N : Nat) (L : Nat → Nat → Int64), j + m = 24 → m < N → ∃ L', f_Ar_fill_l_4_L6 N 0 (jN j) 24 I L = some (I, L') ∧ (∀ a i, a ≠ 4 → L' a i = L a i) ∧ (∀ i, j ≤ i → i < 24 → L' 4 i = 0) ∧ ∀ i, i < j → L' 4 i = L 4 i := by
  intro m
  induction m with
  | zero =>
    intro j N L h1 h2
    obtain ⟨N, rfl⟩ : ∃ k, N = k + 1 := ⟨N - 1, by omega⟩
    have : j = 24 := by omega
    subst this
    exact ⟨L, by rw [f_Ar_fill_l_4_L6, if_pos (show (24 : Int32) ≤ jN 24 by decide)], fun _ _ _ => rfl, fun i _ _ => by omega, fun _ _ => rfl⟩
  | succ m ih =>
    intro j N L h1 h2
    obtain ⟨N, rfl⟩ : ∃ k, N = k + 1 := ⟨N - 1, by omega⟩
    have c1 : ¬ (24 : Int32) ≤ jN j := fun q => by have := (jN_le (a := 24) (by decide) (by omega)).mp q; omega
    have c2 : 0 ≤ jN j ∧ jN j < 24 := jN_in (n := 24) (by omega) (by decide)
    obtain ⟨L', e, g1, g2, g3⟩ := ih (j + 1) N (uL L 4 j 0) (by omega) (by omega)
    refine ⟨L', by rw [f_Ar_fill_l_4_L6, if_neg c1, if_pos c2, jN_tc (by omega), jN_1]; exact e, fun a i h => ?_, fun i h h' => ?_, fun i h => ?_⟩
    · rw [g1 a i h]; simp [uL, h]
    · by_cases ej : i = j
      · subst ej
        rw [g3 i (by omega)]
        simp [uL]
      · exact g2 i (by omega) h'
    · rw [g3 i (by omega)]
      have : i ≠ j := by omega
      simp [uL, this]
theorem fl_5 (I : Nat → Nat → Int32) : ∀ (m j N : Nat) (L : Nat → Nat → Int64), j + m = 24 → m < N → ∃ L', f_Ar_fill_l_5_L6 N 0 (jN j) 24 I L = some (I, L') ∧ (∀ a i, a ≠ 5 → L' a i = L a i) ∧ (∀ i, j ≤ i → i < 24 → L' 5 i = 0) ∧ ∀ i, i < j → L' 5 i = L 5 i := by
  intro m
  induction m with
  | zero =>
    intro j N L h1 h2
    obtain ⟨N, rfl⟩ : ∃ k, N = k + 1 := ⟨N - 1, by omega⟩
    have : j = 24 := by omega
    subst this
    exact ⟨L, by rw [f_Ar_fill_l_5_L6, if_pos (show (24 : Int32) ≤ jN 24 by decide)], fun _ _ _ => rfl, fun i _ _ => by omega, fun _ _ => rfl⟩
  | succ m ih =>
    intro j N L h1 h2
    obtain ⟨N, rfl⟩ : ∃ k, N = k + 1 := ⟨N - 1, by omega⟩
    have c1 : ¬ (24 : Int32) ≤ jN j := fun q => by have := (jN_le (a := 24) (by decide) (by omega)).mp q; omega
    have c2 : 0 ≤ jN j ∧ jN j < 24 := jN_in (n := 24) (by omega) (by decide)
    obtain ⟨L', e, g1, g2, g3⟩ := ih (j + 1) N (uL L 5 j 0) (by omega) (by omega)
    refine ⟨L', by rw [f_Ar_fill_l_5_L6, if_neg c1, if_pos c2, jN_tc (by omega), jN_1]; exact e, fun a i h => ?_, fun i h h' => ?_, fun i h => ?_⟩
    · rw [g1 a i h]; simp [uL, h]
    · by_cases ej : i = j
      · subst ej
        rw [g3 i (by omega)]
        simp [uL]
      · exact g2 i (by omega) h'
    · rw [g3 i (by omega)]
      have : i ≠ j := by omega
      simp [uL, this]
theorem fgt (I : Nat → Nat → Int32) (L : Nat → Nat → Int64) : ∃ L', f_Ge_forgetSpeeds I L = some (I, L') ∧ (∀ a i, a ≠ 3 → a ≠ 4 → a ≠ 5 → L' a i = L a i) ∧ ∀ i, i < 24 → L' 3 i = 0 ∧ L' 4 i = 0 ∧ L' 5 i = 0 := by
  obtain ⟨L1, e1, a1, b1, _⟩ := fl_3 I 24 0 xF L (by omega) (xF_lt (by omega))
  obtain ⟨L2, e2, a2, b2, _⟩ := fl_4 I 24 0 xF L1 (by omega) (xF_lt (by omega))
  obtain ⟨L3, e3, a3, b3, _⟩ := fl_5 I 24 0 xF L2 (by omega) (xF_lt (by omega))
  have e1' : f_Ar_fill_l_3 0 I L = some (I, L1) := e1
  have e2' : f_Ar_fill_l_4 0 I L1 = some (I, L2) := e2
  have e3' : f_Ar_fill_l_5 0 I L2 = some (I, L3) := e3
  refine ⟨L3, ?_, fun a i h3 h4 h5 => ?_, fun i hi => ⟨?_, ?_, ?_⟩⟩
  · rw [f_Ge_forgetSpeeds, e1', Option.bind_some]
    simp only []
    rw [e2', Option.bind_some]
    simp only []
    rw [e3', Option.bind_some]
  · rw [a3 a i h5, a2 a i h4, a1 a i h3]
  · rw [a3 3 i (by decide), a2 3 i (by decide), b1 i (by omega) hi]
  · rw [a3 4 i (by decide), b2 i (by omega) hi]
  · exact b3 i (by omega) hi
/-- the periods -/
theorem pds (I : Nat → Nat → Int32) : ∀ (m j N : Nat) (L : Nat → Nat → Int64), j + m = 24 → m < N → ∃ L', f_Ge_findSpeeds_L62 N (jN j) I L = ((f_Ge_isSomeLinkBroken I L').bind fun q6 => (if (q6.1 = (0 : Int32) ∨ q6.1 = (1 : Int32)) then (some ((uI q6.2.1 2 4 q6.1), q6.2.2)) else none)) ∧ (∀ a i, a ≠ 5 → L' a i = L a i) ∧ (∀ i, j ≤ i → i < 24 → L' 5 i = (L 4 i * 2) * (I 2 3).toInt64) ∧ ∀ i, i < j → L' 5 i = L 5 i := by
  intro m
  induction m with
  | zero =>
    intro j N L h1 h2
    obtain ⟨N, rfl⟩ : ∃ k, N = k + 1 := ⟨N - 1, by omega⟩
    have : j = 24 := by omega
    subst this
    exact ⟨L, by rw [f_Ge_findSpeeds_L62, if_pos (show (24 : Int32) ≤ jN 24 by decide)], fun _ _ _ => rfl, fun i _ _ => by omega, fun _ _ => rfl⟩
  | succ m ih =>
    intro j N L h1 h2
    obtain ⟨N, rfl⟩ : ∃ k, N = k + 1 := ⟨N - 1, by omega⟩
    have c1 : ¬ (24 : Int32) ≤ jN j := fun q => by have := (jN_le (a := 24) (by decide) (by omega)).mp q; omega
    have c2 : 0 ≤ jN j ∧ jN j < 24 := jN_in (n := 24) (by omega) (by decide)
    obtain ⟨L', e, g1, g2, g3⟩ := ih (j + 1) N (uL L 5 j ((L 4 j * 2) * (I 2 3).toInt64)) (by omega) (by omega)
    refine ⟨L', ?_, fun a i h => ?_, fun i h h' => ?_, fun i h => ?_⟩
    · rw [f_Ge_findSpeeds_L62, if_neg c1, if_pos c2, jN_tc (by omega), jN_1]
      simp only [bnd]
      rw [if_pos c2]
      exact e
    · rw [g1 a i h]; simp [uL, h]
    · by_cases ej : i = j
      · subst ej
        rw [g3 i (by omega)]
        simp [uL]
      · rw [g2 i (by omega) h']
        simp [uL]
    · rw [g3 i (by omega)]
      have : i ≠ j := by omega
      simp [uL, this]
/-- the reference begins -/
theorem sp2 {A : Nat} (hA : A ≤ 24) : ∀ (m j N : Nat) (J : Nat → Nat → Int32) (K : Nat → Nat → Int64), j + m = A → m < N → J 34 0 = jN A → ∃ J' K', f_Md_speeds_L2 N (jN j) J K = f_Md_speeds_L51 xF 1 J' K' ∧ (∀ a i, a ≠ 57 → J' a i = J a i) ∧ (∀ i, j ≤ i → i < A → J' 57 i = (if jN i = J 34 8 then 1 else 0) ∧ K' 58 i = 1 ∧ K' 59 i = 1) ∧ ∀ i, i < j → J' 57 i = J 57 i ∧ K' 58 i = K 58 i ∧ K' 59 i = K 59 i := by
  intro m
  induction m with
  | zero =>
    intro j N J K h1 h2 h3
    obtain ⟨N, rfl⟩ : ∃ k, N = k + 1 := ⟨N - 1, by omega⟩
    have : j = A := by omega
    subst this
    exact ⟨J, K, by rw [f_Md_speeds_L2, h3, if_pos (Int32.le_refl _)], fun _ _ _ => rfl, fun i _ _ => by omega, fun _ _ => ⟨rfl, rfl, rfl⟩⟩
  | succ m ih =>
    intro j N J K h1 h2 h3
    obtain ⟨N, rfl⟩ : ∃ k, N = k + 1 := ⟨N - 1, by omega⟩
    have c1 : ¬ jN A ≤ jN j := fun q => by have := (jN_le (by omega) (by omega)).mp q; omega
    have c2 : 0 ≤ jN j ∧ jN j < 24 := jN_in (n := 24) (by omega) (by decide)
    obtain ⟨J', K', e, g1, g2, g3⟩ := ih (j + 1) N (uI J 57 j (if jN j = J 34 8 then 1 else 0)) (uL (uL K 58 j 1) 59 j 1) (by omega) (by omega) (by simp [uI, h3])
    refine ⟨J', K', ?_, fun a i h => ?_, fun i h h' => ?_, fun i h => ?_⟩
    · rw [← e, f_Md_speeds_L2, h3, if_neg c1]
      by_cases d : jN j = J 34 8
      · rw [if_pos d, if_pos d, f_Md_speeds_L28, if_pos c2, if_pos (Or.inr rfl), if_pos c2, if_pos c2, jN_tc (by omega), jN_1]
      · rw [if_neg d, if_neg d, f_Md_speeds_L28, if_pos c2, if_pos (Or.inl rfl), if_pos c2, if_pos c2, jN_tc (by omega), jN_1]
    · rw [g1 a i h]; simp [uI, h]
    · by_cases ej : i = j
      · subst ej
        obtain ⟨k1, k2, k3⟩ := g3 i (by omega)
        rw [k1, k2, k3]
        simp [uI, uL]
      · obtain ⟨k1, k2, k3⟩ := g2 i (by omega) h'
        rw [k1, k2, k3]
        simp [uI]
    · obtain ⟨k1, k2, k3⟩ := g3 i (by omega)
      rw [k1, k2, k3]
      have : i ≠ j := by omega
      simp [uI, uL, this]

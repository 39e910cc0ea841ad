/-! the movement's gears: locked, and both at their ends -/
section GEH
variable {I J : Nat → Nat → Int32} {L K : Nat → Nat → Int64} {l A0 A nl : Nat}
theorem pl_0 {many : Nat} {arb : Nat → Nat} (hl : l < 40) (h : PL I J L K A0 l many arb) : J 36 l = jN (arb 0) ∧ J 37 l = jN (arb 1) ∧ (many = 3 → J 38 l = jN (arb 2)) := by
  obtain ⟨h1, h2, _⟩ := h
  refine ⟨?_, ?_, fun q => ?_⟩
  · have := (h2 0 (by omega)).2.2 K
    rw [ao_0 hl] at this
    exact Option.some.inj this
  · have := (h2 1 (by omega)).2.2 K
    rw [ao_1 hl] at this
    exact Option.some.inj this
  · have := (h2 2 (by omega)).2.2 K
    rw [ao_2 hl] at this
    exact Option.some.inj this
theorem lk_all {many : Nat} {arb : Nat → Nat} {N : Nat} (hA : A0 ≤ 24) (hl : l < nl) (hnl : nl ≤ 40) (h1 : J 34 1 = jN nl) (h : PL I J L K A0 l many arb) (hk : ∀ i, i < many → sk L J K (arb i)) : f_Md_isLocked_L2 (N + 1) (jN l) J K = f_Md_isLocked_L67 (f_Md_isLocked_L2 N) (jN l) (if ∀ i, i < many → ¬ L 4 (arb i) = 0 then 1 else 0) J K := by
  obtain ⟨e0, e1, e2⟩ := pl_0 (by omega) h
  obtain ⟨g1, g2, g3, g4, _⟩ := h
  have d1 : ¬ jN nl ≤ jN l := fun q => by have := (jN_le (by omega) (by omega)).mp q; omega
  have d2 : 0 ≤ jN l ∧ jN l < 40 := jN_in (n := 40) (by omega) (by decide)
  have p0 := (g2 0 (by omega)).1
  have p1 := (g2 1 (by omega)).1
  have d3 : 0 ≤ jN (arb 0) ∧ jN (arb 0) < 24 := jN_in (n := 24) (by omega) (by decide)
  have d4 : 0 ≤ jN (arb 1) ∧ jN (arb 1) < 24 := jN_in (n := 24) (by omega) (by decide)
  have f0 := sk_57 (hk 0 (by omega))
  have f1 := sk_57 (hk 1 (by omega))
  rw [f_Md_isLocked_L2, h1, if_neg d1, if_pos d2, jN_tc (by omega), e0, if_pos d3, jN_tc (by omega)]
  by_cases a0 : J 57 (arb 0) = 0
  · rw [if_pos a0, if_neg (fun q => q 0 (by omega) (f0.mp a0))]; rfl
  · rw [if_neg a0, if_pos d2, e1, if_pos d4, jN_tc (by omega)]
    by_cases a1 : J 57 (arb 1) = 0
    · rw [if_pos a1, if_neg (fun q => q 1 (by omega) (f1.mp a1))]; rfl
    · rw [if_neg a1, if_pos d2]
      rcases g1 with rfl | rfl
      · rw [if_pos (g3 rfl).2.2, if_pos (fun i hi => by
          have : i = 0 ∨ i = 1 := by omega
          rcases this with rfl | rfl
          · exact fun q => a0 (f0.mpr q)
          · exact fun q => a1 (f1.mpr q))]
        rfl
      · have f2 := sk_57 (hk 2 (by omega))
        have p2 := (g2 2 (by omega)).1
        have d5 : 0 ≤ jN (arb 2) ∧ jN (arb 2) < 24 := jN_in (n := 24) (by omega) (by decide)
        rw [g4 rfl, if_neg (by decide), if_pos d2, e2 rfl, if_pos d5, jN_tc (by omega)]
        by_cases a2 : J 57 (arb 2) = 0
        · rw [if_pos a2, if_neg (fun q => q 2 (by omega) (f2.mp a2))]; rfl
        · rw [if_neg a2, if_pos (fun i hi => by
            have : i = 0 ∨ i = 1 ∨ i = 2 := by omega
            rcases this with rfl | rfl | rfl
            · exact fun q => a0 (f0.mpr q)
            · exact fun q => a1 (f1.mpr q)
            · exact fun q => a2 (f2.mpr q))]
          rfl
theorem lck : ∀ (m l : Nat) (L K : Nat → Nat → Int64), l + m = nl → GS I J L K A0 A nl → ∃ r L' K', (∀ N, m < N → f_Ge_isSomeLinkBroken_L2 N (jN l) I L = some (r, I, L')) ∧ (∀ N, m < N → f_Md_isLocked_L2 N (jN l) J K = some (r, J, K')) ∧ (r = 0 ∨ r = 1) := by
  intro m
  induction m with
  | zero =>
    intro l L K h1 h
    have e : l = nl := by omega
    subst e
    refine ⟨0, L, K, fun N hN => ?_, fun N hN => ?_, Or.inl rfl⟩
    · obtain ⟨N, rfl⟩ : ∃ k, N = k + 1 := ⟨N - 1, by omega⟩
      rw [f_Ge_isSomeLinkBroken_L2, h.1.2.2.2.1, if_pos (Int32.le_refl _)]
    · obtain ⟨N, rfl⟩ : ∃ k, N = k + 1 := ⟨N - 1, by omega⟩
      rw [f_Md_isLocked_L2, h.1.2.2.2.2.2.2, if_pos (Int32.le_refl _)]
  | succ m ih =>
    intro l L K hlm h
    obtain ⟨⟨g1, g2, g3, g4, g5, g6, g7⟩, g8, g9⟩ := id h
    have hl : l < nl := by omega
    obtain ⟨many, arb, pl⟩ := lk_pl (L := L) (K := K) g1 (by omega) (by omega) (g8 l hl)
    obtain ⟨h1, h2, h3, h4, h5⟩ := id pl
    have hm : many ≤ 3 := by omega
    have hk : ∀ i, i < many → sk L J K (arb i) := fun i hi => g9 _ (by have := (h2 i hi).1; omega)
    obtain ⟨c, ec, _, c1⟩ := cu_val (L := L) (K := K) g1 (by omega) (by omega) pl
    obtain ⟨e36, _, _⟩ := pl_0 (by omega) pl
    have d1 : ¬ jN nl ≤ jN l := fun q => by have := (jN_le (by omega) (by omega)).mp q; omega
    have d2 : 0 ≤ jN l ∧ jN l < 40 := jN_in (n := 40) (by omega) (by decide)
    have e3 : jN l * 3 = jN (l * 3) := by have := j3 l 0; simpa [show jN 0 = (0 : Int32) from rfl] using this
    have d3 : 0 ≤ jN (l * 3) ∧ jN (l * 3) < 120 := jN_in (n := 120) (by omega) (by decide)
    have p0 := (h2 0 (by omega)).1
    have q0 := (h2 0 (by omega)).2.1
    rw [Nat.add_zero] at q0
    have d4 : 0 ≤ jN (arb 0) ∧ jN (arb 0) < 24 := jN_in (n := 24) (by omega) (by decide)
    by_cases hall : ∀ i, i < many → ¬ L 4 (arb i) = 0
    · have c0 := c1.mpr hall
      obtain ⟨x, y, _, s1, s2⟩ := h5 0 (by omega) (fun i hi _ => ⟨hk i hi, hall i hi⟩)
      have c5 : ¬ f_Ge_hasArbor (jN (arb 0)) I (uL (uL (uL (uL L 2 10 0) 2 11 0) 2 10 x) 2 11 y) = 0 := by rw [has_1 g1 (by omega) p0]; decide
      have same : GS I J (uL (uL (uL (uL L 2 10 0) 2 11 0) 2 10 x) 2 11 y) (uL (uL K 34 51 x) 34 52 y) A0 A nl := gs_same h (fun a => by simp [uL]) (fun a => by simp [uL])
      obtain ⟨w1, w2, _⟩ := sk_get (hk 0 (by omega)) (hall 0 (by omega))
      have cls : ∀ N, f_Ge_isSomeLinkBroken_L2 (N + 1) (jN l) I L = if L 3 (arb 0) = x then (if L 4 (arb 0) = y then f_Ge_isSomeLinkBroken_L2 N (jN (l + 1)) I (uL (uL (uL (uL L 2 10 0) 2 11 0) 2 10 x) 2 11 y) else some (1, I, (uL (uL (uL (uL L 2 10 0) 2 11 0) 2 10 x) 2 11 y))) else some (1, I, (uL (uL (uL (uL L 2 10 0) 2 11 0) 2 10 x) 2 11 y)) := by
        intro N
        have s1' : f_Ge_solve (jN l) 0 I L = _ := s1
        rw [f_Ge_isSomeLinkBroken_L2, g4, if_neg d1, ec, Option.bind_some, if_pos c0, e3, if_pos d3, jN_tc (by omega), q0]
        simp only [bnd]
        rw [s1', Option.bind_some]
        simp only []
        rw [if_neg c5, if_pos d4, jN_tc (by omega), if_pos d4, jN_1]
        simp [uL]
      have ref : ∀ N, f_Md_isLocked_L2 (N + 1) (jN l) J K = if L 3 (arb 0) = x then (if L 4 (arb 0) = y then f_Md_isLocked_L2 N (jN (l + 1)) J (uL (uL K 34 51 x) 34 52 y) else some (1, J, (uL (uL K 34 51 x) 34 52 y))) else some (1, J, (uL (uL K 34 51 x) 34 52 y)) := by
        intro N
        have s2' : f_Md_tells (jN l) 0 J K = _ := s2
        rw [lk_all (by omega) hl g5 g7 pl hk, if_pos hall, f_Md_isLocked_L67, if_neg (by decide), s2', Option.bind_some]
        simp only []
        rw [if_pos d2, jN_tc (by omega), e36, if_pos d4, jN_tc (by omega), if_pos d2, if_pos d4, jN_1]
        simp only [uL]
        simp [← w1, ← w2, eq_comm]
      by_cases q1 : L 3 (arb 0) = x
      · by_cases q2 : L 4 (arb 0) = y
        · obtain ⟨r, L', K', b1, b2, b3⟩ := ih (l + 1) _ _ (by omega) same
          refine ⟨r, L', K', fun N hN => ?_, fun N hN => ?_, b3⟩
          · obtain ⟨N, rfl⟩ : ∃ k, N = k + 1 := ⟨N - 1, by omega⟩
            rw [cls N, if_pos q1, if_pos q2, b1 N (by omega)]
          · obtain ⟨N, rfl⟩ : ∃ k, N = k + 1 := ⟨N - 1, by omega⟩
            rw [ref N, if_pos q1, if_pos q2, b2 N (by omega)]
        · refine ⟨1, (uL (uL (uL (uL L 2 10 0) 2 11 0) 2 10 x) 2 11 y), (uL (uL K 34 51 x) 34 52 y), fun N hN => ?_, fun N hN => ?_, Or.inr rfl⟩
          · obtain ⟨N, rfl⟩ : ∃ k, N = k + 1 := ⟨N - 1, by omega⟩
            rw [cls N, if_pos q1, if_neg q2]
          · obtain ⟨N, rfl⟩ : ∃ k, N = k + 1 := ⟨N - 1, by omega⟩
            rw [ref N, if_pos q1, if_neg q2]
      · refine ⟨1, (uL (uL (uL (uL L 2 10 0) 2 11 0) 2 10 x) 2 11 y), (uL (uL K 34 51 x) 34 52 y), fun N hN => ?_, fun N hN => ?_, Or.inr rfl⟩
        · obtain ⟨N, rfl⟩ : ∃ k, N = k + 1 := ⟨N - 1, by omega⟩
          rw [cls N, if_neg q1]
        · obtain ⟨N, rfl⟩ : ∃ k, N = k + 1 := ⟨N - 1, by omega⟩
          rw [ref N, if_neg q1]
    · have c0 : ¬ c = 0 := fun q => hall (c1.mp q)
      obtain ⟨r, L', K', b1, b2, b3⟩ := ih (l + 1) L K (by omega) h
      refine ⟨r, L', K', fun N hN => ?_, fun N hN => ?_, b3⟩
      · obtain ⟨N, rfl⟩ : ∃ k, N = k + 1 := ⟨N - 1, by omega⟩
        rw [f_Ge_isSomeLinkBroken_L2, g4, if_neg d1, ec, Option.bind_some, if_neg c0, jN_1, b1 N (by omega)]
      · obtain ⟨N, rfl⟩ : ∃ k, N = k + 1 := ⟨N - 1, by omega⟩
        rw [lk_all (by omega) hl g5 g7 pl hk, if_neg hall, f_Md_isLocked_L67, if_pos rfl, jN_1, b2 N (by omega)]
end GEH

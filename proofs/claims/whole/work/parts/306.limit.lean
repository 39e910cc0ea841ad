/-! a chain's limits -/
theorem tc_le {a b : Int32} (h0 : 0 ≤ a) (h1 : a ≤ b) : a.toNatClampNeg ≤ b.toNatClampNeg := by
  have e1 := tc_toInt h0
  have h2 := Int32.le_iff_toInt_le.mp h1
  have h3 : (0 : Int) ≤ b.toInt := by
    have := Int32.le_iff_toInt_le.mp h0
    have z : (0 : Int32).toInt = 0 := by decide
    omega
  have e2 : (b.toNatClampNeg : Int) = b.toInt := by
    show ((b.toInt.toNat : Nat) : Int) = b.toInt
    omega
  omega
theorem tc_ltI {a b : Int32} (h0 : 0 ≤ a) (h1 : a < b) : a.toNatClampNeg < b.toNatClampNeg := by
  have e1 := tc_toInt h0
  have h2 := Int32.lt_iff_toInt_lt.mp h1
  have h3 : (0 : Int) ≤ a.toInt := by
    have := Int32.le_iff_toInt_le.mp h0
    have z : (0 : Int32).toInt = 0 := by decide
    omega
  have e2 : (b.toNatClampNeg : Int) = b.toInt := by
    show ((b.toInt.toNat : Nat) : Int) = b.toInt
    omega
  omega
theorem l_up {a b : Int32} (h : 0 ≤ b ∧ b ≤ 8) (h0 : 0 ≤ a) (h1 : ¬ b ≤ a) : a < b ∧ (0 ≤ a ∧ a < 8) ∧ 0 ≤ a + 1 ∧ a + 1 ≤ b ∧ a < 1000000 := by grind
theorem lim_go {I : Nat → Nat → Int32} {L : Nat → Nat → Int64} (h : ivC I) (s : Int32) (hs : s = 0 ∨ s = 1) : ∀ (m n n' : Nat) (acc l : Int32), 0 ≤ l → l ≤ I 22 0 → (I 22 0).toNatClampNeg - l.toNatClampNeg ≤ m → m < n → m < n' → ∃ r, f_Ch_extreme_L4 n s acc l I L = some r ∧ f_Md_limit_L18 n' s acc l I L = some r := by
  obtain ⟨h1, h2, h3, h4, h5, h6, h7⟩ := h
  intro m
  induction m with
  | zero =>
    intro n n' acc l g0 g1 g2 g3 g4
    obtain ⟨n, rfl⟩ : ∃ k, n = k + 1 := ⟨n - 1, by omega⟩
    obtain ⟨n', rfl⟩ : ∃ k, n' = k + 1 := ⟨n' - 1, by omega⟩
    have c : I 22 0 ≤ l := by
      rcases Int32.le_or_lt (I 22 0) l with q | q
      · exact q
      · have := tc_ltI g0 q
        omega
    have c' : I 34 67 ≤ l := h1 ▸ c
    exact ⟨acc, by rw [f_Ch_extreme_L4, if_pos c], by rw [f_Md_limit_L18, if_pos c']⟩
  | succ m ih =>
    intro n n' acc l g0 g1 g2 g3 g4
    obtain ⟨n, rfl⟩ : ∃ k, n = k + 1 := ⟨n - 1, by omega⟩
    obtain ⟨n', rfl⟩ : ∃ k, n' = k + 1 := ⟨n' - 1, by omega⟩
    by_cases c : I 22 0 ≤ l
    · have c' : I 34 67 ≤ l := h1 ▸ c
      exact ⟨acc, by rw [f_Ch_extreme_L4, if_pos c], by rw [f_Md_limit_L18, if_pos c']⟩
    · obtain ⟨k1, k2, k3, k4, k5⟩ := l_up h2 g0 c
      have c' : ¬ I 34 67 ≤ l := h1 ▸ c
      have hl := tc_ltI g0 k1
      have hsc := tc_succ g0 k5
      obtain ⟨w1, -⟩ := h7 _ hl
      have step : ∀ acc', ∃ r, f_Ch_extreme_L4 n s acc' (l + 1) I L = some r ∧ f_Md_limit_L18 n' s acc' (l + 1) I L = some r := fun acc' => ih n n' acc' (l + 1) k3 k4 (by omega) (by omega) (by omega)
      have n10 : ¬ (1 : Int32) = 0 := by decide
      have n01 : ¬ (0 : Int32) = 1 := by decide
      have nm : ¬ (-1 : Int32) = 1 := by decide
      have p1 : ¬ (1 : Int32) ≤ 0 := by decide
      have pm : (-1 : Int32) ≤ 0 := by decide
      rcases hs with rfl | rfl <;> rcases w1 with w1 | w1
      · obtain ⟨r, r1, r2⟩ := step (acc + I 23 l.toNatClampNeg * (I 24 l.toNatClampNeg + I 25 l.toNatClampNeg))
        refine ⟨r, ?_, ?_⟩
        · simp only [f_Ch_extreme_L4, f_Ch_extreme_L21, f_Ch_extreme_L35, f_Ch_extreme_L43, bnd, if_neg c, if_true, if_pos k2, w1, if_neg p1, if_neg n10, ← r1]
        · simp only [f_Md_limit_L18, f_Md_limit_L36, f_Md_limit_L51, f_Md_limit_L59, bnd, if_neg c', if_neg n01, if_true, if_pos k2, ← h3, ← h4, ← h5, ← h6, w1, ← r2]
      · obtain ⟨r, r1, r2⟩ := step (acc + I 23 l.toNatClampNeg * (I 24 l.toNatClampNeg + I 26 l.toNatClampNeg))
        refine ⟨r, ?_, ?_⟩
        · simp only [f_Ch_extreme_L4, f_Ch_extreme_L21, f_Ch_extreme_L35, f_Ch_extreme_L43, bnd, if_neg c, if_true, if_pos k2, w1, if_pos pm, if_neg n10, ← r1]
        · simp only [f_Md_limit_L18, f_Md_limit_L36, f_Md_limit_L51, f_Md_limit_L59, bnd, if_neg c', if_neg n01, if_true, if_pos k2, ← h3, ← h4, ← h5, ← h6, w1, if_neg nm, if_neg n10, ← r2]
      · obtain ⟨r, r1, r2⟩ := step (acc + I 23 l.toNatClampNeg * (I 24 l.toNatClampNeg + I 26 l.toNatClampNeg))
        refine ⟨r, ?_, ?_⟩
        · simp only [f_Ch_extreme_L4, f_Ch_extreme_L21, f_Ch_extreme_L35, f_Ch_extreme_L43, bnd, if_neg c, if_neg n10, if_neg n01, if_true, if_pos k2, w1, if_neg p1, ← r1]
        · simp only [f_Md_limit_L18, f_Md_limit_L36, f_Md_limit_L51, f_Md_limit_L59, bnd, if_neg c', if_true, if_pos k2, ← h3, ← h4, ← h5, ← h6, w1, if_neg n10, ← r2]
      · obtain ⟨r, r1, r2⟩ := step (acc + I 23 l.toNatClampNeg * (I 24 l.toNatClampNeg + I 25 l.toNatClampNeg))
        refine ⟨r, ?_, ?_⟩
        · simp only [f_Ch_extreme_L4, f_Ch_extreme_L21, f_Ch_extreme_L35, f_Ch_extreme_L43, bnd, if_neg c, if_neg n10, if_true, if_pos k2, w1, if_pos pm, ← r1]
        · simp only [f_Md_limit_L18, f_Md_limit_L36, f_Md_limit_L51, f_Md_limit_L59, bnd, if_neg c', if_true, if_pos k2, ← h3, ← h4, ← h5, ← h6, w1, if_neg nm, if_neg n10, ← r2]
theorem xF_big {m : Nat} (h : m ≤ 1000) : m < xF := by unfold xF; omega
theorem tc_8 {a : Int32} (h : 0 ≤ a ∧ a ≤ 8) : a.toNatClampNeg ≤ 8 := by
  have := tc_le h.1 h.2
  exact this
theorem op_limit {I : Nat → Nat → Int32} {L : Nat → Nat → Int64} {a0 : Int32} (h : ivC I) : wp (f_H_limit a0 I L) (fun q => wp (f_Md_limit a0 I L) (fun q' => q = q')) := by
  have e1 : f_Md_within a0.toInt64 0 1 = f_H_isWithin a0 0 1 := w_eq rfl rfl
  by_cases v : 0 ≤ a0 ∧ a0 ≤ 1
  · have n1 : ¬ f_H_isWithin a0 0 1 = 0 := fun q => wi_0.mp q v
    have hs : a0 = 0 ∨ a0 = 1 := by grind
    obtain ⟨r, r1, r2⟩ := lim_go (L := L) h a0 hs 8 xF xF 0 0 (by decide) h.2.1.1 (Nat.le_trans (Nat.sub_le _ _) (tc_8 h.2.1)) (xF_big (by decide)) (xF_big (by decide))
    refine ⟨r, ?_, r, ?_, rfl⟩
    · simp only [f_H_limit, bnd, if_neg n1, f_Ch_extreme, r1, Option.bind_some]
    · simp only [f_Md_limit, bnd, e1, if_neg n1, r2]
  · have n1 : f_H_isWithin a0 0 1 = 0 := wi_0.mpr v
    simp only [f_H_limit, f_Md_limit, bnd, e1, if_pos n1, wp_some]

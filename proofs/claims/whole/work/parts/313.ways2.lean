/-! ways: the reference, and both -/
section WAYS2
variable {I : Nat → Nat → Int32}
theorem fill27 (x : Int64) : ∀ (m n j : Nat) (L : Nat → Nat → Int64), j + m = 793 → m < n → (∀ k, k < j → L 27 k = x) → ∃ L', f_Ar_fill_l_27_L6 n x (jN j) 793 I L = some (I, L') ∧ ∀ k, k < 793 → L' 27 k = x := by
  intro m
  induction m with
  | zero =>
    intro n j L h1 h2 h3
    obtain ⟨n, rfl⟩ : ∃ k, n = k + 1 := ⟨n - 1, by omega⟩
    have : j = 793 := by omega
    subst this
    have c : (793 : Int32) ≤ jN 793 := Int32.le_refl _
    exact ⟨L, by rw [f_Ar_fill_l_27_L6, if_pos c], h3⟩
  | succ m ih =>
    intro n j L h1 h2 h3
    obtain ⟨n, rfl⟩ : ∃ k, n = k + 1 := ⟨n - 1, by omega⟩
    have c : ¬ (793 : Int32) ≤ jN j := fun q => by
      have := (jN_le (a := 793) (b := j) (by decide) (by omega)).mp q
      omega
    have c2 : 0 ≤ jN j ∧ jN j < 793 := jN_in (n := 793) (by omega) (by decide)
    obtain ⟨L', e, g⟩ := ih n (j + 1) (uL L 27 j x) (by omega) (by omega) (fun k hk => by
      simp only [uL]
      split
      · rfl
      · rename_i q
        exact h3 k (by
          have : k ≠ j := fun e => q ⟨trivial, e⟩
          omega))
    exact ⟨L', by rw [f_Ar_fill_l_27_L6, if_neg c, if_pos c2, jN_tc (by omega), jN_1, e], g⟩
theorem m_win (k32 : Int32 → Int32 → Int32 → (Nat → Nat → Int32) → (Nat → Nat → Int64) → Option (Int64 × (Nat → Nat → Int32) × (Nat → Nat → Int64))) (k58 : Int32 → Int32 → Int32 → Int32 → Int32 → (Nat → Nat → Int32) → (Nat → Nat → Int64) → Option (Int64 × (Nat → Nat → Int32) × (Nat → Nat → Int64))) (lo hi l3 : Int32) {w k : Nat} (hw : w ≤ 99) (hk : k < 800) (L : Nat → Nat → Int64) : ∀ (m n d : Nat), d + m = min w k + 1 → m < n → f_Md_ways_L77 k32 k58 n lo hi l3 (jN w) (jN k) (jN d) I (uL L 69 k (aS (L 68) k d)) = k58 lo hi l3 (jN w) (jN (k + 1)) I (uL L 69 k (nxt w (L 68) k)) := by
  intro m
  induction m with
  | zero =>
    intro n d h1 h2
    obtain ⟨n, rfl⟩ : ∃ k, n = k + 1 := ⟨n - 1, by omega⟩
    have hd : d = min w k + 1 := by omega
    rw [f_Md_ways_L77, jN_1, hd, aS_nxt]
    by_cases c : w ≤ k
    · rw [Nat.min_eq_left c, if_pos ((jN_lt (by omega) (by omega)).mpr (by omega))]
    · rw [Nat.min_eq_right (by omega), if_neg (fun q => by have := (jN_lt (by omega) (by omega)).mp q; omega), if_pos ((jN_lt (by omega) (by omega)).mpr (by omega))]
  | succ m ih =>
    intro n d h1 h2
    obtain ⟨n, rfl⟩ : ∃ k, n = k + 1 := ⟨n - 1, by omega⟩
    have c1 : ¬ jN w < jN d := fun q => by have := (jN_lt (by omega) (by omega)).mp q; omega
    have c2 : ¬ jN k < jN d := fun q => by have := (jN_lt (by omega) (by omega)).mp q; omega
    have c3 : 0 ≤ jN k ∧ jN k < 800 := jN_in (n := 800) (by omega) (by decide)
    have c4 : 0 ≤ jN (k - d) ∧ jN (k - d) < 800 := jN_in (n := 800) (by omega) (by decide)
    have e1 : jN k - jN d = jN (k - d) := jN_sub (by omega)
    have e2 : uL L 69 k (aS (L 68) k d) 69 k = aS (L 68) k d := by simp [uL]
    have e3 : ∀ i, uL L 69 k (aS (L 68) k d) 68 i = L 68 i := fun i => by simp [uL]
    have e4 : ∀ x y, uL (uL L 69 k x) 69 k y = uL L 69 k y := by
      intro x y
      funext a i
      simp only [uL]
      split <;> rfl
    rw [f_Md_ways_L77, if_neg c1, if_neg c2, if_pos c3, e1, if_pos c4]
    simp only [bnd, jN_tc (show k < 2147483648 by omega), jN_tc (show k - d < 2147483648 by omega), e2, e3, e4, jN_1, if_pos c3]
    have := ih n (d + 1) (by omega) (by omega)
    rw [aS] at this
    exact this
theorem m_row (k32 : Int32 → Int32 → Int32 → (Nat → Nat → Int32) → (Nat → Nat → Int64) → Option (Int64 × (Nat → Nat → Int32) × (Nat → Nat → Int64))) (lo hi l3 : Int32) {w : Nat} (hw : w ≤ 99) (A : Nat → Int64) : ∀ (m n k : Nat) (L : Nat → Nat → Int64), k + m = 800 → m < n → (∀ i, L 68 i = A i) → (∀ i, i < k → L 69 i = nxt w A i) → ∃ L', f_Md_ways_L58 k32 n lo hi l3 (jN w) (jN k) I L = k32 lo hi (l3 + 1) I L' ∧ ∀ i, i < 800 → L' 68 i = nxt w A i := by
  intro m
  induction m with
  | zero =>
    intro n k L h1 h2 hA h3
    obtain ⟨n, rfl⟩ : ∃ k, n = k + 1 := ⟨n - 1, by omega⟩
    have : k = 800 := by omega
    subst this
    have c : (800 : Int32) ≤ jN 800 := Int32.le_refl _
    refine ⟨_, by rw [f_Md_ways_L58, if_pos c], fun i hi => ?_⟩
    have z0 : (0 : Int32).toNatClampNeg = 0 := by decide
    have z8 : (800 : Int32).toNatClampNeg = 800 := by decide
    simp only [uC, z0, z8]
    rw [if_pos ⟨trivial, by omega, by omega⟩, show 0 + (i - 0) = i by omega]
    exact h3 i hi
  | succ m ih =>
    intro n k L h1 h2 hA h3
    obtain ⟨n, rfl⟩ : ∃ k, n = k + 1 := ⟨n - 1, by omega⟩
    have c : ¬ (800 : Int32) ≤ jN k := fun q => by
      have := (jN_le (a := 800) (b := k) (by decide) (by omega)).mp q
      omega
    have c2 : 0 ≤ jN k ∧ jN k < 800 := jN_in (n := 800) (by omega) (by decide)
    have hL : L 68 = A := funext hA
    have q := m_win (I := I) k32 (f_Md_ways_L58 k32 n) lo hi l3 hw (show k < 800 by omega) L (min w k + 1) xF 0 (by omega) (xF_big (by omega))
    obtain ⟨L', e, g⟩ := ih n (k + 1) (uL L 69 k (nxt w (L 68) k)) (by omega) (by omega) (fun i => by simp [uL, hA]) (fun i hi => by
      simp only [uL]
      split
      · rename_i q; rw [q.2, hL]
      · rename_i q
        exact h3 i (by
          have : i ≠ k := fun e => q ⟨trivial, e⟩
          omega))
    refine ⟨L', ?_, g⟩
    rw [f_Md_ways_L58, if_neg c, if_pos c2, jN_tc (by omega), ← e, ← q]
    rfl
theorem m_ways (h : ivC I) (lo hi : Int32) {r : Int32} (hr : ∀ L, f_Md_limit 0 I L = some r) : ∀ (m n i : Nat) (L : Nat → Nat → Int64), i + m = (I 22 0).toNatClampNeg → m < n → (∀ k, k < 800 → L 68 k = WA I i k) → ∃ L', f_Md_ways_L32 n lo hi (jN i) I L = some (tN (wc lo hi r.toInt64) (WA I (i + m)) 0 0 800, I, L') := by
  have hN := tc_8 h.2.1
  have eN := jN_of h.2.1.1
  have h1' := h.1
  have g5 := h.2.2.2.2.1
  have g6 := h.2.2.2.2.2.1
  intro m
  induction m with
  | zero =>
    intro n i L h1 h2 hL
    obtain ⟨n, rfl⟩ : ∃ k, n = k + 1 := ⟨n - 1, by omega⟩
    have c : I 34 67 ≤ jN i := by
      rw [← h1', eN]; exact (jN_le (by omega) (by omega)).mpr (by omega)
    refine ⟨L, ?_⟩
    rw [f_Md_ways_L32, if_pos c, hr, Option.bind_some]
    simp only [bnd]
    rw [show (0 : Int32) = jN 0 from rfl, m_total lo hi _ L 800 xF 0 0 rfl (xF_big (by decide)), tN_ext (B := WA I i) 800 0 0 (fun k _ hk => hL k (by omega))]
    rfl
  | succ m ih =>
    intro n i L h1 h2 hL
    obtain ⟨n, rfl⟩ : ∃ k, n = k + 1 := ⟨n - 1, by omega⟩
    have c : ¬ I 34 67 ≤ jN i := by
      rw [← h1', eN]; intro q; have := (jN_le (by omega) (by omega)).mp q; omega
    have c2 : 0 ≤ jN i ∧ jN i < 8 := jN_in (n := 8) (by omega) (by decide)
    obtain ⟨ew, hw⟩ := wd_e h (i := i) (by omega)
    obtain ⟨L1, e1, gL⟩ := m_row (I := I) (f_Md_ways_L32 n) lo hi (jN i) hw (L 68) 800 xF 0 L rfl (xF_big (by decide)) (fun _ => rfl) (fun i hi => by omega)
    obtain ⟨L', hL'⟩ := ih n (i + 1) L1 (by omega) (by omega) (fun k hk => by
      rw [gL k hk, WA]
      exact nxt_ext (fun j hj => hL j (by omega)))
    refine ⟨L', ?_⟩
    rw [f_Md_ways_L32, if_neg c, if_pos c2, if_pos c2, jN_tc (by omega), ← g5, ← g6, ew]
    simp only [bnd]
    rw [jN_1] at e1
    rw [show (0 : Int32) = jN 0 from rfl, e1, hL', show i + 1 + m = i + (m + 1) by omega]
theorem m_init (lo hi : Int32) : ∀ (m n j : Nat) (L : Nat → Nat → Int64), j + m = 800 → m < n → (∀ k, k < j → L 68 k = WA I 0 k) → ∃ L', f_Md_ways_L2 n lo hi (jN j) I L = f_Md_ways_L32 xF lo hi 0 I L' ∧ ∀ k, k < 800 → L' 68 k = WA I 0 k := by
  intro m
  induction m with
  | zero =>
    intro n j L h1 h2 h3
    obtain ⟨n, rfl⟩ : ∃ k, n = k + 1 := ⟨n - 1, by omega⟩
    have : j = 800 := by omega
    subst this
    have c : (800 : Int32) ≤ jN 800 := Int32.le_refl _
    exact ⟨L, by rw [f_Md_ways_L2, if_pos c], h3⟩
  | succ m ih =>
    intro n j L h1 h2 h3
    obtain ⟨n, rfl⟩ : ∃ k, n = k + 1 := ⟨n - 1, by omega⟩
    have c : ¬ (800 : Int32) ≤ jN j := fun q => by
      have := (jN_le (a := 800) (b := j) (by decide) (by omega)).mp q
      omega
    have c2 : 0 ≤ jN j ∧ jN j < 800 := jN_in (n := 800) (by omega) (by decide)
    obtain ⟨L', e, g⟩ := ih n (j + 1) (uL L 68 j (WA I 0 j)) (by omega) (by omega) (fun k hk => by
      simp only [uL]
      split
      · rename_i q; rw [q.2]
      · rename_i q
        exact h3 k (by
          have : k ≠ j := fun e => q ⟨trivial, e⟩
          omega))
    refine ⟨L', ?_, g⟩
    rw [f_Md_ways_L2, if_neg c, if_pos c2, jN_tc (by omega), jN_1, ← e, WA]
    by_cases z : j = 0
    · subst z
      have z0 : jN 0 = 0 := rfl
      rw [if_pos z0]
      simp only [if_true]
    · have z' : ¬ jN j = 0 := fun q => z ((jN_inj (b := 0) (by omega) (by decide)).mp q)
      rw [if_neg z', if_pos c2]
      simp only [if_neg z]
end WAYS2
theorem tN_add' {c : Nat → Int32} {A : Nat → Int64} {m r s : Nat} {acc : Int64} (h : s = m + r) (h0 : ∀ k, m ≤ k → k < s → A k = 0) : tN c A acc 0 s = tN c A acc 0 m := by
  subst h
  rw [tN_add, tN_0]
  intro k h1 h2
  exact h0 k (by omega) (by omega)
theorem op_ways {I : Nat → Nat → Int32} {L : Nat → Nat → Int64} {a0 a1 : Int32} (h : ivC I) : wp (f_H_ways a0 a1 I L) (fun q => q.2.1 = I ∧ ∀ L1, wp (f_Md_ways a0 a1 I L1) (fun q' => q.1 = q'.1 ∧ q'.2.1 = I)) := by
  have hN := tc_8 h.2.1
  obtain ⟨r, r1, r2⟩ : ∃ r, (∀ L, f_Ch_extreme 0 I L = some r) ∧ ∀ L, f_Md_limit 0 I L = some r := by
    have key : ∀ L, ∃ r, f_Ch_extreme 0 I L = some r ∧ f_Md_limit 0 I L = some r := by
      intro L
      obtain ⟨q, e1, q', e2, e3⟩ := op_limit (L := L) (a0 := 0) h
      refine ⟨q, ?_, by rw [e3]; exact e2⟩
      simp only [f_H_limit, bnd, if_neg (show ¬ f_H_isWithin 0 0 1 = 0 by decide)] at e1
      cases hx : f_Ch_extreme 0 I L with
      | none => rw [hx] at e1; cases e1
      | some z => rw [hx] at e1; exact e1
    obtain ⟨r, e1, e2⟩ := key (fun _ _ => 0)
    have i1 : ∀ (n : Nat) (s acc l : Int32) (L L' : Nat → Nat → Int64), f_Ch_extreme_L4 n s acc l I L = f_Ch_extreme_L4 n s acc l I L' := by
      intro n
      induction n with
      | zero => intros; rfl
      | succ n ih =>
        intro s acc l L L'
        simp only [f_Ch_extreme_L4, f_Ch_extreme_L21, f_Ch_extreme_L35, f_Ch_extreme_L43, bnd]
        simp only [ih _ _ _ L L']
    refine ⟨r, fun L => ?_, fun L => ?_⟩
    · rw [← e1, f_Ch_extreme, f_Ch_extreme]; exact i1 _ _ _ _ _ _
    · obtain ⟨z, g1, g2⟩ := key L
      rw [g2]
      have : f_Ch_extreme 0 I L = f_Ch_extreme 0 I (fun _ _ => 0) := by rw [f_Ch_extreme, f_Ch_extreme]; exact i1 _ _ _ _ _ _
      rw [this, e1] at g1
      exact g1.symm
  obtain ⟨L1, e1, g1⟩ := fill27 (I := I) 0 793 xF 0 L rfl (xF_big (by decide)) (fun k hk => by omega)
  obtain ⟨L2, e2⟩ := c_ways h a0 a1 r1 (I 22 0).toNatClampNeg xF 0 (uL L1 27 0 1) (by omega) (xF_big (by omega)) (fun k hk => by
    rw [WA]
    simp only [uL]
    by_cases z : k = 0
    · simp [z]
    · simp [z, g1 k hk])
  rw [show jN 0 = 0 from rfl] at e1 e2
  obtain ⟨L4, e4, g4⟩ : ∃ F : (Nat → Nat → Int64) → (Nat → Nat → Int64), (∀ L3, f_Md_ways_L2 xF a0 a1 0 I L3 = f_Md_ways_L32 xF a0 a1 0 I (F L3)) ∧ ∀ L3 k, k < 800 → F L3 68 k = WA I 0 k := by
    have q : ∀ L3, ∃ L4, f_Md_ways_L2 xF a0 a1 0 I L3 = f_Md_ways_L32 xF a0 a1 0 I L4 ∧ ∀ k, k < 800 → L4 68 k = WA I 0 k := fun L3 => m_init (I := I) a0 a1 800 xF 0 L3 rfl (xF_big (by decide)) (fun k hk => by omega)
    obtain ⟨F, hF⟩ := Classical.axiomOfChoice q
    exact ⟨F, fun L3 => (hF L3).1, fun L3 => (hF L3).2⟩
  obtain ⟨T, hT⟩ : ∃ T, T = tN (wc a0 a1 r.toInt64) (WA I (0 + (I 22 0).toNatClampNeg)) 0 0 793 := ⟨_, rfl⟩
  have e6 : tN (wc a0 a1 r.toInt64) (WA I (0 + (I 22 0).toNatClampNeg)) 0 0 800 = T := by
    rw [hT]
    exact tN_add' (m := 793) (r := 7) (s := 800) rfl (fun k hk1 hk2 => WA_0 h _ (by omega) k (by omega))
  rw [← hT] at e2
  have e3 : f_H_ways a0 a1 I L = some (T, I, L2) := by
    simp only [f_H_ways, f_Ch_countWays, f_Ar_fill_l_27, e1, Option.bind_some, e2]
  refine ⟨(T, I, L2), e3, rfl, fun L3 => ?_⟩
  obtain ⟨L5, e5⟩ := m_ways h a0 a1 r2 (I 22 0).toNatClampNeg xF 0 (L4 L3) (by omega) (xF_big (by omega)) (g4 L3)
  rw [show jN 0 = 0 from rfl, e6, ← e4] at e5
  exact ⟨(T, I, L5), e5, rfl, rfl⟩

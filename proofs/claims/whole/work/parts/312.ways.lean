/-! ways -/
def pS (A : Nat → Int64) : Nat → Int64
  | 0 => A 0
  | k + 1 => A (k + 1) + pS A k
def nxt (w : Nat) (A : Nat → Int64) (k : Nat) : Int64 := if k ≤ w then pS A k else pS A k - pS A (k - w - 1)
def aS (A : Nat → Int64) (k : Nat) : Nat → Int64
  | 0 => 0
  | d + 1 => aS A k d + A (k - d)
theorem aS_le (A : Nat → Int64) (k : Nat) : ∀ d, d ≤ k → aS A k d + pS A (k - d) = pS A k := by
  intro d
  induction d with
  | zero => intro _; simp [aS]
  | succ d ih =>
    intro h
    have h1 := ih (by omega)
    obtain ⟨e, he⟩ : ∃ e, k - d = e + 1 := ⟨k - d - 1, by omega⟩
    rw [he, pS] at h1
    rw [aS, show k - (d + 1) = e by omega, he]
    rw [← h1]
    grind
theorem aS_nxt (A : Nat → Int64) (w k : Nat) : aS A k (min w k + 1) = nxt w A k := by
  unfold nxt
  split
  · rename_i h
    rw [Nat.min_eq_right h, aS]
    have := aS_le A k k (Nat.le_refl _)
    rw [show k - k = 0 by omega] at this ⊢
    rw [← this, pS]
  · rename_i h
    rw [Nat.min_eq_left (by omega)]
    have := aS_le A k (w + 1) (by omega)
    rw [show k - w - 1 = k - (w + 1) by omega, ← this]
    grind
theorem pS_ext {A B : Nat → Int64} {k : Nat} (h : ∀ i, i ≤ k → A i = B i) : pS A k = pS B k := by
  induction k with
  | zero => exact h 0 (Nat.le_refl _)
  | succ k ih => rw [pS, pS, h _ (Nat.le_refl _), ih (fun i hi => h i (by omega))]
theorem nxt_ext {A B : Nat → Int64} {w k : Nat} (h : ∀ i, i ≤ k → A i = B i) : nxt w A k = nxt w B k := by
  unfold nxt
  rw [pS_ext h, pS_ext (A := A) (B := B) (k := k - w - 1) (fun i hi => h i (by omega))]
theorem pS_c {A : Nat → Int64} {s : Nat} (h : ∀ i, s < i → A i = 0) : ∀ k, pS A (s + k) = pS A s := by
  intro k
  induction k with
  | zero => rfl
  | succ k ih => rw [show s + (k + 1) = (s + k) + 1 by omega, pS, ih, h _ (by omega)]; simp
theorem nxt_0 {A : Nat → Int64} {s w : Nat} (h : ∀ i, s < i → A i = 0) : ∀ i, s + w < i → nxt w A i = 0 := by
  intro i hi
  unfold nxt
  rw [if_neg (by omega), show i = s + (i - s) by omega, pS_c h, show s + (i - s) - w - 1 = s + (i - s - w - 1) by omega, pS_c h]
  simp
def wd (I : Nat → Nat → Int32) (i : Nat) : Nat := (I 26 i - I 25 i).toNatClampNeg
def WA (I : Nat → Nat → Int32) : Nat → Nat → Int64
  | 0 => fun k => if k = 0 then 1 else 0
  | i + 1 => nxt (wd I i) (WA I i)
theorem wd_ok {a b : Int32} (h1 : -10000 ≤ a ∧ a ≤ 10000) (h2 : -10000 ≤ b ∧ b ≤ 10000) (h3 : a ≤ b ∧ b ≤ a + 99) : 0 ≤ b - a ∧ b - a ≤ 99 := by grind
theorem wd_e {I : Nat → Nat → Int32} (h : ivC I) {i : Nat} (hi : i < (I 22 0).toNatClampNeg) : I 26 i - I 25 i = jN (wd I i) ∧ wd I i ≤ 99 := by
  obtain ⟨-, -, h2, h3, h4⟩ := h.2.2.2.2.2.2 i hi
  obtain ⟨c1, c2⟩ := wd_ok h2 h3 h4
  refine ⟨jN_of c1, ?_⟩
  have e := tc_le c1 c2
  have e9 : (99 : Int32).toNatClampNeg = 99 := by decide
  rw [e9] at e
  exact e
theorem WA_0 {I : Nat → Nat → Int32} (h : ivC I) : ∀ i, i ≤ (I 22 0).toNatClampNeg → ∀ k, 99 * i < k → WA I i k = 0 := by
  intro i
  induction i with
  | zero => intro _ k hk; rw [WA]; exact if_neg (by omega)
  | succ i ih =>
    intro hi k hk
    have := (wd_e h (i := i) (by omega)).2
    exact nxt_0 (ih (by omega)) k (by omega)
/-- the sum over the sums that lie within -/
def tN (c : Nat → Int32) (A : Nat → Int64) : Int64 → Nat → Nat → Int64
  | acc, _, 0 => acc
  | acc, j, m + 1 => tN c A (acc + if c j = 0 then 0 else A j) (j + 1) m
theorem tN_add (c : Nat → Int32) (A : Nat → Int64) : ∀ (m r : Nat) (acc : Int64) (j : Nat), tN c A acc j (m + r) = tN c A (tN c A acc j m) (j + m) r := by
  intro m
  induction m with
  | zero => intro r acc j; simp [tN]
  | succ m ih => intro r acc j; rw [show m + 1 + r = (m + r) + 1 by omega, tN, ih, tN, show j + 1 + m = j + (m + 1) by omega]
theorem tN_0 {c : Nat → Int32} {A : Nat → Int64} : ∀ (m j : Nat) (acc : Int64), (∀ k, j ≤ k → k < j + m → A k = 0) → tN c A acc j m = acc := by
  intro m
  induction m with
  | zero => intro j acc _; rfl
  | succ m ih =>
    intro j acc h
    rw [tN, ih _ _ (fun k h1 h2 => h k (by omega) (by omega)), h j (Nat.le_refl _) (by omega)]
    split <;> simp
theorem tN_ext {c : Nat → Int32} {A B : Nat → Int64} : ∀ (m j : Nat) (acc : Int64), (∀ k, j ≤ k → k < j + m → A k = B k) → tN c A acc j m = tN c B acc j m := by
  intro m
  induction m with
  | zero => intro j acc _; rfl
  | succ m ih =>
    intro j acc h
    rw [tN, tN, ih _ _ (fun k h1 h2 => h k (by omega) (by omega)), h j (Nat.le_refl _) (by omega)]
def wc (lo hi : Int32) (x : Int64) (k : Nat) : Int32 := f_Md_within (x + (jN k).toInt64) lo.toInt64 hi.toInt64
section WAYS
variable {I : Nat → Nat → Int32}
theorem m_total (lo hi : Int32) (x : Int64) (L : Nat → Nat → Int64) : ∀ (m n j : Nat) (acc : Int64), j + m = 800 → m < n → f_Md_ways_L158 n lo hi x acc (jN j) I L = some (tN (wc lo hi x) (L 68) acc j m, I, L) := by
  intro m
  induction m with
  | zero =>
    intro n j acc h1 h2
    obtain ⟨n, rfl⟩ : ∃ k, n = k + 1 := ⟨n - 1, by omega⟩
    have : j = 800 := by omega
    subst this
    have c : (800 : Int32) ≤ jN 800 := Int32.le_refl _
    rw [f_Md_ways_L158, if_pos c, tN]
  | succ m ih =>
    intro n j acc h1 h2
    obtain ⟨n, rfl⟩ : ∃ k, n = k + 1 := ⟨n - 1, by omega⟩
    have c : ¬ (800 : Int32) ≤ jN j := fun q => by
      have := (jN_le (a := 800) (b := j) (by decide) (by omega)).mp q
      omega
    have c2 : 0 ≤ jN j ∧ jN j < 800 := jN_in (n := 800) (by omega) (by decide)
    rw [f_Md_ways_L158, if_neg c]
    simp only [bnd, if_pos c2, jN_1, jN_tc (show j < 2147483648 by omega)]
    rw [ih n (j + 1) _ (by omega) (by omega), ih n (j + 1) _ (by omega) (by omega), tN]
    by_cases g : wc lo hi x j = 0
    · have g2 : f_Md_within (x + (jN j).toInt64) lo.toInt64 hi.toInt64 = 0 := g
      rw [if_pos g, if_pos g2]
    · have g2 : ¬ f_Md_within (x + (jN j).toInt64) lo.toInt64 hi.toInt64 = 0 := g
      rw [if_neg g, if_neg g2]
theorem c_total (lo hi : Int32) (x : Int64) (L : Nat → Nat → Int64) : ∀ (m n j : Nat) (acc : Int64), j + m = 793 → m < n → f_Ch_countWays_L61 n lo hi x acc (jN j) I L = some (tN (wc lo hi x) (L 27) acc j m, I, L) := by
  intro m
  induction m with
  | zero =>
    intro n j acc h1 h2
    obtain ⟨n, rfl⟩ : ∃ k, n = k + 1 := ⟨n - 1, by omega⟩
    have : j = 793 := by omega
    subst this
    have c : (793 : Int32) ≤ jN 793 := Int32.le_refl _
    rw [f_Ch_countWays_L61, if_pos c, tN]
  | succ m ih =>
    intro n j acc h1 h2
    obtain ⟨n, rfl⟩ : ∃ k, n = k + 1 := ⟨n - 1, by omega⟩
    have c : ¬ (793 : Int32) ≤ jN j := fun q => by
      have := (jN_le (a := 793) (b := j) (by decide) (by omega)).mp q
      omega
    have c2 : 0 ≤ jN j ∧ jN j < 793 := jN_in (n := 793) (by omega) (by decide)
    rw [f_Ch_countWays_L61, if_neg c]
    simp only [bnd, if_pos c2, jN_1, jN_tc (show j < 2147483648 by omega)]
    have q := ih n (j + 1)
    rw [q _ (by omega) (by omega), q _ (by omega) (by omega), tN]
    simp only [wc, f_Md_within]
    by_cases g1 : x + (jN j).toInt64 < lo.toInt64
    · simp [g1]
    · by_cases g2 : hi.toInt64 < x + (jN j).toInt64
      · simp [g1, g2]
      · simp [g1, g2]
/-- prefix sums below j -/
def pL (L : Nat → Nat → Int64) (j : Nat) : Nat → Nat → Int64 := fun a i => if a = 27 ∧ i < j then pS (L 27) i else L a i
def spL (L : Nat → Nat → Int64) (w j : Nat) : Nat → Nat → Int64 := fun a i => if a = 27 ∧ i < 793 then (if i ≤ j then pS (L 27) i else nxt w (L 27) i) else L a i
theorem c_sp2 (L : Nat → Nat → Int64) {w : Nat} (hw : w ≤ 99) : ∀ (m n : Nat), w + m ≤ 792 → m < n → f_Ch_spread_L36 n (jN w) (jN (w + m)) I (spL L w (w + m)) = some (I, spL L w w) := by
  intro m
  induction m with
  | zero =>
    intro n h1 h2
    obtain ⟨n, rfl⟩ : ∃ k, n = k + 1 := ⟨n - 1, by omega⟩
    simp only [Nat.add_zero]
    rw [f_Ch_spread_L36, if_pos (Int32.le_refl _)]
  | succ m ih =>
    intro n h1 h2
    obtain ⟨n, rfl⟩ : ∃ k, n = k + 1 := ⟨n - 1, by omega⟩
    have c : ¬ jN (w + (m + 1)) ≤ jN w := fun q => by
      have := (jN_le (by omega) (by omega)).mp q
      omega
    have c2 : 0 ≤ jN (w + (m + 1)) ∧ jN (w + (m + 1)) < 793 := jN_in (n := 793) (by omega) (by decide)
    have c3 : 0 ≤ jN m ∧ jN m < 793 := jN_in (n := 793) (by omega) (by decide)
    have e1 : jN (w + (m + 1)) - jN w - 1 = jN m := by
      rw [jN_sub (by omega), show (1 : Int32) = jN 1 from rfl, jN_sub (by omega)]
      congr 1; omega
    have e2 : jN (w + (m + 1)) + (-1) = jN (w + m) := by
      rw [show w + (m + 1) = (w + m) + 1 by omega, ← jN_1]
      grind
    rw [f_Ch_spread_L36, if_neg c]
    simp only [bnd, e1, e2, if_pos c2, if_pos c3, jN_tc (show w + (m + 1) < 2147483648 by omega), jN_tc (show m < 2147483648 by omega)]
    rw [← ih n (by omega) (by omega)]
    congr 1
    funext a i
    simp only [uL, spL]
    by_cases a1 : a = 27
    · by_cases i1 : i = w + (m + 1)
      · subst i1
        rw [if_pos ⟨a1, rfl⟩, if_pos ⟨trivial, by omega⟩, if_pos (Nat.le_refl _), if_pos ⟨trivial, by omega⟩, if_pos (by omega), if_pos ⟨a1, by omega⟩, if_neg (by omega), nxt, if_neg (by omega), show w + (m + 1) - w - 1 = m by omega]
      · have : (i ≤ w + (m + 1)) ↔ (i ≤ w + m) := by omega
        simp [a1, i1, this]
    · simp [a1]
theorem c_sp1 (L : Nat → Nat → Int64) {w : Nat} (hw : w ≤ 99) : ∀ (m n j : Nat), 1 ≤ j → j + m = 793 → m < n → f_Ch_spread_L2 n (jN w) (jN j) I (pL L j) = some (I, spL L w w) := by
  intro m
  induction m with
  | zero =>
    intro n j h0 h1 h2
    obtain ⟨n, rfl⟩ : ∃ k, n = k + 1 := ⟨n - 1, by omega⟩
    have : j = 793 := by omega
    subst this
    have c : (793 : Int32) ≤ jN 793 := Int32.le_refl _
    rw [f_Ch_spread_L2, if_pos c]
    have := c_sp2 (I := I) L hw (792 - w) xF (by omega) (xF_big (by omega))
    rw [show w + (792 - w) = 792 by omega] at this
    rw [← this]
    congr 1
    funext a i
    simp only [pL, spL]
    by_cases a1 : a = 27
    · by_cases i1 : i < 793
      · simp [a1, i1, show i ≤ 792 by omega]
      · simp [a1, i1]
    · simp [a1]
  | succ m ih =>
    intro n j h0 h1 h2
    obtain ⟨n, rfl⟩ : ∃ k, n = k + 1 := ⟨n - 1, by omega⟩
    have c : ¬ (793 : Int32) ≤ jN j := fun q => by
      have := (jN_le (a := 793) (b := j) (by decide) (by omega)).mp q
      omega
    have c2 : 0 ≤ jN j ∧ jN j < 793 := jN_in (n := 793) (by omega) (by decide)
    have c3 : 0 ≤ jN (j - 1) ∧ jN (j - 1) < 793 := jN_in (n := 793) (by omega) (by decide)
    have e1 : jN j - 1 = jN (j - 1) := jN_sub (b := 1) h0
    rw [f_Ch_spread_L2, if_neg c]
    simp only [bnd, e1, if_pos c2, if_pos c3, jN_1, jN_tc (show j < 2147483648 by omega), jN_tc (show j - 1 < 2147483648 by omega)]
    rw [← ih n (j + 1) (by omega) (by omega) (by omega)]
    congr 1
    funext a i
    simp only [uL, pL]
    by_cases a1 : a = 27
    · by_cases i1 : i = j
      · subst i1
        obtain ⟨k, rfl⟩ : ∃ k, i = k + 1 := ⟨i - 1, by omega⟩
        simp [a1, pS]
      · have : (i < j + 1) ↔ (i < j) := by omega
        simp [a1, i1, this]
    · simp [a1]
theorem c_spread (L : Nat → Nat → Int64) {w : Nat} (hw : w ≤ 99) : f_Ch_spread (jN w) I L = some (I, spL L w w) := by
  have h : pL L 1 = L := by
    funext a i
    simp only [pL]
    by_cases a1 : a = 27 ∧ i < 1
    · obtain ⟨a1, a2⟩ := a1
      have : i = 0 := by omega
      simp [a1, this, pS]
    · rw [if_neg a1]
  have := c_sp1 (I := I) L hw 792 xF 1 (Nat.le_refl _) rfl (xF_big (by decide))
  rw [h] at this
  exact this
theorem spL_27 {L : Nat → Nat → Int64} {w k : Nat} (hk : k < 793) : spL L w w 27 k = nxt w (L 27) k := by
  simp only [spL]
  rw [if_pos ⟨trivial, hk⟩]
  split
  · rename_i h; rw [nxt, if_pos h]
  · rfl
theorem c_ways (h : ivC I) (lo hi : Int32) {r : Int32} (hr : ∀ L, f_Ch_extreme 0 I L = some r) : ∀ (m n i : Nat) (L : Nat → Nat → Int64), i + m = (I 22 0).toNatClampNeg → m < n → (∀ k, k < 793 → L 27 k = WA I i k) → ∃ L', f_Ch_countWays_L17 n lo hi (jN i) I L = some (tN (wc lo hi r.toInt64) (WA I (i + m)) 0 0 793, I, L') := by
  have hN := tc_8 h.2.1
  have eN := jN_of h.2.1.1
  intro m
  induction m with
  | zero =>
    intro n i L h1 h2 hL
    obtain ⟨n, rfl⟩ : ∃ k, n = k + 1 := ⟨n - 1, by omega⟩
    have c : I 22 0 ≤ jN i := by
      rw [eN]; exact (jN_le (by omega) (by omega)).mpr (by omega)
    refine ⟨L, ?_⟩
    rw [f_Ch_countWays_L17, if_pos c, hr, Option.bind_some]
    simp only [bnd]
    rw [show (0 : Int32) = jN 0 from rfl, c_total lo hi _ L 793 xF 0 0 rfl (xF_big (by decide)), tN_ext (B := WA I i) 793 0 0 (fun k _ hk => hL k (by omega))]
    rfl
  | succ m ih =>
    intro n i L h1 h2 hL
    obtain ⟨n, rfl⟩ : ∃ k, n = k + 1 := ⟨n - 1, by omega⟩
    have c : ¬ I 22 0 ≤ jN i := by
      rw [eN]; intro q; have := (jN_le (by omega) (by omega)).mp q; omega
    have c2 : 0 ≤ jN i ∧ jN i < 8 := jN_in (n := 8) (by omega) (by decide)
    obtain ⟨ew, hw⟩ := wd_e h (i := i) (by omega)
    obtain ⟨L', hL'⟩ := ih n (i + 1) (spL L (wd I i) (wd I i)) (by omega) (by omega) (fun k hk => by
      rw [spL_27 hk, WA]
      exact nxt_ext (fun j hj => hL j (by omega)))
    refine ⟨L', ?_⟩
    rw [f_Ch_countWays_L17, if_neg c, if_pos c2, if_pos c2, jN_tc (by omega), ew, c_spread L hw, Option.bind_some, jN_1]
    simp only []
    rw [hL', show i + 1 + m = i + (m + 1) by omega]
end WAYS

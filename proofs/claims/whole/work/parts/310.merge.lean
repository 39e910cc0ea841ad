/-! small numbers as Int32 -/
def jN (k : Nat) : Int32 := Int32.ofNat k
theorem jN_toInt {k : Nat} (h : k < 2147483648) : (jN k).toInt = k := by
  unfold jN
  rw [Int32.toInt_ofNat', show Int32.size = 4294967296 from rfl]
  apply Int.bmod_eq_of_le <;> omega
theorem jN_tc {k : Nat} (h : k < 2147483648) : (jN k).toNatClampNeg = k := by
  show (jN k).toInt.toNat = k
  rw [jN_toInt h]; rfl
theorem jN_le {a b : Nat} (ha : a < 2147483648) (hb : b < 2147483648) : jN a ≤ jN b ↔ a ≤ b := by
  rw [Int32.le_iff_toInt_le, jN_toInt ha, jN_toInt hb]; omega
theorem jN_lt {a b : Nat} (ha : a < 2147483648) (hb : b < 2147483648) : jN a < jN b ↔ a < b := by
  rw [Int32.lt_iff_toInt_lt, jN_toInt ha, jN_toInt hb]; omega
theorem jN_add (a b : Nat) : jN a + jN b = jN (a + b) := by
  unfold jN; rw [Int32.ofNat_add]
theorem jN_mul (a b : Nat) : jN a * jN b = jN (a * b) := by
  unfold jN; rw [Int32.ofNat_mul]
theorem jN_of {a : Int32} (h : 0 ≤ a) : a = jN a.toNatClampNeg := by
  apply Int32.toInt_inj.mp
  have h1 := tc_toInt h
  have h2 : a.toInt < 2147483648 := Int32.toInt_lt a
  rw [jN_toInt (by omega)]
  omega
theorem jN_1 (k : Nat) : jN k + 1 = jN (k + 1) := jN_add k 1
theorem jN_ge0 {k : Nat} (h : k < 2147483648) : (0 : Int32) ≤ jN k := (jN_le (a := 0) (by decide) h).mpr (Nat.zero_le k)
theorem jN_inj {a b : Nat} (ha : a < 2147483648) (hb : b < 2147483648) : jN a = jN b ↔ a = b := by
  constructor
  · intro h; have := congrArg Int32.toNatClampNeg h; rwa [jN_tc ha, jN_tc hb] at this
  · intro h; rw [h]
theorem jN_sub {a b : Nat} (h : b ≤ a) : jN a - jN b = jN (a - b) := by
  have : jN a = jN (a - b) + jN b := by rw [jN_add]; congr 1; omega
  rw [this, Int32.add_sub_cancel]
/-- a bounded Int32 that is not negative is a small number -/
theorem jN_ex {a : Int32} {n : Nat} (h : 0 ≤ a) (h2 : a ≤ jN n) (hn : n < 2147483648) : ∃ k, k ≤ n ∧ a = jN k := by
  refine ⟨a.toNatClampNeg, ?_, jN_of h⟩
  rw [jN_of h] at h2
  have h1 := tc_toInt h
  have h3 : a.toInt < 2147483648 := Int32.toInt_lt a
  exact (jN_le (by omega) hn).mp h2
/-- an index that is in its bounds -/
theorem jN_in {k n : Nat} (h : k < n) (hn : n < 2147483648) : 0 ≤ jN k ∧ jN k < jN n := ⟨jN_ge0 (by omega), (jN_lt (by omega) hn).mpr h⟩
theorem le32 : (32 : Int32) ≤ jN 32 := (jN_le (a := 32) (by decide) (by decide)).mpr (Nat.le_refl _)
/-! merge -/
section MRG
variable {I : Nat → Nat → Int32} {L : Nat → Nat → Int64} {b t w : Nat}
/-- is it a conflict: own, old, top, settled -/
def cv (own old top st : Int32) : Int32 := if own = old then 0 else if top = old then 0 else if own = top then 0 else if st = 0 then 1 else 0
def cN (f : Nat → Int32) : Nat → Nat → Int32
  | _, 0 => 0
  | j, m + 1 => (if f j = 0 then 0 else 1) + cN f (j + 1) m
def kN (f : Nat → Int32) : Nat → Nat → Int32
  | _, 0 => 0
  | j, m + 1 => if f j = 0 then kN f (j + 1) m else 1
theorem kN_01 (f : Nat → Int32) (j m : Nat) : kN f j m = 0 ∨ kN f j m = 1 := by
  induction m generalizing j with
  | zero => exact Or.inl rfl
  | succ m ih => rw [kN]; split <;> simp [ih]
theorem kN_0 {f : Nat → Int32} {j m : Nat} (h : kN f j m = 0) : ∀ k, j ≤ k → k < j + m → f k = 0 := by
  induction m generalizing j with
  | zero => intro k h1 h2; omega
  | succ m ih =>
    intro k h1 h2
    rw [kN] at h
    split at h
    · rename_i g
      rcases Nat.lt_or_ge j k with q | q
      · exact ih h k q (by omega)
      · have : j = k := by omega
        exact this ▸ g
    · exact absurd h (by decide)
def kcv (I : Nat → Nat → Int32) (b t w k : Nat) : Int32 := cv (I 32 (b * 32 + k)) (I 31 (t * 32 + k)) (I 31 (w * 32 + k)) (I 33 (b * 32 + k))
def kow (I : Nat → Nat → Int32) (b t w k : Nat) : Int32 := if I 32 (b * 32 + k) = I 31 (t * 32 + k) then 0 else if I 32 (b * 32 + k) = I 31 (w * 32 + k) then 0 else 1
theorem e32 (a k : Nat) : jN a * (32 : Int32) + jN k = jN (a * 32 + k) := by
  rw [show (32 : Int32) = jN 32 from rfl, jN_mul, jN_add]
theorem e32' (a k : Nat) : (32 : Int32) * jN a + jN k = jN (a * 32 + k) := by rw [mul32, e32]
theorem b_cf (hb : b < 4) (ht : t ≤ 500) (hw : w ≤ 500) (e1 : I 30 b = jN t) (e2 : I 29 0 = jN w) {k : Nat} (hk : k < 32) : f_Be_isConflict (jN b) (jN k) I L = some (kcv I b t w k) := by
  have c1 : (0 ≤ jN b ∧ jN b < 4) := jN_in (n := 4) hb (by decide)
  have c2 : (0 ≤ jN (b * 32 + k) ∧ jN (b * 32 + k) < 128) := jN_in (n := 128) (by omega) (by decide)
  have c3 : (0 ≤ jN (t * 32 + k) ∧ jN (t * 32 + k) < 16032) := jN_in (n := 16032) (by omega) (by decide)
  have c4 : (0 ≤ jN (w * 32 + k) ∧ jN (w * 32 + k) < 16032) := jN_in (n := 16032) (by omega) (by decide)
  simp only [f_Be_isConflict, f_Be_ofVersion, f_Be_ofCopy, jN_tc (show b < 2147483648 by omega), e1, e2, e32, if_pos c1, if_pos c2, if_pos c3, if_pos c4, Option.bind_some, jN_tc (show b * 32 + k < 2147483648 by omega), jN_tc (show t * 32 + k < 2147483648 by omega), jN_tc (show w * 32 + k < 2147483648 by omega), kcv, cv]
  repeat (split <;> try rfl)
theorem b_count (hb : b < 4) (ht : t ≤ 500) (hw : w ≤ 500) (e1 : I 30 b = jN t) (e2 : I 29 0 = jN w) : ∀ (m n j : Nat) (c : Int32), j + m = 32 → m < n → f_Be_countConflicts_L4 n (jN b) c (jN j) I L = some (c + cN (kcv I b t w) j m) := by
  intro m
  induction m with
  | zero =>
    intro n j c h1 h2
    obtain ⟨n, rfl⟩ : ∃ k, n = k + 1 := ⟨n - 1, by omega⟩
    have : j = 32 := by omega
    subst this
    rw [f_Be_countConflicts_L4, if_pos le32, cN, Int32.add_zero]
  | succ m ih =>
    intro n j c h1 h2
    obtain ⟨n, rfl⟩ : ∃ k, n = k + 1 := ⟨n - 1, by omega⟩
    have c0 : ¬ (32 : Int32) ≤ jN j := fun q => by
      have := (jN_le (a := 32) (b := j) (by decide) (by omega)).mp q
      omega
    rw [f_Be_countConflicts_L4, if_neg c0, b_cf hb ht hw e1 e2 (by omega), Option.bind_some, jN_1, ih n (j + 1) _ (by omega) (by omega), ih n (j + 1) _ (by omega) (by omega), cN]
    split
    · rw [Int32.zero_add]
    · rw [Int32.add_assoc]
theorem b_keeps (hb : b < 4) (ht : t ≤ 500) (hw : w ≤ 500) (e1 : I 30 b = jN t) (e2 : I 29 0 = jN w) : ∀ (m n j : Nat), j + m = 32 → m < n → f_Be_keepsOwn_L2 n (jN b) (jN j) I L = some (kN (kow I b t w) j m) := by
  intro m
  induction m with
  | zero =>
    intro n j h1 h2
    obtain ⟨n, rfl⟩ : ∃ k, n = k + 1 := ⟨n - 1, by omega⟩
    have : j = 32 := by omega
    subst this
    rw [f_Be_keepsOwn_L2, if_pos le32, kN]
  | succ m ih =>
    intro n j h1 h2
    obtain ⟨n, rfl⟩ : ∃ k, n = k + 1 := ⟨n - 1, by omega⟩
    have c0 : ¬ (32 : Int32) ≤ jN j := fun q => by
      have := (jN_le (a := 32) (b := j) (by decide) (by omega)).mp q
      omega
    have c1 : (0 ≤ jN b ∧ jN b < 4) := jN_in (n := 4) hb (by decide)
    have c2 : (0 ≤ jN (b * 32 + j) ∧ jN (b * 32 + j) < 128) := jN_in (n := 128) (by omega) (by decide)
    have c3 : (0 ≤ jN (t * 32 + j) ∧ jN (t * 32 + j) < 16032) := jN_in (n := 16032) (by omega) (by decide)
    have c4 : (0 ≤ jN (w * 32 + j) ∧ jN (w * 32 + j) < 16032) := jN_in (n := 16032) (by omega) (by decide)
    simp only [f_Be_keepsOwn_L2, f_Be_ofVersion, f_Be_ofCopy, jN_tc (show b < 2147483648 by omega), if_neg c0, e1, e2, e32, if_pos c1, if_pos c2, if_pos c3, if_pos c4, Option.bind_some, jN_tc (show b * 32 + j < 2147483648 by omega), jN_tc (show t * 32 + j < 2147483648 by omega), jN_tc (show w * 32 + j < 2147483648 by omega), jN_1, ih n (j + 1) (by omega) (by omega), kN, kow]
    by_cases g1 : I 32 (b * 32 + j) = I 31 (t * 32 + j)
    · simp [g1]
    · by_cases g2 : I 32 (b * 32 + j) = I 31 (w * 32 + j)
      · simp [g1, g2]
      · simp [g1, g2]
def mg (own old top : Int32) : Int32 := if own = old then top else own
/-- the copy b, its first j settings merged -/
def tk (I : Nat → Nat → Int32) (b t w j : Nat) : Nat → Nat → Int32 := fun a i =>
  if a = 32 ∧ b * 32 ≤ i ∧ i < b * 32 + j then mg (I 32 i) (I 31 (t * 32 + (i - b * 32))) (I 31 (w * 32 + (i - b * 32))) else if a = 33 ∧ b * 32 ≤ i ∧ i < b * 32 + j then 0 else I a i
theorem b_take (hb : b < 4) (ht : t ≤ 500) (hw : w ≤ 500) (e1 : I 30 b = jN t) (e2 : I 29 0 = jN w) : ∀ (m n j : Nat), j + m = 32 → m < n → f_Be_takeOthers_L2 n (jN b) (jN j) (tk I b t w j) L = some (tk I b t w 32, L) := by
  intro m
  induction m with
  | zero =>
    intro n j h1 h2
    obtain ⟨n, rfl⟩ : ∃ k, n = k + 1 := ⟨n - 1, by omega⟩
    have : j = 32 := by omega
    subst this
    rw [f_Be_takeOthers_L2, if_pos le32]
  | succ m ih =>
    intro n j h1 h2
    obtain ⟨n, rfl⟩ : ∃ k, n = k + 1 := ⟨n - 1, by omega⟩
    have c0 : ¬ (32 : Int32) ≤ jN j := fun q => by
      have := (jN_le (a := 32) (b := j) (by decide) (by omega)).mp q
      omega
    have c1 : (0 ≤ jN b ∧ jN b < 4) := jN_in (n := 4) hb (by decide)
    have c2 : (0 ≤ jN (b * 32 + j) ∧ jN (b * 32 + j) < 128) := jN_in (n := 128) (by omega) (by decide)
    have c3 : (0 ≤ jN (t * 32 + j) ∧ jN (t * 32 + j) < 16032) := jN_in (n := 16032) (by omega) (by decide)
    have c4 : (0 ≤ jN (w * 32 + j) ∧ jN (w * 32 + j) < 16032) := jN_in (n := 16032) (by omega) (by decide)
    have r1 : ∀ i, tk I b t w j 30 i = I 30 i := fun i => by simp [tk]
    have r2 : ∀ i, tk I b t w j 29 i = I 29 i := fun i => by simp [tk]
    have r3 : ∀ i, tk I b t w j 31 i = I 31 i := fun i => by simp [tk]
    have r4 : tk I b t w j 32 (b * 32 + j) = I 32 (b * 32 + j) := by simp [tk]
    have s1 : b * 32 + j - b * 32 = j := by omega
    simp only [f_Be_takeOthers_L2, f_Be_ofVersion, f_Be_ofCopy, jN_tc (show b < 2147483648 by omega), if_neg c0, r1, r2, r3, e1, e2, e32, if_pos c1, if_pos c2, if_pos c3, if_pos c4, Option.bind_some, jN_tc (show b * 32 + j < 2147483648 by omega), jN_tc (show t * 32 + j < 2147483648 by omega), jN_tc (show w * 32 + j < 2147483648 by omega), jN_1, r4]
    rw [← ih n (j + 1) (by omega) (by omega)]
    split
    · rename_i g
      congr 1
      funext a i
      simp only [uI, tk]
      by_cases q1 : i = b * 32 + j
      · subst q1
        by_cases q2 : a = 33
        · simp [q2]
        · by_cases q3 : a = 32
          · simp [q3, s1, mg, g]
          · simp [q2, q3]
      · have q4 : (b * 32 ≤ i ∧ i < b * 32 + (j + 1)) ↔ (b * 32 ≤ i ∧ i < b * 32 + j) := by omega
        simp [q1, q4]
    · rename_i g
      congr 1
      funext a i
      simp only [uI, tk]
      by_cases q1 : i = b * 32 + j
      · subst q1
        by_cases q2 : a = 33
        · simp [q2]
        · by_cases q3 : a = 32
          · simp [q3, s1, mg, g]
          · simp [q2, q3]
      · have q4 : (b * 32 ≤ i ∧ i < b * 32 + (j + 1)) ↔ (b * 32 ≤ i ∧ i < b * 32 + j) := by omega
        simp [q1, q4]
/-- the reference's -/
def rcv (I : Nat → Nat → Int32) (b t w k : Nat) : Int32 := cv (I 72 (b * 32 + k)) (I 71 (t * 32 + k)) (I 71 (w * 32 + k)) (I 74 (b * 32 + k))
def row (I : Nat → Nat → Int32) (b t w k : Nat) : Int32 := if I 72 (b * 32 + k) = I 71 (t * 32 + k) then 0 else if I 72 (b * 32 + k) = I 71 (w * 32 + k) then 0 else 1
theorem m_cf (hb : b < 4) (ht : t ≤ 500) (hw : w ≤ 500) (e1 : I 73 b = jN t) (e2 : I 34 75 = jN w) {k : Nat} (hk : k < 32) : f_Md_isConflict (jN b) (jN k) I L = some (rcv I b t w k) := by
  have c1 : (0 ≤ jN b ∧ jN b < 4) := jN_in (n := 4) hb (by decide)
  have c2 : (0 ≤ jN (b * 32 + k) ∧ jN (b * 32 + k) < 128) := jN_in (n := 128) (by omega) (by decide)
  have c3 : (0 ≤ jN (t * 32 + k) ∧ jN (t * 32 + k) < 16032) := jN_in (n := 16032) (by omega) (by decide)
  have c4 : (0 ≤ jN (w * 32 + k) ∧ jN (w * 32 + k) < 16032) := jN_in (n := 16032) (by omega) (by decide)
  simp only [f_Md_isConflict, bnd, jN_tc (show b < 2147483648 by omega), e1, e2, e32', if_pos c1, if_pos c2, if_pos c3, if_pos c4, Option.bind_some, jN_tc (show b * 32 + k < 2147483648 by omega), jN_tc (show t * 32 + k < 2147483648 by omega), jN_tc (show w * 32 + k < 2147483648 by omega), rcv, cv]
  repeat (split <;> try rfl)
def m_end (I : Nat → Nat → Int32) (L : Nat → Nat → Int64) (b : Nat) (c o : Int32) := (if c ≤ (0 : Int32) then (if o = (0 : Int32) then (f_Md_merge_L139 (jN b) o I L) else (if (I 34 75) = (500 : Int32) then (some ((-3 : Int32), I, L)) else (f_Md_merge_L139 (jN b) o I L))) else (some (c, I, L)))
theorem or_01 {a b : Int32} (ha : a = 0 ∨ a = 1) (hb : b = 0 ∨ b = 1) : (a ||| 0) = a ∧ (a ||| 1) = 1 ∧ ((1 : Int32) ||| b) = 1 ∧ ((a ||| b) = 0 ∨ (a ||| b) = 1) := by
  rcases ha with rfl | rfl <;> rcases hb with rfl | rfl <;> decide
theorem m_scan (hb : b < 4) (ht : t ≤ 500) (hw : w ≤ 500) (e1 : I 73 b = jN t) (e2 : I 34 75 = jN w) : ∀ (m n j : Nat) (c o : Int32), (o = 0 ∨ o = 1) → j + m = 32 → m < n → f_Md_merge_L21 n (jN b) c o (jN j) I L = m_end I L b (c + cN (rcv I b t w) j m) (o ||| kN (row I b t w) j m) := by
  intro m
  induction m with
  | zero =>
    intro n j c o ho h1 h2
    obtain ⟨n, rfl⟩ : ∃ k, n = k + 1 := ⟨n - 1, by omega⟩
    have : j = 32 := by omega
    subst this
    rw [f_Md_merge_L21, if_pos le32, cN, kN, Int32.add_zero, (or_01 ho ho).1, m_end]
  | succ m ih =>
    intro n j c o ho h1 h2
    obtain ⟨n, rfl⟩ : ∃ k, n = k + 1 := ⟨n - 1, by omega⟩
    have c0 : ¬ (32 : Int32) ≤ jN j := fun q => by
      have := (jN_le (a := 32) (b := j) (by decide) (by omega)).mp q
      omega
    have c1 : (0 ≤ jN b ∧ jN b < 4) := jN_in (n := 4) hb (by decide)
    have c2 : (0 ≤ jN (b * 32 + j) ∧ jN (b * 32 + j) < 128) := jN_in (n := 128) (by omega) (by decide)
    have c3 : (0 ≤ jN (t * 32 + j) ∧ jN (t * 32 + j) < 16032) := jN_in (n := 16032) (by omega) (by decide)
    have c4 : (0 ≤ jN (w * 32 + j) ∧ jN (w * 32 + j) < 16032) := jN_in (n := 16032) (by omega) (by decide)
    have hk := kN_01 (row I b t w) (j + 1) m
    have q1 := ih n (j + 1)
    have q2 : ∀ x : Int32, f_Md_merge_L44 (f_Md_merge_L21 n) (jN b) o (jN j) c x I L = m_end I L b (c + x + cN (rcv I b t w) (j + 1) m) (o ||| kN (row I b t w) j (m + 1)) := by
      intro x
      simp only [f_Md_merge_L44, bnd, jN_tc (show b < 2147483648 by omega), e1, e2, e32', if_pos c1, if_pos c2, if_pos c3, if_pos c4, jN_tc (show b * 32 + j < 2147483648 by omega), jN_tc (show t * 32 + j < 2147483648 by omega), jN_tc (show w * 32 + j < 2147483648 by omega), jN_1, kN, row, (or_01 ho ho).1, (or_01 ho ho).2.1]
      by_cases g1 : I 72 (b * 32 + j) = I 71 (t * 32 + j)
      · simp only [if_pos g1, if_true]
        exact q1 _ _ ho (by omega) (by omega)
      · by_cases g2 : I 72 (b * 32 + j) = I 71 (w * 32 + j)
        · simp only [if_neg g1, if_pos g2, if_true]
          exact q1 _ _ ho (by omega) (by omega)
        · simp only [if_neg g1, if_neg g2, show ¬ (1 : Int32) = 0 by decide, if_false, (or_01 ho ho).2.1]
          rw [q1 _ _ (Or.inr rfl) (by omega) (by omega), (or_01 hk hk).2.2.1]
    rw [f_Md_merge_L21, if_neg c0, m_cf hb ht hw e1 e2 (by omega), Option.bind_some, q2, q2, cN]
    split
    · rw [Int32.add_zero, Int32.zero_add]
    · rw [Int32.add_assoc]
/-- the copy b and the version tp, their first j settings merged -/
def mk (I : Nat → Nat → Int32) (b t w tp j : Nat) : Nat → Nat → Int32 := fun a i =>
  if a = 72 ∧ b * 32 ≤ i ∧ i < b * 32 + j then mg (I 72 i) (I 71 (t * 32 + (i - b * 32))) (I 71 (w * 32 + (i - b * 32))) else if a = 74 ∧ b * 32 ≤ i ∧ i < b * 32 + j then 0 else if a = 71 ∧ tp * 32 ≤ i ∧ i < tp * 32 + j then mg (I 72 (b * 32 + (i - tp * 32))) (I 71 (t * 32 + (i - tp * 32))) (I 71 (w * 32 + (i - tp * 32))) else I a i
theorem m_take (hb : b < 4) {tp : Nat} (ht : t ≤ w) (hw : w ≤ tp) (hp : tp ≤ 500) (e1 : I 73 b = jN t) (e2 : I 34 75 = jN w) : ∀ (m n j : Nat), j + m = 32 → m < n → f_Md_merge_L161 n (jN b) (jN tp) (jN j) (mk I b t w tp j) L = some (0, uI (uI (mk I b t w tp 32) 34 75 (jN tp)) 73 b (jN tp), L) := by
  intro m
  induction m with
  | zero =>
    intro n j h1 h2
    obtain ⟨n, rfl⟩ : ∃ k, n = k + 1 := ⟨n - 1, by omega⟩
    have : j = 32 := by omega
    subst this
    have c1 : (0 ≤ jN b ∧ jN b < 4) := jN_in (n := 4) hb (by decide)
    rw [f_Md_merge_L161, if_pos le32, if_pos c1, jN_tc (show b < 2147483648 by omega)]
  | succ m ih =>
    intro n j h1 h2
    obtain ⟨n, rfl⟩ : ∃ k, n = k + 1 := ⟨n - 1, by omega⟩
    have c0 : ¬ (32 : Int32) ≤ jN j := fun q => by
      have := (jN_le (a := 32) (b := j) (by decide) (by omega)).mp q
      omega
    have c1 : (0 ≤ jN b ∧ jN b < 4) := jN_in (n := 4) hb (by decide)
    have c2 : (0 ≤ jN (b * 32 + j) ∧ jN (b * 32 + j) < 128) := jN_in (n := 128) (by omega) (by decide)
    have c3 : (0 ≤ jN (t * 32 + j) ∧ jN (t * 32 + j) < 16032) := jN_in (n := 16032) (by omega) (by decide)
    have c4 : (0 ≤ jN (w * 32 + j) ∧ jN (w * 32 + j) < 16032) := jN_in (n := 16032) (by omega) (by decide)
    have c5 : (0 ≤ jN (tp * 32 + j) ∧ jN (tp * 32 + j) < 16032) := jN_in (n := 16032) (by omega) (by decide)
    have r1 : ∀ i, mk I b t w tp j 73 i = I 73 i := fun i => by simp [mk]
    have r2 : ∀ i, mk I b t w tp j 34 i = I 34 i := fun i => by simp [mk]
    have r3 : mk I b t w tp j 71 (t * 32 + j) = I 71 (t * 32 + j) := by
      simp only [mk]
      rw [if_neg (by omega), if_neg (by omega), if_neg (by omega)]
    have r5 : mk I b t w tp j 71 (w * 32 + j) = I 71 (w * 32 + j) := by
      simp only [mk]
      rw [if_neg (by omega), if_neg (by omega), if_neg (by omega)]
    have r4 : mk I b t w tp j 72 (b * 32 + j) = I 72 (b * 32 + j) := by simp [mk]
    have s1 : b * 32 + j - b * 32 = j := by omega
    have s2 : tp * 32 + j - tp * 32 = j := by omega
    have key : ∀ x, x = mg (I 72 (b * 32 + j)) (I 71 (t * 32 + j)) (I 71 (w * 32 + j)) → uI (uI (uI (mk I b t w tp j) 72 (b * 32 + j) x) 71 (tp * 32 + j) x) 74 (b * 32 + j) 0 = mk I b t w tp (j + 1) := by
      intro x hx
      funext a i
      simp only [uI, mk]
      by_cases a1 : a = 74
      · subst a1
        by_cases q : i = b * 32 + j
        · subst q; simp
        · have q4 : (b * 32 ≤ i ∧ i < b * 32 + (j + 1)) ↔ (b * 32 ≤ i ∧ i < b * 32 + j) := by omega
          simp [q, q4]
      · by_cases a2 : a = 72
        · subst a2
          by_cases q : i = b * 32 + j
          · subst q; simp [hx, s1]
          · have q4 : (b * 32 ≤ i ∧ i < b * 32 + (j + 1)) ↔ (b * 32 ≤ i ∧ i < b * 32 + j) := by omega
            simp [q, q4]
        · by_cases a3 : a = 71
          · subst a3
            by_cases q : i = tp * 32 + j
            · subst q; simp [hx, s2]
            · have q4 : (tp * 32 ≤ i ∧ i < tp * 32 + (j + 1)) ↔ (tp * 32 ≤ i ∧ i < tp * 32 + j) := by omega
              simp [q, q4]
          · simp [a1, a2, a3]
    simp only [f_Md_merge_L161, f_Md_merge_L229, bnd, jN_tc (show b < 2147483648 by omega), if_neg c0, r1, r2, e1, e2, e32', if_pos c1, if_pos c2, if_pos c3, if_pos c4, if_pos c5, jN_tc (show b * 32 + j < 2147483648 by omega), jN_tc (show t * 32 + j < 2147483648 by omega), jN_tc (show w * 32 + j < 2147483648 by omega), jN_tc (show tp * 32 + j < 2147483648 by omega), jN_1, r3, r4, r5]
    split
    · rename_i g
      rw [key _ (by simp [mg, g]), ih n (j + 1) (by omega) (by omega)]
    · rename_i g
      rw [key _ (by simp [mg, g]), ih n (j + 1) (by omega) (by omega)]
theorem mk_72 {tp j i : Nat} : mk I b t w tp j 72 i = if b * 32 ≤ i ∧ i < b * 32 + j then mg (I 72 i) (I 71 (t * 32 + (i - b * 32))) (I 71 (w * 32 + (i - b * 32))) else I 72 i := by simp [mk]
theorem mk_74 {tp j i : Nat} : mk I b t w tp j 74 i = if b * 32 ≤ i ∧ i < b * 32 + j then 0 else I 74 i := by simp [mk]
theorem mk_71 {tp j i : Nat} : mk I b t w tp j 71 i = if tp * 32 ≤ i ∧ i < tp * 32 + j then mg (I 72 (b * 32 + (i - tp * 32))) (I 71 (t * 32 + (i - tp * 32))) (I 71 (w * 32 + (i - tp * 32))) else I 71 i := by simp [mk]
theorem tk_32 {j i : Nat} : tk I b t w j 32 i = if b * 32 ≤ i ∧ i < b * 32 + j then mg (I 32 i) (I 31 (t * 32 + (i - b * 32))) (I 31 (w * 32 + (i - b * 32))) else I 32 i := by simp [tk]
theorem tk_33 {j i : Nat} : tk I b t w j 33 i = if b * 32 ≤ i ∧ i < b * 32 + j then 0 else I 33 i := by simp [tk]
end MRG

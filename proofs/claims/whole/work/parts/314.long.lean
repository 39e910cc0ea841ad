/-! long numbers -/
theorem lg_r (x : Int64) : -9223372036854775808 ≤ x.toInt ∧ x.toInt < 9223372036854775808 := ⟨Int64.le_toInt x, Int64.toInt_lt x⟩
theorem bm64 {a : Int} (h1 : -9223372036854775808 ≤ a) (h2 : a < 9223372036854775808) : a.bmod (2 ^ 64) = a := by
  apply Int.bmod_eq_of_le <;> omega
theorem lg_add {x y : Int64} (h1 : -9223372036854775808 ≤ x.toInt + y.toInt) (h2 : x.toInt + y.toInt < 9223372036854775808) : (x + y).toInt = x.toInt + y.toInt := by
  rw [Int64.toInt_add, bm64 h1 h2]
theorem lg_sub {x y : Int64} (h1 : -9223372036854775808 ≤ x.toInt - y.toInt) (h2 : x.toInt - y.toInt < 9223372036854775808) : (x - y).toInt = x.toInt - y.toInt := by
  rw [Int64.toInt_sub, bm64 h1 h2]
theorem lg_mul {x y : Int64} (h1 : -9223372036854775808 ≤ x.toInt * y.toInt) (h2 : x.toInt * y.toInt < 9223372036854775808) : (x * y).toInt = x.toInt * y.toInt := by
  rw [Int64.toInt_mul, bm64 h1 h2]
theorem lg_neg {x : Int64} (h : -9223372036854775808 < x.toInt) : (-x).toInt = -x.toInt := by
  have := lg_r x
  rw [Int64.toInt_neg, bm64 (by omega) (by omega)]
theorem lg_div {x y : Int64} (h : y.toInt ≠ -1) : (x / y).toInt = x.toInt.tdiv y.toInt := by
  have h1 := lg_r x
  rw [Int64.toInt_div]
  have h2 : (x.toInt.tdiv y.toInt).natAbs ≤ x.toInt.natAbs := by
    rw [Int.natAbs_tdiv]; exact Nat.div_le_self _ _
  by_cases hm : x.toInt = -9223372036854775808
  · by_cases h3 : (x.toInt.tdiv y.toInt) = 9223372036854775808
    · exfalso
      have h4 : (x.toInt.tdiv y.toInt).natAbs = 9223372036854775808 := by rw [h3]; rfl
      rw [Int.natAbs_tdiv, hm] at h4
      have h5 : y.toInt.natAbs = 1 := by
        have e : (-9223372036854775808 : Int).natAbs = 9223372036854775808 := rfl
        rw [e] at h4
        have h8 : y.toInt.natAbs ≠ 0 := fun q => by rw [q] at h4; simp at h4
        rcases Nat.lt_or_ge 1 y.toInt.natAbs with q | q
        · have := Nat.div_lt_self (n := 9223372036854775808) (k := y.toInt.natAbs) (by decide) q
          exact absurd h4 (Nat.ne_of_lt this)
        · omega
      have h6 : y.toInt = 1 := by omega
      rw [h6, hm] at h3
      simp at h3
    · rw [bm64] <;> omega
  · rw [bm64] <;> omega
theorem lg_div0 {x y : Int64} (hx : 0 ≤ x.toInt) (hy : 0 < y.toInt) : (x / y).toInt = x.toInt / y.toInt := by
  rw [lg_div (by omega), Int.tdiv_eq_ediv_of_nonneg hx]
theorem lg_rem {x y : Int64} (hx : 0 ≤ x.toInt) (hy : 0 < y.toInt) : (lrem x y).toInt = x.toInt % y.toInt := by
  have h1 := lg_div0 hx hy
  have r := lg_r x
  have h0 : 0 ≤ x.toInt / y.toInt := Int.ediv_nonneg hx (by omega)
  have h4 := Int.ediv_mul_le x.toInt (b := y.toInt) (by omega)
  have h5 : 0 ≤ x.toInt / y.toInt * y.toInt := Int.mul_nonneg h0 (by omega)
  have h6 : (x / y * y).toInt = x.toInt / y.toInt * y.toInt := by
    rw [lg_mul, h1] <;> rw [h1] <;> omega
  unfold lrem
  rw [lg_sub, h6, Int.emod_def, Int.mul_comm]
  · rw [h6]; omega
  · rw [h6]; omega
theorem lg_0 : (0 : Int64).toInt = 0 := by decide
theorem lg_lt {x y : Int64} : x < y ↔ x.toInt < y.toInt := Int64.lt_iff_toInt_lt
theorem lg_le {x y : Int64} : x ≤ y ↔ x.toInt ≤ y.toInt := Int64.le_iff_toInt_le
theorem lg_eq {x y : Int64} : x = y ↔ x.toInt = y.toInt := Int64.toInt_inj.symm
theorem lg_abs {x : Int64} (h : -9223372036854775808 < x.toInt) : (Jabs x).toInt = (x.toInt.natAbs : Int) := by
  unfold Jabs
  split
  · rename_i q
    have := lg_lt.mp q
    rw [lg_0] at this
    omega
  · rename_i q
    have : ¬ (0 : Int64).toInt < x.toInt := fun e => q (lg_lt.mpr e)
    rw [lg_0] at this
    rw [lg_neg h]
    omega
/-- Euclid's way, of both -/
theorem gcd_go : ∀ (k a b : Nat) (x y : Int64), x.toInt = a → y.toInt = b → b < 2 ^ k → ∃ g : Int64, g.toInt = Nat.gcd a b ∧ (∀ n, 2 * k < n → f_Md_common_L12 n x y = some g) ∧ ∀ n i, 2 * k < n → i + 2 * k < 200 → f_H_commonDivisor_L15 n x y (jN i) = some g := by
  intro k
  induction k with
  | zero =>
    intro a b x y hx hy hb
    have hb0 : b = 0 := by simpa using hb
    subst hb0
    have hy0 : y = 0 := lg_eq.mpr (by rw [hy]; rfl)
    subst hy0
    refine ⟨x, by rw [hx]; simp, fun n hn => ?_, fun n i hn hi => ?_⟩
    · obtain ⟨n, rfl⟩ : ∃ k, n = k + 1 := ⟨n - 1, by omega⟩
      rw [f_Md_common_L12, if_pos rfl]
    · obtain ⟨n, rfl⟩ : ∃ k, n = k + 1 := ⟨n - 1, by omega⟩
      have c : ¬ (200 : Int32) ≤ jN i := fun q => by
        have := (jN_le (a := 200) (b := i) (by decide) (by omega)).mp q
        omega
      rw [f_H_commonDivisor_L15, if_neg c, if_pos rfl]
  | succ k ih =>
    intro a b x y hx hy hb
    by_cases hb0 : b = 0
    · subst hb0
      have hy0 : y = 0 := lg_eq.mpr (by rw [hy]; rfl)
      subst hy0
      refine ⟨x, by rw [hx]; simp, fun n hn => ?_, fun n i hn hi => ?_⟩
      · obtain ⟨n, rfl⟩ : ∃ k, n = k + 1 := ⟨n - 1, by omega⟩
        rw [f_Md_common_L12, if_pos rfl]
      · obtain ⟨n, rfl⟩ : ∃ k, n = k + 1 := ⟨n - 1, by omega⟩
        have c : ¬ (200 : Int32) ≤ jN i := fun q => by
          have := (jN_le (a := 200) (b := i) (by decide) (by omega)).mp q
          omega
        rw [f_H_commonDivisor_L15, if_neg c, if_pos rfl]
    · have hy0 : ¬ y = 0 := fun q => by
        rw [q, lg_0] at hy
        omega
      have hr : (lrem x y).toInt = ((a % b : Nat) : Int) := by
        rw [lg_rem (by omega) (by omega), hx, hy]; rfl
      have hrb : a % b < b := Nat.mod_lt _ (by omega)
      by_cases hr0 : a % b = 0
      · have hx0 : lrem x y = 0 := lg_eq.mpr (by rw [hr, hr0]; rfl)
        refine ⟨y, ?_, fun n hn => ?_, fun n i hn hi => ?_⟩
        · rw [hy, Nat.gcd_comm, Nat.gcd_rec, hr0]; simp
        · obtain ⟨n, rfl⟩ : ∃ k, n = k + 1 + 1 := ⟨n - 2, by omega⟩
          rw [f_Md_common_L12, if_neg hy0, if_pos hy0]
          simp only [bnd]
          rw [hx0, f_Md_common_L12, if_pos rfl]
        · obtain ⟨n, rfl⟩ : ∃ k, n = k + 1 + 1 := ⟨n - 2, by omega⟩
          have c : ¬ (200 : Int32) ≤ jN i := fun q => by
            have := (jN_le (a := 200) (b := i) (by decide) (by omega)).mp q
            omega
          have c' : ¬ (200 : Int32) ≤ jN (i + 1) := fun q => by
            have := (jN_le (a := 200) (b := i + 1) (by decide) (by omega)).mp q
            omega
          rw [f_H_commonDivisor_L15, if_neg c, if_neg hy0, if_pos hy0]
          simp only [bnd]
          rw [hx0, jN_1, f_H_commonDivisor_L15, if_neg c', if_pos rfl]
      · have hx0 : ¬ lrem x y = 0 := fun q => by
          rw [q, lg_0] at hr
          omega
        have hr2 : (lrem y (lrem x y)).toInt = ((b % (a % b) : Nat) : Int) := by
          rw [lg_rem (by omega) (by omega), hr, hy]; rfl
        have hlt : b % (a % b) < 2 ^ k := by
          have h1 : b % (a % b) < a % b := Nat.mod_lt _ (by omega)
          have h2 : b % (a % b) + (a % b) ≤ b := by
            have h3 := Nat.mod_add_div b (a % b)
            have h4 : 1 ≤ b / (a % b) := Nat.div_pos (by omega) (by omega)
            have h5 : (a % b) * 1 ≤ (a % b) * (b / (a % b)) := Nat.mul_le_mul_left _ h4
            omega
          have : 2 ^ (k + 1) = 2 * 2 ^ k := by rw [Nat.pow_succ]; omega
          omega
        obtain ⟨g, hg, q1, q2⟩ := ih (a % b) (b % (a % b)) _ _ hr hr2 hlt
        refine ⟨g, ?_, fun n hn => ?_, fun n i hn hi => ?_⟩
        · rw [hg, Nat.gcd_comm a b, Nat.gcd_rec b a, Nat.gcd_comm (a % b) (b % (a % b)), ← Nat.gcd_rec, Nat.gcd_comm]
        · obtain ⟨n, rfl⟩ : ∃ k, n = k + 1 + 1 := ⟨n - 2, by omega⟩
          rw [f_Md_common_L12, if_neg hy0, if_pos hy0]
          simp only [bnd]
          rw [f_Md_common_L12, if_neg hx0, if_pos hx0]
          simp only [bnd]
          exact q1 n (by omega)
        · obtain ⟨n, rfl⟩ : ∃ k, n = k + 1 + 1 := ⟨n - 2, by omega⟩
          have c : ¬ (200 : Int32) ≤ jN i := fun q => by
            have := (jN_le (a := 200) (b := i) (by decide) (by omega)).mp q
            omega
          have c' : ¬ (200 : Int32) ≤ jN (i + 1) := fun q => by
            have := (jN_le (a := 200) (b := i + 1) (by decide) (by omega)).mp q
            omega
          rw [f_H_commonDivisor_L15, if_neg c, if_neg hy0, if_pos hy0]
          simp only [bnd]
          rw [jN_1, f_H_commonDivisor_L15, if_neg c', if_neg hx0, if_pos hx0]
          simp only [bnd]
          rw [jN_1]
          exact q2 n (i + 1 + 1) (by omega) (by omega)
theorem gcd_both {x y : Int64} (hx : -9223372036854775808 < x.toInt) (hy : -9223372036854775808 < y.toInt) : ∃ g : Int64, g.toInt = (Nat.gcd x.toInt.natAbs y.toInt.natAbs : Nat) ∧ f_Md_common x y = some g ∧ f_H_commonDivisor x y = some g := by
  have r := lg_r y
  obtain ⟨g, h1, h2, h3⟩ := gcd_go 63 x.toInt.natAbs y.toInt.natAbs (Jabs x) (Jabs y) (lg_abs hx) (lg_abs hy) (by
    have : (2 : Nat) ^ 63 = 9223372036854775808 := by decide
    omega)
  refine ⟨g, h1, ?_, ?_⟩
  · simp only [f_Md_common, bnd]
    exact h2 xF (xF_big (by decide))
  · simp only [f_H_commonDivisor, bnd]
    exact h3 xF 0 (xF_big (by decide)) (by decide)

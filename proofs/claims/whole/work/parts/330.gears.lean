/-! the movement's gears: one link -/
def bd (x : Int64) (U : Nat) : Prop := x.toInt.natAbs ≤ U
theorem bd_mul {x y : Int64} {U V : Nat} (hx : bd x U) (hy : bd y V) (h : U * V ≤ 4611686018427387904) : (x * y).toInt = x.toInt * y.toInt ∧ bd (x * y) (U * V) := by
  have b : (x.toInt * y.toInt).natAbs ≤ U * V := by rw [Int.natAbs_mul]; exact Nat.mul_le_mul hx hy
  have e : (x * y).toInt = x.toInt * y.toInt := lg_mul (by omega) (by omega)
  exact ⟨e, by unfold bd; rw [e]; exact b⟩
theorem bd_add {x y : Int64} {U V : Nat} (hx : bd x U) (hy : bd y V) (h : U + V ≤ 4611686018427387904) : (x + y).toInt = x.toInt + y.toInt ∧ bd (x + y) (U + V) := by
  unfold bd at *
  have e : (x + y).toInt = x.toInt + y.toInt := lg_add (by omega) (by omega)
  exact ⟨e, by rw [e]; omega⟩
theorem bd_neg {x : Int64} {U : Nat} (hx : bd x U) (h : U ≤ 4611686018427387904) : (-x).toInt = -x.toInt ∧ bd (-x) U := by
  unfold bd at *
  have e : (-x).toInt = -x.toInt := lg_neg (by omega)
  exact ⟨e, by rw [e]; omega⟩
theorem bd_jN {x : Nat} (h : x ≤ 1000) : bd (jN x).toInt64 x := by unfold bd; rw [jI h]; omega
theorem jN_neg64 {x : Nat} (h : x ≤ 1000) : (-jN x).toInt64 = -(jN x).toInt64 := by
  have e : (-jN x).toInt = -(x : Int) := by
    rw [Int32.toInt_neg, jN_toInt (by omega)]
    exact Int.bmod_eq_of_le (by omega) (by omega)
  rw [lg_eq, Int32.toInt_toInt64, e, lg_neg (by rw [jI h]; omega), jI h]
/-- both end alike: s and d of the class, p and q of the reference -/
theorem fin_ok {s d p q s0 : Int64} (hs : bd s 4611686018427387904) (hd : bd d 4611686018427387904) (hd0 : ¬ d = 0) (h0 : s0 = if d ≤ 0 then 1 else -1) (hp : p = s0 * s) (hq : q = (-s0) * d) : ∃ x y : Int64, 0 < y.toInt ∧ bd x 4611686018427387904 ∧ (∀ (I : Nat → Nat → Int32) (L : Nat → Nat → Int64), ((f_H_commonDivisor s d).bind fun q4 => (if q4 = (0 : Int64) then (some (I, (uL (uL L 2 10 (0 : Int64)) 2 11 (0 : Int64)))) else (if d ≤ (0 : Int64) then (f_Ge_solve_L149 s d q4 (1 : Int64) I (uL (uL L 2 10 (0 : Int64)) 2 11 (0 : Int64))) else (f_Ge_solve_L149 s d q4 (-1 : Int64) I (uL (uL L 2 10 (0 : Int64)) 2 11 (0 : Int64)))))) = some (I, uL (uL (uL (uL L 2 10 (0 : Int64)) 2 11 (0 : Int64)) 2 10 x) 2 11 y)) ∧ ∀ (J : Nat → Nat → Int32) (K : Nat → Nat → Int64), f_Md_told p q J K = some (J, uL (uL K 34 51 x) 34 52 y) := by
  have hd1 : d.toInt ≠ 0 := fun e => hd0 (by rw [lg_eq, e]; rfl)
  obtain ⟨g, g1, _, g3⟩ := gcd_both (x := s) (y := d) (by unfold bd at hs; omega) (by unfold bd at hd; omega)
  have gpos : 0 < Nat.gcd s.toInt.natAbs d.toInt.natAbs := Nat.gcd_pos_of_pos_right _ (by omega)
  have g0 : ¬ g = 0 := fun e => by rw [e, lg_0] at g1; omega
  have hpq : p.toInt.natAbs = s.toInt.natAbs ∧ q.toInt = (d.toInt.natAbs : Int) := by
    by_cases c : d ≤ 0
    · rw [if_pos c] at h0
      have c' := lg_le.mp c
      rw [lg_0] at c'
      rw [hp, hq, h0, Int64.one_mul, Int64.neg_mul, Int64.one_mul, lg_neg (by unfold bd at hd; omega)]
      omega
    · rw [if_neg c] at h0
      have c' : ¬ d.toInt ≤ 0 := fun q => c (lg_le.mpr (by rw [lg_0]; exact q))
      rw [hp, hq, h0, Int64.neg_neg, Int64.one_mul, Int64.neg_mul, Int64.one_mul, lg_neg (by unfold bd at hs; omega)]
      omega
  obtain ⟨g', k1, k2, _⟩ := gcd_both (x := p) (y := q) (by unfold bd at hs; omega) (by unfold bd at hd; omega)
  have gg : g' = g := by
    rw [lg_eq, k1, g1, hpq.1, hpq.2]
    simp
  rw [gg] at k2
  have gpos' : 0 < g.toInt := by rw [g1]; omega
  have ey : (q / g).toInt = q.toInt / g.toInt := lg_div0 (by rw [hpq.2]; omega) gpos'
  have hdvd : g.toInt ∣ q.toInt := by
    rw [g1, hpq.2]
    exact Int.natCast_dvd_natCast.mpr (Nat.gcd_dvd_right _ _)
  refine ⟨p / g, q / g, ?_, ?_, ?_, ?_⟩
  · rw [ey]
    exact Int.ediv_pos_of_pos_of_dvd (by rw [hpq.2]; omega) (Int.le_of_lt gpos') hdvd
  · unfold bd at hs ⊢
    rw [lg_div (by omega), Int.natAbs_tdiv, hpq.1]
    exact Nat.le_trans (Nat.div_le_self _ _) hs
  · intro I L
    rw [g3, Option.bind_some, if_neg g0]
    by_cases c : d ≤ 0
    · rw [if_pos c] at h0
      rw [if_pos c, f_Ge_solve_L149, if_pos g0]
      simp only [bnd]
      rw [if_pos g0, ← h0, ← hp, ← hq]
    · rw [if_neg c] at h0
      rw [if_neg c, f_Ge_solve_L149, if_pos g0]
      simp only [bnd]
      rw [if_pos g0, ← h0, ← hp, ← hq]
  · intro J K
    rw [f_Md_told, k2, Option.bind_some, if_pos g0]
    simp only [bnd]
    rw [if_pos g0]
section GEA
variable {I J : Nat → Nat → Int32} {L K : Nat → Nat → Int64} {l A0 : Nat}
theorem has_1 {a : Nat} (h0 : I 2 0 = jN A0) (hA : A0 ≤ 24) (ha : a < A0) : f_Ge_hasArbor (jN a) I L = 1 := by
  rw [f_Ge_hasArbor, h0, if_neg, if_neg]
  · exact fun q => by have := (jN_le (by omega) (by omega)).mp q; omega
  · exact fun q => by have := (jN_lt (b := 0) (by omega) (by decide)).mp q; omega
theorem has_m : f_Ge_hasArbor (-1) I L = 0 := by rw [f_Ge_hasArbor, if_pos (by decide)]
theorem j3 (l i : Nat) : jN l * 3 + jN i = jN (l * 3 + i) := by
  have := jN_mul l 3
  rw [← jN_add, ← this]; rfl
theorem sol_skip {N p i : Nat} {s t : Int64} (hl : l < 40) (hp : p < 3) (hi : i < 3) (h : i = p) : f_Ge_solve_L8 (N + 1) (jN l) (jN p) s t (jN i) I L = f_Ge_solve_L8 N (jN l) (jN p) s t (jN (i + 1)) I L := by
  subst h
  have c1 : ¬ (3 : Int32) ≤ jN i := fun q => by have := (jN_le (a := 3) (by decide) (by omega)).mp q; omega
  have c2 : 0 ≤ jN (l * 3 + i) ∧ jN (l * 3 + i) < 120 := jN_in (n := 120) (by omega) (by decide)
  rw [f_Ge_solve_L8, if_neg c1, j3, if_pos c2]
  simp only [bnd]
  rw [if_pos trivial, jN_1]
theorem sol_none {N p i : Nat} {s t : Int64} (hl : l < 40) (hp : p < 3) (hi : i < 3) (h : i ≠ p) (hx : I 6 (l * 3 + i) = -1) : f_Ge_solve_L8 (N + 1) (jN l) (jN p) s t (jN i) I L = f_Ge_solve_L8 N (jN l) (jN p) s t (jN (i + 1)) I L := by
  have c1 : ¬ (3 : Int32) ≤ jN i := fun q => by have := (jN_le (a := 3) (by decide) (by omega)).mp q; omega
  have c2 : 0 ≤ jN (l * 3 + i) ∧ jN (l * 3 + i) < 120 := jN_in (n := 120) (by omega) (by decide)
  have c3 : ¬ jN i = jN p := fun q => h ((jN_inj (by omega) (by omega)).mp q)
  rw [f_Ge_solve_L8, if_neg c1, j3, if_pos c2, jN_tc (by omega), hx]
  simp only [bnd]
  rw [if_neg c3, if_pos has_m, jN_1]
theorem sol_add {N p i a : Nat} {s t : Int64} (h0 : I 2 0 = jN A0) (hA : A0 ≤ 24) (ha : a < A0) (hl : l < 40) (hp : p < 3) (hi : i < 3) (h : i ≠ p) (hx : I 6 (l * 3 + i) = jN a) : f_Ge_solve_L8 (N + 1) (jN l) (jN p) s t (jN i) I L = f_Ge_solve_L8 N (jN l) (jN p) (s * L 4 a + ((I 7 (l * 3 + i)).toInt64 * L 3 a) * t) (t * L 4 a) (jN (i + 1)) I L := by
  have c1 : ¬ (3 : Int32) ≤ jN i := fun q => by have := (jN_le (a := 3) (by decide) (by omega)).mp q; omega
  have c2 : 0 ≤ jN (l * 3 + i) ∧ jN (l * 3 + i) < 120 := jN_in (n := 120) (by omega) (by decide)
  have c3 : ¬ jN i = jN p := fun q => h ((jN_inj (by omega) (by omega)).mp q)
  have c4 : 0 ≤ jN a ∧ jN a < 24 := jN_in (n := 24) (by omega) (by decide)
  have c5 : ¬ f_Ge_hasArbor (jN a) I L = 0 := by rw [has_1 h0 hA ha]; decide
  rw [f_Ge_solve_L8, if_neg c1, j3, if_pos c2, jN_tc (by omega), hx]
  simp only [bnd]
  rw [if_neg c3, if_neg c5, if_pos c4, if_pos c2, if_pos c4, if_pos c4, jN_tc (by omega), jN_1]
theorem sol_end {N p : Nat} {s t : Int64} (hl : l < 40) (hp : p < 3) : f_Ge_solve_L8 (N + 1) (jN l) (jN p) s t (jN 3) I L = ((f_H_commonDivisor s (t * (I 7 (l * 3 + p)).toInt64)).bind fun q4 => (if q4 = (0 : Int64) then (some (I, (uL (uL L 2 10 (0 : Int64)) 2 11 (0 : Int64)))) else (if t * (I 7 (l * 3 + p)).toInt64 ≤ (0 : Int64) then (f_Ge_solve_L149 s (t * (I 7 (l * 3 + p)).toInt64) q4 (1 : Int64) I (uL (uL L 2 10 (0 : Int64)) 2 11 (0 : Int64))) else (f_Ge_solve_L149 s (t * (I 7 (l * 3 + p)).toInt64) q4 (-1 : Int64) I (uL (uL L 2 10 (0 : Int64)) 2 11 (0 : Int64)))))) := by
  have c2 : 0 ≤ jN (l * 3 + p) ∧ jN (l * 3 + p) < 120 := jN_in (n := 120) (by omega) (by decide)
  rw [f_Ge_solve_L8, if_pos (show (3 : Int32) ≤ jN 3 by decide), j3, if_pos c2, jN_tc (by omega)]
/-- one link, in the class and in the reference -/
def LK (I J : Nat → Nat → Int32) (A0 l : Nat) : Prop := ∃ a b m n : Nat, (a < A0 ∧ b < A0 ∧ a ≠ b ∧ 1 ≤ m ∧ m ≤ 200 ∧ 1 ≤ n ∧ n ≤ 200) ∧ (I 6 (l * 3 + 0) = jN a ∧ J 36 l = jN a ∧ I 7 (l * 3 + 0) = jN m ∧ J 39 l = jN m ∧ I 6 (l * 3 + 1) = jN b ∧ J 37 l = jN b ∧ J 40 l = jN n) ∧ ((J 35 l = 0 ∧ I 7 (l * 3 + 1) = jN n ∧ I 6 (l * 3 + 2) = -1) ∨ (J 35 l = 1 ∧ I 7 (l * 3 + 1) = -jN n ∧ I 6 (l * 3 + 2) = -1) ∨ (J 35 l = 2 ∧ I 7 (l * 3 + 1) = jN n ∧ ∃ c, (c < A0 ∧ c ≠ a ∧ c ≠ b) ∧ I 6 (l * 3 + 2) = jN c ∧ J 38 l = jN c ∧ I 7 (l * 3 + 2) = -(jN m + jN n)))
/-- an arbor's speed, known to both or to none -/
def sk (L : Nat → Nat → Int64) (J : Nat → Nat → Int32) (K : Nat → Nat → Int64) (a : Nat) : Prop := (J 57 a = 0 ∧ L 4 a = 0 ∧ L 3 a = 0) ∨ (J 57 a = 1 ∧ L 3 a = K 58 a ∧ L 4 a = K 59 a ∧ (1 ≤ (L 4 a).toInt ∧ (L 4 a).toInt ≤ 10000000) ∧ bd (L 3 a) 10000000)
theorem sk_get {a : Nat} (h : sk L J K a) (hk : ¬ L 4 a = 0) : L 3 a = K 58 a ∧ L 4 a = K 59 a ∧ bd (L 3 a) 10000000 ∧ bd (L 4 a) 10000000 ∧ 1 ≤ (L 4 a).toInt := by
  rcases h with h | ⟨_, h2, h3, h4, h5⟩
  · exact absurd h.2.1 hk
  · exact ⟨h2, h3, h5, by unfold bd; omega, h4.1⟩
/-- what solve and tells give -/
def STo (I J : Nat → Nat → Int32) (L K : Nat → Nat → Int64) (l p : Nat) : Prop := ∃ x y : Int64, (0 < y.toInt ∧ bd x 4611686018427387904) ∧ f_Ge_solve (jN l) (jN p) I L = some (I, uL (uL (uL (uL L 2 10 (0 : Int64)) 2 11 (0 : Int64)) 2 10 x) 2 11 y) ∧ f_Md_tells (jN l) (jN p) J K = some (J, uL (uL K 34 51 x) 34 52 y)
end GEA

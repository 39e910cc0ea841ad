/-! the movement's gears: what a link asks of an arbor, in both -/
section GEB
variable {I J : Nat → Nat → Int32} {L K : Nat → Nat → Int64} {l A0 : Nat}
theorem ml_tells {p a b m n : Nat} (hl : l < 40) (h36 : J 36 l = jN a) (h37 : J 37 l = jN b) (h39 : J 39 l = jN m) (h40 : J 40 l = jN n) (hk : J 35 l = 0 ∨ J 35 l = 1) (hp : p < 2) (ha : a < 24) (hb : b < 24) : f_Md_tells (jN l) (jN p) J K = f_Md_told (((if J 35 l = 0 then -1 else 1) * K 58 (if p = 0 then b else a)) * (if p = 0 then (jN n).toInt64 else (jN m).toInt64)) (K 59 (if p = 0 then b else a) * (if p = 0 then (jN m).toInt64 else (jN n).toInt64)) J K := by
  have c1 : 0 ≤ jN l ∧ jN l < 40 := jN_in (n := 40) (by omega) (by decide)
  have c2 : ¬ (2 : Int32) ≤ J 35 l := by rcases hk with h | h <;> rw [h] <;> decide
  have ca : 0 ≤ jN a ∧ jN a < 24 := jN_in (n := 24) ha (by decide)
  have cb : 0 ≤ jN b ∧ jN b < 24 := jN_in (n := 24) hb (by decide)
  have fin : ∀ x : Option ((Nat → Nat → Int32) × (Nat → Nat → Int64)), (x.bind fun q42 => some (q42.1, q42.2)) = x := by intro x; cases x <;> rfl
  have : p = 0 ∨ p = 1 := by omega
  rcases this with rfl | rfl
  · have e0 : (jN 0 : Int32) = 0 := rfl
    rcases hk with h | h
    · simp only [f_Md_tells, f_Md_tells_L53, f_Md_tells_L71, f_Md_tells_L95, f_Md_tells_L114, bnd, if_pos c1, jN_tc (show l < 2147483648 by omega), jN_tc (show b < 2147483648 by omega), h36, h37, h39, h40, h, if_neg c2, e0, if_true, if_pos cb, if_pos ca, fin]
      rw [if_neg (by decide)]
    · simp only [f_Md_tells, f_Md_tells_L53, f_Md_tells_L71, f_Md_tells_L95, f_Md_tells_L114, bnd, if_pos c1, jN_tc (show l < 2147483648 by omega), jN_tc (show b < 2147483648 by omega), h36, h37, h39, h40, h, if_neg c2, e0, if_true, if_pos cb, if_pos ca, fin]
      rw [if_neg (by decide), if_neg (by decide)]
      rfl
  · have e1 : ¬ (jN 1 : Int32) = 0 := by decide
    rcases hk with h | h
    · simp only [f_Md_tells, f_Md_tells_L53, f_Md_tells_L71, f_Md_tells_L95, f_Md_tells_L114, bnd, if_pos c1, jN_tc (show l < 2147483648 by omega), jN_tc (show a < 2147483648 by omega), h36, h37, h39, h40, h, if_neg c2, if_neg e1, if_true, if_pos cb, if_pos ca, fin]
      rw [if_neg (by decide)]
      rfl
    · simp only [f_Md_tells, f_Md_tells_L53, f_Md_tells_L71, f_Md_tells_L95, f_Md_tells_L114, bnd, if_pos c1, jN_tc (show l < 2147483648 by omega), jN_tc (show a < 2147483648 by omega), h36, h37, h39, h40, h, if_neg c2, if_neg e1, if_true, if_pos cb, if_pos ca, fin]
      rw [if_neg (by decide), if_neg (by decide)]
      rfl
/-- the class's end from s and d, the reference's from p and q: the same speed -/
def FN (s d p q : Int64) : Prop := ∃ x y : Int64, (0 < y.toInt ∧ bd x 4611686018427387904) ∧ (∀ (I : Nat → Nat → Int32) (L : Nat → Nat → Int64), ((f_H_commonDivisor s d).bind fun q4 => (if q4 = (0 : Int64) then (some (I, (uL (uL L 2 10 (0 : Int64)) 2 11 (0 : Int64)))) else (if d ≤ (0 : Int64) then (f_Ge_solve_L149 s d q4 (1 : Int64) I (uL (uL L 2 10 (0 : Int64)) 2 11 (0 : Int64))) else (f_Ge_solve_L149 s d q4 (-1 : Int64) I (uL (uL L 2 10 (0 : Int64)) 2 11 (0 : Int64)))))) = some (I, uL (uL (uL (uL L 2 10 (0 : Int64)) 2 11 (0 : Int64)) 2 10 x) 2 11 y)) ∧ ∀ (J : Nat → Nat → Int32) (K : Nat → Nat → Int64), f_Md_told p q J K = some (J, uL (uL K 34 51 x) 34 52 y)
theorem fin_pos {s d p q : Int64} (hs : bd s 4611686018427387904) (hd : bd d 4611686018427387904) (h : 0 < d.toInt) (hp : p = -s) (hq : q = d) : FN s d p q := by
  have c : ¬ d ≤ 0 := fun q => by have := lg_le.mp q; rw [lg_0] at this; omega
  obtain ⟨x, y, h1, h1', h2, h3⟩ := fin_ok (s0 := -1) hs hd (fun e => by rw [e, lg_0] at h; omega) (if_neg c).symm (show p = -1 * s by rw [hp, Int64.neg_mul, Int64.one_mul]) (show q = (- -1) * d by rw [hq, Int64.neg_neg, Int64.one_mul])
  exact ⟨x, y, ⟨h1, h1'⟩, h2, h3⟩
theorem fin_neg {s d p q : Int64} (hs : bd s 4611686018427387904) (hd : bd d 4611686018427387904) (h : d.toInt < 0) (hp : p = s) (hq : q = -d) : FN s d p q := by
  have c : d ≤ 0 := lg_le.mpr (by rw [lg_0]; omega)
  obtain ⟨x, y, h1, h1', h2, h3⟩ := fin_ok (s0 := 1) hs hd (fun e => by rw [e, lg_0] at h; omega) (if_pos c).symm (show p = 1 * s by rw [hp, Int64.one_mul]) (show q = (- 1) * d by rw [hq, Int64.neg_mul, Int64.one_mul])
  exact ⟨x, y, ⟨h1, h1'⟩, h2, h3⟩
theorem bd_w {x : Int64} {U V : Nat} (h : bd x U) (hU : U ≤ V) : bd x V := Nat.le_trans h hU
theorem st_mesh {a b m n p : Nat} (h0 : I 2 0 = jN A0) (hA : A0 ≤ 24) (hl : l < 40) (g1 : a < A0 ∧ b < A0 ∧ a ≠ b ∧ 1 ≤ m ∧ m ≤ 200 ∧ 1 ≤ n ∧ n ≤ 200) (g2 : I 6 (l * 3 + 0) = jN a ∧ J 36 l = jN a ∧ I 7 (l * 3 + 0) = jN m ∧ J 39 l = jN m ∧ I 6 (l * 3 + 1) = jN b ∧ J 37 l = jN b ∧ J 40 l = jN n) (g3 : (J 35 l = 0 ∧ I 7 (l * 3 + 1) = jN n ∧ I 6 (l * 3 + 2) = -1) ∨ (J 35 l = 1 ∧ I 7 (l * 3 + 1) = -jN n ∧ I 6 (l * 3 + 2) = -1)) (hp : p < 2) (hk : sk L J K (if p = 0 then b else a)) (hk0 : ¬ L 4 (if p = 0 then b else a) = 0) : STo I J L K l p := by
  obtain ⟨ha, hb, hab, m1, m2, n1, n2⟩ := g1
  obtain ⟨i1, i2, i3, i4, i5, i6, i7⟩ := g2
  have hkind : J 35 l = 0 ∨ J 35 l = 1 := by rcases g3 with g | g <;> simp [g.1]
  have hT := ml_tells (K := K) (p := p) hl i2 i6 i4 i7 hkind hp (by omega) (by omega)
  have hC : I 6 (l * 3 + 2) = -1 := by rcases g3 with g | g <;> exact g.2.2
  obtain ⟨N, hN⟩ := xF_10
  have bm := bd_jN (x := m) (by omega)
  have bn := bd_jN (x := n) (by omega)
  have tm := jI (x := m) (by omega)
  have tn := jI (x := n) (by omega)
  have bn' := bd_neg bn (by omega)
  have : p = 0 ∨ p = 1 := by omega
  rcases this with rfl | rfl
  · simp only [if_true] at hT hk hk0
    obtain ⟨s1, s2, s3, s4, s5⟩ := sk_get hk hk0
    have ev : f_Ge_solve (jN l) (jN 0) I L = f_Ge_solve_L8 (N + 6 + 1) (jN l) (jN 0) ((I 7 (l * 3 + 1)).toInt64 * L 3 b) (L 4 b) (jN 3) I L := by
      rw [f_Ge_solve, hN, show N + 10 = N + 6 + 1 + 1 + 1 + 1 by omega]
      have := sol_skip (N := N + 6 + 1 + 1 + 1) (I := I) (L := L) (l := l) (p := 0) (i := 0) (s := 0) (t := 1) hl (by omega) (by omega) rfl
      rw [show (0 : Int32) = jN 0 from rfl, this, sol_add h0 hA hb hl (by omega) (by omega) (by omega) i5, sol_none hl (by omega) (by omega) (by omega) hC, Int64.zero_mul, Int64.zero_add, Int64.mul_one, Int64.one_mul]
    rw [sol_end hl (by omega), i3] at ev
    have key : FN ((I 7 (l * 3 + 1)).toInt64 * L 3 b) (L 4 b * (jN m).toInt64) (((if J 35 l = 0 then -1 else 1) * K 58 b) * (jN n).toInt64) (K 59 b * (jN m).toInt64) := by
      obtain ⟨d1, d2⟩ := bd_mul s4 bm (by omega)
      have dp : 0 < (L 4 b * (jN m).toInt64).toInt := by rw [d1, tm]; exact Int.mul_pos (by omega) (by omega)
      rcases g3 with g | g
      · rw [g.1, g.2.1, if_pos rfl, ← s1, ← s2]
        exact fin_pos (bd_w (bd_mul bn s3 (by omega)).2 (by omega)) (bd_w d2 (by omega)) dp (by grind) rfl
      · rw [g.1, g.2.1, if_neg (by decide), ← s1, ← s2, jN_neg64 (by omega)]
        exact fin_pos (bd_w (bd_mul bn'.2 s3 (by omega)).2 (by omega)) (bd_w d2 (by omega)) dp (by grind) rfl
    obtain ⟨x, y, k1, k2, k3⟩ := key
    exact ⟨x, y, k1, by rw [ev]; exact k2 I L, by rw [hT]; exact k3 J K⟩
  · simp only [if_neg (show ¬ (1 = 0) by decide)] at hT hk hk0
    obtain ⟨s1, s2, s3, s4, s5⟩ := sk_get hk hk0
    have ev : f_Ge_solve (jN l) (jN 1) I L = f_Ge_solve_L8 (N + 6 + 1) (jN l) (jN 1) ((I 7 (l * 3 + 0)).toInt64 * L 3 a) (L 4 a) (jN 3) I L := by
      rw [f_Ge_solve, hN, show N + 10 = N + 6 + 1 + 1 + 1 + 1 by omega]
      have := sol_add (N := N + 6 + 1 + 1 + 1) (I := I) (L := L) (l := l) (p := 1) (i := 0) (s := 0) (t := 1) h0 hA ha hl (by omega) (by omega) (by omega) i1
      rw [show (0 : Int32) = jN 0 from rfl, this, sol_skip hl (by omega) (by omega) rfl, sol_none hl (by omega) (by omega) (by omega) hC, Int64.zero_mul, Int64.zero_add, Int64.mul_one, Int64.one_mul]
    rw [sol_end hl (by omega), i3] at ev
    have key : FN ((jN m).toInt64 * L 3 a) (L 4 a * (I 7 (l * 3 + 1)).toInt64) (((if J 35 l = 0 then -1 else 1) * K 58 a) * (jN m).toInt64) (K 59 a * (jN n).toInt64) := by
      have sb := bd_w (bd_mul bm s3 (by omega)).2 (V := 4611686018427387904) (by omega)
      rcases g3 with g | g
      · obtain ⟨d1, d2⟩ := bd_mul s4 bn (by omega)
        rw [g.1, g.2.1, if_pos rfl, ← s1, ← s2]
        exact fin_pos sb (bd_w d2 (by omega)) (by rw [d1, tn]; exact Int.mul_pos (by omega) (by omega)) (by grind) rfl
      · obtain ⟨d1, d2⟩ := bd_mul s4 bn'.2 (by omega)
        rw [g.1, g.2.1, if_neg (by decide), ← s1, ← s2, jN_neg64 (by omega)]
        refine fin_neg sb (bd_w d2 (by omega)) ?_ (by grind) (by grind)
        rw [d1, bn'.1, tn]
        exact Int.mul_neg_of_pos_of_neg (by omega) (by omega)
    obtain ⟨x, y, k1, k2, k3⟩ := key
    exact ⟨x, y, k1, by rw [ev]; exact k2 I L, by rw [hT]; exact k3 J K⟩
end GEB

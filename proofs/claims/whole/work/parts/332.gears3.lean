/-! the movement's gears: an epicycle -/
section GEC
variable {I J : Nat → Nat → Int32} {L K : Nat → Nat → Int64} {l A0 : Nat}
theorem jN_add64 {x y : Nat} (hx : x ≤ 400) (hy : y ≤ 400) : (jN (x + y)).toInt64 = (jN x).toInt64 + (jN y).toInt64 := by
  rw [lg_eq, lg_add (by rw [jI (by omega), jI (by omega)]; omega) (by rw [jI (by omega), jI (by omega)]; omega), jI (by omega), jI (by omega), jI (by omega)]
  push_cast
  rfl
theorem me_tells {p a b c m n : Nat} (hl : l < 40) (h36 : J 36 l = jN a) (h37 : J 37 l = jN b) (h38 : J 38 l = jN c) (h39 : J 39 l = jN m) (h40 : J 40 l = jN n) (hk : J 35 l = 2) (hp : p < 3) (ha : a < 24) (hb : b < 24) (hc : c < 24) : f_Md_tells (jN l) (jN p) J K = if p = 2 then f_Md_told ((((jN m).toInt64 * K 58 a) * K 59 b) + (((jN n).toInt64 * K 58 b) * K 59 a)) ((((jN m).toInt64 + (jN n).toInt64) * K 59 a) * K 59 b) J K else if p = 0 then f_Md_told (((((jN m).toInt64 + (jN n).toInt64) * K 58 c) * K 59 b) - (((jN n).toInt64 * K 58 b) * K 59 c)) (((jN m).toInt64 * K 59 c) * K 59 b) J K else f_Md_told (((((jN m).toInt64 + (jN n).toInt64) * K 58 c) * K 59 a) - (((jN m).toInt64 * K 58 a) * K 59 c)) (((jN n).toInt64 * K 59 c) * K 59 a) J K := by
  have c1 : 0 ≤ jN l ∧ jN l < 40 := jN_in (n := 40) (by omega) (by decide)
  have c2 : (2 : Int32) ≤ J 35 l := by rw [hk]; decide
  have ca : 0 ≤ jN a ∧ jN a < 24 := jN_in (n := 24) ha (by decide)
  have cb : 0 ≤ jN b ∧ jN b < 24 := jN_in (n := 24) hb (by decide)
  have cc : 0 ≤ jN c ∧ jN c < 24 := jN_in (n := 24) hc (by decide)
  have fin : ∀ x : Option ((Nat → Nat → Int32) × (Nat → Nat → Int64)), (x.bind fun q42 => some (q42.1, q42.2)) = x := by intro x; cases x <;> rfl
  have ta := jN_tc (show a < 2147483648 by omega)
  have tb := jN_tc (show b < 2147483648 by omega)
  have tc := jN_tc (show c < 2147483648 by omega)
  have tl := jN_tc (show l < 2147483648 by omega)
  have : p = 0 ∨ p = 1 ∨ p = 2 := by omega
  rcases this with rfl | rfl | rfl
  · have e0 : (jN 0 : Int32) = 0 := rfl
    have e2 : ¬ (jN 0 : Int32) = 2 := by decide
    rw [if_neg (by decide), if_pos rfl]
    simp only [f_Md_tells, bnd, if_pos c1, tl, h36, h37, h38, h39, h40, if_pos c2, if_neg e2]
    rw [if_pos e0]
    simp only [f_Md_tells_L204, f_Md_tells_L217, f_Md_tells_L230, bnd, e0, if_true, ta, tb, tc, if_pos ca, if_pos cb, if_pos cc, fin]
  · have e1 : ¬ (jN 1 : Int32) = 0 := by decide
    have e2 : ¬ (jN 1 : Int32) = 2 := by decide
    rw [if_neg (by decide), if_neg (by decide)]
    simp only [f_Md_tells, bnd, if_pos c1, tl, h36, h37, h38, h39, h40, if_pos c2, if_neg e2]
    rw [if_neg e1]
    simp only [f_Md_tells_L204, f_Md_tells_L217, f_Md_tells_L230, bnd, if_neg e1, ta, tb, tc, if_pos ca, if_pos cb, if_pos cc, fin]
  · have e2 : (jN 2 : Int32) = 2 := rfl
    rw [if_pos rfl]
    simp only [f_Md_tells, bnd, if_pos c1, tl, h36, h37, h38, h39, h40, if_pos c2]
    rw [if_pos e2]
    simp only [ta, tb, if_pos ca, if_pos cb, fin]
theorem bd3 {x y z : Int64} {U V W : Nat} (hx : bd x U) (hy : bd y V) (hz : bd z W) (h : U * V * W ≤ 4611686018427387904) (h' : U * V ≤ 4611686018427387904) : bd (x * y * z) (U * V * W) := (bd_mul (bd_mul hx hy h').2 hz h).2
theorem pos3 {x y z : Int64} {U V W : Nat} (hx : bd x U) (hy : bd y V) (hz : bd z W) (h : U * V * W ≤ 4611686018427387904) (h' : U * V ≤ 4611686018427387904) (px : 1 ≤ x.toInt) (py : 1 ≤ y.toInt) (pz : 1 ≤ z.toInt) : 0 < (x * y * z).toInt := by
  obtain ⟨e1, b1⟩ := bd_mul hx hy h'
  rw [(bd_mul b1 hz h).1, e1]
  exact Int.mul_pos (Int.mul_pos (by omega) (by omega)) (by omega)
theorem st_epi {a b c m n p : Nat} (h0 : I 2 0 = jN A0) (hA : A0 ≤ 24) (hl : l < 40) (g1 : a < A0 ∧ b < A0 ∧ a ≠ b ∧ 1 ≤ m ∧ m ≤ 200 ∧ 1 ≤ n ∧ n ≤ 200) (g2 : I 6 (l * 3 + 0) = jN a ∧ J 36 l = jN a ∧ I 7 (l * 3 + 0) = jN m ∧ J 39 l = jN m ∧ I 6 (l * 3 + 1) = jN b ∧ J 37 l = jN b ∧ J 40 l = jN n) (g3 : J 35 l = 2) (g4 : I 7 (l * 3 + 1) = jN n) (hc : c < A0) (g5 : I 6 (l * 3 + 2) = jN c ∧ J 38 l = jN c ∧ I 7 (l * 3 + 2) = -(jN m + jN n)) (hp : p < 3) (ka : p ≠ 0 → sk L J K a ∧ ¬ L 4 a = 0) (kb : p ≠ 1 → sk L J K b ∧ ¬ L 4 b = 0) (kc : p ≠ 2 → sk L J K c ∧ ¬ L 4 c = 0) : STo I J L K l p := by
  obtain ⟨ha, hb, hab, m1, m2, n1, n2⟩ := g1
  obtain ⟨i1, i2, i3, i4, i5, i6, i7⟩ := g2
  obtain ⟨j1, j2, j4⟩ := g5
  have hT := me_tells (K := K) (p := p) hl i2 i6 j2 i4 i7 g3 hp (by omega) (by omega) (by omega)
  obtain ⟨N, hN⟩ := xF_10
  have bm := bd_jN (x := m) (by omega)
  have bn := bd_jN (x := n) (by omega)
  have bm' := bd_w bm m2
  have bn' := bd_w bn n2
  have tm := jI (x := m) (by omega)
  have tn := jI (x := n) (by omega)
  have bs : bd ((jN m).toInt64 + (jN n).toInt64) 400 := (bd_add bm' bn' (by omega)).2
  have ts : ((jN m).toInt64 + (jN n).toInt64).toInt = (m : Int) + n := by rw [(bd_add bm' bn' (by omega)).1, tm, tn]
  have fC : (I 7 (l * 3 + 2)).toInt64 = -((jN m).toInt64 + (jN n).toInt64) := by
    rw [j4, jN_add, jN_neg64 (by omega), jN_add64 (by omega) (by omega)]
  obtain ⟨ns1, ns2⟩ := bd_neg bs (by omega)
  have : p = 0 ∨ p = 1 ∨ p = 2 := by omega
  rcases this with rfl | rfl | rfl
  · rw [if_neg (by decide), if_pos rfl] at hT
    obtain ⟨kb1, kb2⟩ := kb (by decide)
    obtain ⟨kc1, kc2⟩ := kc (by decide)
    obtain ⟨s1, s2, s3, s4, s5⟩ := sk_get kb1 kb2
    obtain ⟨u1, u2, u3, u4, u5⟩ := sk_get kc1 kc2
    have ev : f_Ge_solve (jN l) (jN 0) I L = f_Ge_solve_L8 (N + 6 + 1) (jN l) (jN 0) ((jN n).toInt64 * L 3 b * L 4 c + ((I 7 (l * 3 + 2)).toInt64 * L 3 c) * L 4 b) (L 4 b * L 4 c) (jN 3) I L := by
      rw [f_Ge_solve, hN, show N + 10 = N + 6 + 1 + 1 + 1 + 1 by omega]
      have := sol_skip (N := N + 6 + 1 + 1 + 1) (I := I) (L := L) (l := l) (p := 0) (i := 0) (s := 0) (t := 1) hl (by omega) (by omega) rfl
      rw [show (0 : Int32) = jN 0 from rfl, this, sol_add h0 hA hb hl (by omega) (by omega) (by omega) i5, sol_add h0 hA hc hl (by omega) (by omega) (by omega) j1, Int64.zero_mul, Int64.zero_add, Int64.mul_one, Int64.one_mul, g4]
    rw [sol_end hl (by omega), i3, fC] at ev
    have key : FN ((jN n).toInt64 * L 3 b * L 4 c + (-((jN m).toInt64 + (jN n).toInt64) * L 3 c) * L 4 b) (L 4 b * L 4 c * (jN m).toInt64) (((((jN m).toInt64 + (jN n).toInt64) * K 58 c) * K 59 b) - (((jN n).toInt64 * K 58 b) * K 59 c)) (((jN m).toInt64 * K 59 c) * K 59 b) := by
      rw [← s1, ← s2, ← u1, ← u2]
      exact fin_pos (bd_w (bd_add (bd3 bn' s3 u4 (by omega) (by omega)) (bd3 ns2 u3 s4 (by omega) (by omega)) (by omega)).2 (by omega)) (bd_w (bd3 s4 u4 bm' (by omega) (by omega)) (by omega)) (pos3 s4 u4 bm' (by omega) (by omega) s5 u5 (by omega)) (by grind) (by grind)
    obtain ⟨x, y, k1, k2, k3⟩ := key
    exact ⟨x, y, k1, by rw [ev]; exact k2 I L, by rw [hT]; exact k3 J K⟩
  · rw [if_neg (by decide), if_neg (by decide)] at hT
    obtain ⟨kb1, kb2⟩ := ka (by decide)
    obtain ⟨kc1, kc2⟩ := kc (by decide)
    obtain ⟨s1, s2, s3, s4, s5⟩ := sk_get kb1 kb2
    obtain ⟨u1, u2, u3, u4, u5⟩ := sk_get kc1 kc2
    have ev : f_Ge_solve (jN l) (jN 1) I L = f_Ge_solve_L8 (N + 6 + 1) (jN l) (jN 1) ((jN m).toInt64 * L 3 a * L 4 c + ((I 7 (l * 3 + 2)).toInt64 * L 3 c) * L 4 a) (L 4 a * L 4 c) (jN 3) I L := by
      rw [f_Ge_solve, hN, show N + 10 = N + 6 + 1 + 1 + 1 + 1 by omega]
      have := sol_add (N := N + 6 + 1 + 1 + 1) (I := I) (L := L) (l := l) (p := 1) (i := 0) (s := 0) (t := 1) h0 hA ha hl (by omega) (by omega) (by omega) i1
      rw [show (0 : Int32) = jN 0 from rfl, this, sol_skip hl (by omega) (by omega) rfl, sol_add h0 hA hc hl (by omega) (by omega) (by omega) j1, Int64.zero_mul, Int64.zero_add, Int64.mul_one, Int64.one_mul, i3]
    rw [sol_end hl (by omega), g4, fC] at ev
    have key : FN ((jN m).toInt64 * L 3 a * L 4 c + (-((jN m).toInt64 + (jN n).toInt64) * L 3 c) * L 4 a) (L 4 a * L 4 c * (jN n).toInt64) (((((jN m).toInt64 + (jN n).toInt64) * K 58 c) * K 59 a) - (((jN m).toInt64 * K 58 a) * K 59 c)) (((jN n).toInt64 * K 59 c) * K 59 a) := by
      rw [← s1, ← s2, ← u1, ← u2]
      exact fin_pos (bd_w (bd_add (bd3 bm' s3 u4 (by omega) (by omega)) (bd3 ns2 u3 s4 (by omega) (by omega)) (by omega)).2 (by omega)) (bd_w (bd3 s4 u4 bn' (by omega) (by omega)) (by omega)) (pos3 s4 u4 bn' (by omega) (by omega) s5 u5 (by omega)) (by grind) (by grind)
    obtain ⟨x, y, k1, k2, k3⟩ := key
    exact ⟨x, y, k1, by rw [ev]; exact k2 I L, by rw [hT]; exact k3 J K⟩
  · rw [if_pos rfl] at hT
    obtain ⟨kb1, kb2⟩ := ka (by decide)
    obtain ⟨kc1, kc2⟩ := kb (by decide)
    obtain ⟨s1, s2, s3, s4, s5⟩ := sk_get kb1 kb2
    obtain ⟨u1, u2, u3, u4, u5⟩ := sk_get kc1 kc2
    have ev : f_Ge_solve (jN l) (jN 2) I L = f_Ge_solve_L8 (N + 6 + 1) (jN l) (jN 2) ((jN m).toInt64 * L 3 a * L 4 b + ((jN n).toInt64 * L 3 b) * L 4 a) (L 4 a * L 4 b) (jN 3) I L := by
      rw [f_Ge_solve, hN, show N + 10 = N + 6 + 1 + 1 + 1 + 1 by omega]
      have := sol_add (N := N + 6 + 1 + 1 + 1) (I := I) (L := L) (l := l) (p := 2) (i := 0) (s := 0) (t := 1) h0 hA ha hl (by omega) (by omega) (by omega) i1
      rw [show (0 : Int32) = jN 0 from rfl, this, sol_add h0 hA hb hl (by omega) (by omega) (by omega) i5, sol_skip hl (by omega) (by omega) rfl, Int64.zero_mul, Int64.zero_add, Int64.mul_one, Int64.one_mul, i3, g4]
    rw [sol_end hl (by omega), fC] at ev
    have key : FN ((jN m).toInt64 * L 3 a * L 4 b + ((jN n).toInt64 * L 3 b) * L 4 a) (L 4 a * L 4 b * -((jN m).toInt64 + (jN n).toInt64)) ((((jN m).toInt64 * K 58 a) * K 59 b) + (((jN n).toInt64 * K 58 b) * K 59 a)) ((((jN m).toInt64 + (jN n).toInt64) * K 59 a) * K 59 b) := by
      rw [← s1, ← s2, ← u1, ← u2]
      refine fin_neg (bd_w (bd_add (bd3 bm' s3 u4 (by omega) (by omega)) (bd3 bn' u3 s4 (by omega) (by omega)) (by omega)).2 (by omega)) (bd_w (bd3 s4 u4 ns2 (by omega) (by omega)) (by omega)) ?_ rfl (by grind)
      have q := pos3 s4 u4 bs (by omega) (by omega) s5 u5 (by omega)
      have e : L 4 a * L 4 b * -((jN m).toInt64 + (jN n).toInt64) = -(L 4 a * L 4 b * ((jN m).toInt64 + (jN n).toInt64)) := by grind
      rw [e, (bd_neg (bd3 s4 u4 bs (by omega) (by omega)) (by omega)).1]
      omega
    obtain ⟨x, y, k1, k2, k3⟩ := key
    exact ⟨x, y, k1, by rw [ev]; exact k2 I L, by rw [hT]; exact k3 J K⟩
end GEC

/-! the movement's gears: a round over the links -/
section GED
variable {I J : Nat → Nat → Int32} {L K : Nat → Nat → Int64} {l A0 : Nat}
theorem cu_step {N i a : Nat} {c : Int32} (h0 : I 2 0 = jN A0) (hA : A0 ≤ 24) (ha : a < A0) (hl : l < 40) (hi : i < 3) (hx : I 6 (l * 3 + i) = jN a) : f_Ge_countUnknown_L4 (N + 1) (jN l) c (jN i) I L = f_Ge_countUnknown_L4 N (jN l) (if L 4 a = 0 then c + 1 else c) (jN (i + 1)) I L := by
  have c1 : ¬ (3 : Int32) ≤ jN i := fun q => by have := (jN_le (a := 3) (by decide) (by omega)).mp q; omega
  have c2 : 0 ≤ jN (l * 3 + i) ∧ jN (l * 3 + i) < 120 := jN_in (n := 120) (by omega) (by decide)
  have c4 : 0 ≤ jN a ∧ jN a < 24 := jN_in (n := 24) (by omega) (by decide)
  have c5 : ¬ f_Ge_hasArbor (jN a) I L = 0 := by rw [has_1 h0 hA ha]; decide
  rw [f_Ge_countUnknown_L4, if_neg c1, j3, if_pos c2, jN_tc (by omega), hx]
  simp only [bnd]
  rw [if_neg c5, if_pos c4, jN_tc (by omega), jN_1]
  by_cases z : L 4 a = 0
  · rw [if_pos z, if_pos z]
  · rw [if_neg z, if_neg z]
theorem cu_none {N i : Nat} {c : Int32} (hl : l < 40) (hi : i < 3) (hx : I 6 (l * 3 + i) = -1) : f_Ge_countUnknown_L4 (N + 1) (jN l) c (jN i) I L = f_Ge_countUnknown_L4 N (jN l) c (jN (i + 1)) I L := by
  have c1 : ¬ (3 : Int32) ≤ jN i := fun q => by have := (jN_le (a := 3) (by decide) (by omega)).mp q; omega
  have c2 : 0 ≤ jN (l * 3 + i) ∧ jN (l * 3 + i) < 120 := jN_in (n := 120) (by omega) (by decide)
  rw [f_Ge_countUnknown_L4, if_neg c1, j3, if_pos c2, jN_tc (by omega), hx]
  simp only [bnd]
  rw [if_pos has_m, jN_1]
theorem cu_end {N : Nat} {c : Int32} : f_Ge_countUnknown_L4 (N + 1) (jN l) c (jN 3) I L = some c := by
  rw [f_Ge_countUnknown_L4, if_pos (show (3 : Int32) ≤ jN 3 by decide)]
theorem tb_skip {N i a : Nat} (h0 : I 2 0 = jN A0) (hA : A0 ≤ 24) (ha : a < A0) (hl : l < 40) (hi : i < 3) (hx : I 6 (l * 3 + i) = jN a) (hz : ¬ L 4 a = 0) : f_Ge_tellBy_L2 (N + 1) (jN l) (jN i) I L = f_Ge_tellBy_L2 N (jN l) (jN (i + 1)) I L := by
  have c1 : ¬ (3 : Int32) ≤ jN i := fun q => by have := (jN_le (a := 3) (by decide) (by omega)).mp q; omega
  have c2 : 0 ≤ jN (l * 3 + i) ∧ jN (l * 3 + i) < 120 := jN_in (n := 120) (by omega) (by decide)
  have c4 : 0 ≤ jN a ∧ jN a < 24 := jN_in (n := 24) (by omega) (by decide)
  have c5 : ¬ f_Ge_hasArbor (jN a) I L = 0 := by rw [has_1 h0 hA ha]; decide
  rw [f_Ge_tellBy_L2, if_neg c1, j3, if_pos c2, jN_tc (by omega), hx]
  simp only [bnd]
  rw [if_neg c5, if_pos c4, jN_tc (by omega), if_neg hz, jN_1]
theorem tb_hit {N i a : Nat} {x y : Int64} {L1 : Nat → Nat → Int64} (h0 : I 2 0 = jN A0) (hA : A0 ≤ 24) (ha : a < A0) (hl : l < 40) (hi : i < 3) (hx : I 6 (l * 3 + i) = jN a) (hz : L 4 a = 0) (hs : f_Ge_solve (jN l) (jN i) I L = some (I, L1)) (e1 : L1 2 10 = x) (e2 : L1 2 11 = y) (hy : 0 < y.toInt) : f_Ge_tellBy_L2 (N + 1) (jN l) (jN i) I L = if (10000000 : Int64) < Jabs x then some (0, I, L1) else if y ≤ 10000000 then some (1, I, uL (uL L1 3 a x) 4 a y) else some (0, I, L1) := by
  have c1 : ¬ (3 : Int32) ≤ jN i := fun q => by have := (jN_le (a := 3) (by decide) (by omega)).mp q; omega
  have c2 : 0 ≤ jN (l * 3 + i) ∧ jN (l * 3 + i) < 120 := jN_in (n := 120) (by omega) (by decide)
  have c4 : 0 ≤ jN a ∧ jN a < 24 := jN_in (n := 24) (by omega) (by decide)
  have c5 : ¬ f_Ge_hasArbor (jN a) I L = 0 := by rw [has_1 h0 hA ha]; decide
  have c6 : ¬ y ≤ 0 := fun q => by have := lg_le.mp q; rw [lg_0] at this; omega
  rw [f_Ge_tellBy_L2, if_neg c1, j3, if_pos c2, jN_tc (by omega), hx]
  simp only [bnd]
  rw [if_neg c5, if_pos c4, jN_tc (by omega), if_pos hz, hs, Option.bind_some]
  simp only [e1, e2]
  rw [if_pos c4, if_pos c4, if_neg c6]
theorem ao_0 (hl : l < 40) : f_Md_arborOf (jN l) (jN 0) J K = some (J 36 l) := by
  have c1 : 0 ≤ jN l ∧ jN l < 40 := jN_in (n := 40) (by omega) (by decide)
  rw [f_Md_arborOf, if_pos (show jN 0 = 0 from rfl), if_pos c1, jN_tc (by omega)]
theorem ao_1 (hl : l < 40) : f_Md_arborOf (jN l) (jN 1) J K = some (J 37 l) := by
  have c1 : 0 ≤ jN l ∧ jN l < 40 := jN_in (n := 40) (by omega) (by decide)
  rw [f_Md_arborOf, if_neg (show ¬ jN 1 = 0 by decide), if_pos (show jN 1 = 1 from rfl), if_pos c1, jN_tc (by omega)]
theorem ao_2 (hl : l < 40) : f_Md_arborOf (jN l) (jN 2) J K = some (J 38 l) := by
  have c1 : 0 ≤ jN l ∧ jN l < 40 := jN_in (n := 40) (by omega) (by decide)
  rw [f_Md_arborOf, if_neg (show ¬ jN 2 = 0 by decide), if_neg (show ¬ jN 2 = 1 by decide), if_pos c1, jN_tc (by omega)]
section RF
variable {k51 : Int32 → (Nat → Nat → Int32) → (Nat → Nat → Int64) → Option ((Nat → Nat → Int32) × (Nat → Nat → Int64))} {k59 : Int32 → Int32 → (Nat → Nat → Int32) → (Nat → Nat → Int64) → Option ((Nat → Nat → Int32) × (Nat → Nat → Int64))}
theorem rf_step {N i many a : Nat} {t c w : Int32} (hm : many ≤ 3) (hi : i < many) (ha : a < 24) (ho : f_Md_arborOf (jN l) (jN i) J K = some (jN a)) : f_Md_speeds_L92 k51 k59 (N + 1) t (jN l) (jN many) c w (jN i) J K = if J 57 a = 0 then f_Md_speeds_L92 k51 k59 N t (jN l) (jN many) (c + 1) (jN i) (jN (i + 1)) J K else f_Md_speeds_L92 k51 k59 N t (jN l) (jN many) c w (jN (i + 1)) J K := by
  have c1 : ¬ jN many ≤ jN i := fun q => by have := (jN_le (by omega) (by omega)).mp q; omega
  have c4 : 0 ≤ jN a ∧ jN a < 24 := jN_in (n := 24) (by omega) (by decide)
  rw [f_Md_speeds_L92, if_neg c1, ho, Option.bind_some, if_pos c4, jN_tc (by omega), jN_1]
theorem rf_end0 {N many : Nat} {t c w : Int32} (hc : ¬ c = 1) : f_Md_speeds_L92 k51 k59 (N + 1) t (jN l) (jN many) c w (jN many) J K = k59 t (jN (l + 1)) J K := by
  rw [f_Md_speeds_L92, if_pos (Int32.le_refl _), if_neg hc, jN_1]
theorem rf_end1 {N many p a : Nat} {t : Int32} {x y : Int64} {K1 : Nat → Nat → Int64} (ha : a < 24) (ht : f_Md_tells (jN l) (jN p) J K = some (J, K1)) (e1 : K1 34 51 = x) (e2 : K1 34 52 = y) (ho : f_Md_arborOf (jN l) (jN p) J K1 = some (jN a)) : f_Md_speeds_L92 k51 k59 (N + 1) t (jN l) (jN many) 1 (jN p) (jN many) J K = if (10000000 : Int64) < Jabs x then k59 t (jN (l + 1)) J K1 else if (10000000 : Int64) < y then k59 t (jN (l + 1)) J K1 else k59 1 (jN (l + 1)) (uI J 57 a 1) (uL (uL K1 58 a x) 59 a y) := by
  have c4 : 0 ≤ jN a ∧ jN a < 24 := jN_in (n := 24) (by omega) (by decide)
  rw [f_Md_speeds_L92, if_pos (Int32.le_refl _), if_pos rfl, ht, Option.bind_some, jN_1]
  simp only [e1, e2]
  rw [ho, Option.bind_some, if_pos c4]
  simp only [bnd]
  rw [if_pos c4, if_pos c4, jN_tc (by omega)]
end RF
end GED

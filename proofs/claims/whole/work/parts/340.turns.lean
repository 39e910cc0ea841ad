/-! the movement: turns -/
section TUR
variable {I J : Nat → Nat → Int32} {L K : Nat → Nat → Int64} {A T : Nat}
/-- speeds as both have them: known to both or to none; the periods; T the teeth -/
def SPR (I J : Nat → Nat → Int32) (L K : Nat → Nat → Int64) (A T : Nat) : Prop := (A ≤ 24 ∧ (1 ≤ T ∨ ∀ a, a < A → L 4 a = 0) ∧ T ≤ 60 ∧ I 2 3 = jN T ∧ J 34 9 = jN T) ∧ (∀ a, a < A → sk L J K a) ∧ ∀ a, a < A → L 5 a = (L 4 a * 2) * (jN T).toInt64
theorem pd_pos {a : Nat} (h : SPR I J L K A T) (ha : a < A) (hk : ¬ L 4 a = 0) : (L 5 a).toInt = (L 4 a).toInt * 2 * T ∧ 0 < (L 5 a).toInt ∧ (L 5 a).toInt ≤ 1200000000 ∧ L 5 a = (K 59 a * 2) * (jN T).toInt64 := by
  obtain ⟨⟨h1, h2, h3, h4, h5⟩, h6, h7⟩ := h
  replace h2 : 1 ≤ T := h2.resolve_right (fun q => hk (q a ha))
  obtain ⟨s1, s2, s3, s4, s5⟩ := sk_get (h6 a ha) hk
  have t2 : (2 : Int64).toInt = 2 := by decide
  have b2 : bd (2 : Int64) 2 := by unfold bd; rw [t2]; decide
  have bT := bd_jN (x := T) (by omega)
  have tT := jI (x := T) (by omega)
  obtain ⟨e1, b1⟩ := bd_mul s4 b2 (by omega)
  obtain ⟨e3, b3⟩ := bd_mul b1 (bd_w bT h3) (by omega)
  have e : (L 5 a).toInt = (L 4 a).toInt * 2 * T := by rw [h7 a ha, e3, e1, t2, tT]
  have p : 0 < (L 4 a).toInt * 2 * T := Int.mul_pos (Int.mul_pos (by omega) (by omega)) (by omega)
  refine ⟨e, by rw [e]; exact p, ?_, by rw [← s2]; exact h7 a ha⟩
  rw [h7 a ha]
  unfold bd at b3
  omega
theorem pd_0 {a : Nat} (h : SPR I J L K A T) (ha : a < A) (hk : L 4 a = 0) : L 5 a = 0 := by
  rw [h.2.2 a ha, hk, Int64.zero_mul, Int64.zero_mul]
/-- whole turns, or parts of them -/
def tv (L : Nat → Nat → Int64) (a : Nat) (n : Int32) (p : Int64) : Int64 := (p * Jabs (L 3 a) * n.toInt64) / L 5 a
theorem tv_int {a n : Nat} {p : Int64} {P : Nat} (h : SPR I J L K A T) (ha : a < A) (hk : ¬ L 4 a = 0) (hn : n ≤ 200000) (hp : p.toInt = P) (hP : P ≤ 256) : (tv L a (jN n) p).toInt = ((P * (L 3 a).toInt.natAbs * n / (L 5 a).toInt.toNat : Nat) : Int) ∧ (tv L a (jN n) p).toInt ≤ 512000000000000 := by
  obtain ⟨e1, e2, e3, _⟩ := pd_pos h ha hk
  obtain ⟨s1, s2, s3, s4, s5⟩ := sk_get (h.2.1 a ha) hk
  have ab : (Jabs (L 3 a)).toInt = ((L 3 a).toInt.natAbs : Int) := lg_abs (by unfold bd at s3; omega)
  have bab : bd (Jabs (L 3 a)) 10000000 := by unfold bd at *; rw [ab]; omega
  have bp : bd p 256 := by unfold bd; rw [hp]; omega
  have tn : (jN n).toInt64.toInt = n := by rw [Int32.toInt_toInt64, jN_toInt (by omega)]
  have bn : bd (jN n).toInt64 200000 := by unfold bd; rw [tn]; omega
  obtain ⟨m1, m2⟩ := bd_mul bp bab (by omega)
  obtain ⟨m3, m4⟩ := bd_mul m2 bn (by omega)
  have eN : (p * Jabs (L 3 a) * (jN n).toInt64).toInt = ((P * (L 3 a).toInt.natAbs * n : Nat) : Int) := by
    rw [m3, m1, hp, ab, tn]; push_cast; rfl
  have hd : (tv L a (jN n) p).toInt = ((P * (L 3 a).toInt.natAbs * n / (L 5 a).toInt.toNat : Nat) : Int) := by
    unfold tv
    rw [lg_div0 (by rw [eN]; omega) e2, eN]
    have : (L 5 a).toInt = ((L 5 a).toInt.toNat : Int) := by omega
    rw [this]
    push_cast
    rfl
  refine ⟨hd, ?_⟩
  rw [hd]
  have : P * (L 3 a).toInt.natAbs * n / (L 5 a).toInt.toNat ≤ P * (L 3 a).toInt.natAbs * n := Nat.div_le_self _ _
  unfold bd at m4
  rw [eN] at m4
  omega
theorem tu_yes {a : Nat} {n p : Int32} (h : SPR I J L K A T) (ha : a < A) (hk : ¬ L 4 a = 0) : f_Ge_turned (jN a) n p I L = some (tv L a n p.toInt64) := by
  obtain ⟨e1, e2, e3, _⟩ := pd_pos h ha hk
  have hA := h.1.1
  have c1 : ¬ jN a < 0 := fun q => by have := (jN_lt (b := 0) (by omega) (by decide)).mp q; omega
  have c2 : ¬ (24 : Int32) ≤ jN a := fun q => by have := (jN_le (a := 24) (by decide) (by omega)).mp q; omega
  have c3 : 0 ≤ jN a ∧ jN a < 24 := jN_in (n := 24) (by omega) (by decide)
  have c4 : (0 : Int64) < L 5 a := lg_lt.mpr (by rw [lg_0]; exact e2)
  have c5 : ¬ L 5 a = 0 := fun q => by rw [q, lg_0] at e2; omega
  rw [f_Ge_turned, if_neg c1, if_neg c2, if_pos c3, jN_tc (by omega), if_pos c4, if_pos c3, if_pos c3, if_pos c5]
  rfl
theorem tu_no {a : Nat} {n p : Int32} (h : SPR I J L K A T) (ha : a < A) (hk : L 4 a = 0) : f_Ge_turned (jN a) n p I L = some 0 := by
  have hA := h.1.1
  have c1 : ¬ jN a < 0 := fun q => by have := (jN_lt (b := 0) (by omega) (by decide)).mp q; omega
  have c2 : ¬ (24 : Int32) ≤ jN a := fun q => by have := (jN_le (a := 24) (by decide) (by omega)).mp q; omega
  have c3 : 0 ≤ jN a ∧ jN a < 24 := jN_in (n := 24) (by omega) (by decide)
  rw [f_Ge_turned, if_neg c1, if_neg c2, if_pos c3, jN_tc (by omega), pd_0 h ha hk, if_neg (by decide)]
theorem tu_m {n p : Int32} : f_Ge_turned (-1) n p I L = some 0 := by
  rw [f_Ge_turned, if_pos (by decide)]
theorem one64 : (1 : Int32).toInt64 = 1 := by decide
theorem ta_yes {a : Nat} {n : Int32} (h : SPR I J L K A T) (ha : a < A) (hk : ¬ L 4 a = 0) : f_Md_turnsAt (jN a) n.toInt64 J K = some (tv L a n 1) := by
  obtain ⟨e1, e2, e3, e4⟩ := pd_pos h ha hk
  obtain ⟨s1, s2, s3, s4, s5⟩ := sk_get (h.2.1 a ha) hk
  have hA := h.1.1
  have c3 : 0 ≤ jN a ∧ jN a < 24 := jN_in (n := 24) (by omega) (by decide)
  have c5 : ¬ L 5 a = 0 := fun q => by rw [q, lg_0] at e2; omega
  rw [f_Md_turnsAt, if_pos c3, if_pos c3, jN_tc (by omega), h.1.2.2.2.2, ← e4, if_pos c5, ← s1]
  unfold tv
  rw [Int64.one_mul]
theorem kn_yes {a : Nat} (h : SPR I J L K A T) (ha : a < A) (hk : ¬ L 4 a = 0) : f_Md_isKnown (jN a) J K = some 1 := by
  have hA := h.1.1
  have c1 : ¬ jN a < 0 := fun q => by have := (jN_lt (b := 0) (by omega) (by decide)).mp q; omega
  have c3 : 0 ≤ jN a ∧ jN a < 24 := jN_in (n := 24) (by omega) (by decide)
  have c4 : ¬ J 57 a = 0 := fun q => hk ((sk_57 (h.2.1 a ha)).mp q)
  rw [f_Md_isKnown, if_neg c1, if_pos c3, jN_tc (by omega), if_neg c4]
theorem kn_no {a : Nat} (h : SPR I J L K A T) (ha : a < A) (hk : L 4 a = 0) : f_Md_isKnown (jN a) J K = some 0 := by
  have hA := h.1.1
  have c1 : ¬ jN a < 0 := fun q => by have := (jN_lt (b := 0) (by omega) (by decide)).mp q; omega
  have c3 : 0 ≤ jN a ∧ jN a < 24 := jN_in (n := 24) (by omega) (by decide)
  rw [f_Md_isKnown, if_neg c1, if_pos c3, jN_tc (by omega), if_pos ((sk_57 (h.2.1 a ha)).mpr hk)]
theorem kn_m : f_Md_isKnown (-1) J K = some 0 := by rw [f_Md_isKnown, if_pos (by decide)]
/-- the barrel, wound and let down: n the ticks -/
def WND (I J : Nat → Nat → Int32) (L K : Nat → Nat → Int64) (A n : Nat) : Prop := (n ≤ 200000 ∧ I 1 12 = jN n ∧ J 34 25 = jN n ∧ I 1 5 = J 34 14 ∧ L 1 7 = K 34 32) ∧ ((I 1 5 = -1 ∧ L 1 7 = 0) ∨ ∃ k, k < A ∧ I 1 5 = jN k ∧ (L 4 k = 0 → L 1 7 = 0) ∧ (¬ L 4 k = 0 → 0 ≤ (L 1 7).toInt ∧ (L 1 7).toInt ≤ (tv L k (jN n) 256).toInt))
theorem ld_ok {n : Nat} (h : SPR I J L K A T) (hw : WND I J L K A n) : ∃ d : Int64, f_Es_letDown I L = some d ∧ f_Md_letDown J K = some d ∧ 0 ≤ d.toInt ∧ d.toInt ≤ 512000000000000 ∧ ((f_Md_hasBarrel J K = some 0 ∧ d = 0) ∨ f_Md_hasBarrel J K = some 1) := by
  obtain ⟨⟨w1, w2, w3, w4, w5⟩, w6⟩ := hw
  have hA := h.1.1
  rcases w6 with ⟨q1, q2⟩ | ⟨k, hk, q1, q2, q3⟩
  · have hb : f_Md_hasBarrel J K = some 0 := by
      rw [f_Md_hasBarrel, ← w4, q1, kn_m, Option.bind_some, if_pos (Or.inl rfl)]
    refine ⟨0, ?_, ?_, by decide, by decide, Or.inl ⟨hb, rfl⟩⟩
    · rw [f_Es_letDown, q1, tu_m, Option.bind_some, q2]; rfl
    · rw [f_Md_letDown, hb, Option.bind_some, if_pos rfl]
  · by_cases z : L 4 k = 0
    · have hb : f_Md_hasBarrel J K = some 0 := by
        rw [f_Md_hasBarrel, ← w4, q1, kn_no h hk z, Option.bind_some, if_pos (Or.inl rfl)]
      refine ⟨0, ?_, ?_, by decide, by decide, Or.inl ⟨hb, rfl⟩⟩
      · rw [f_Es_letDown, q1, tu_no h hk z, Option.bind_some, q2 z]; rfl
      · rw [f_Md_letDown, hb, Option.bind_some, if_pos rfl]
    · have hb : f_Md_hasBarrel J K = some 1 := by
        rw [f_Md_hasBarrel, ← w4, q1, kn_yes h hk z, Option.bind_some, if_pos (Or.inr rfl)]
      obtain ⟨e1, e2, e3, e4⟩ := pd_pos h hk z
      obtain ⟨s1, s2, s3, s4, s5⟩ := sk_get (h.2.1 k hk) z
      obtain ⟨t1, t2⟩ := tv_int (p := 256) (P := 256) h hk z w1 (by decide) (by omega)
      obtain ⟨q4, q5⟩ := q3 z
      have c3 : 0 ≤ jN k ∧ jN k < 24 := jN_in (n := 24) (by omega) (by decide)
      have c5 : ¬ L 5 k = 0 := fun q => by rw [q, lg_0] at e2; omega
      have sub : (tv L k (jN n) 256 - L 1 7).toInt = (tv L k (jN n) 256).toInt - (L 1 7).toInt := lg_sub (by omega) (by omega)
      refine ⟨tv L k (jN n) 256 - L 1 7, ?_, ?_, by rw [sub]; omega, by rw [sub]; omega, Or.inr hb⟩
      · rw [f_Es_letDown, q1, w2, tu_yes h hk z, Option.bind_some]
        rfl
      · rw [f_Md_letDown, hb, Option.bind_some, if_neg (by decide), ← w4, q1, if_pos c3, jN_tc (by omega), w3, h.1.2.2.2.2]
        simp only [bnd]
        rw [if_pos c3, ← e4, if_pos c5, ← s1, ← w5]
        rfl
end TUR

/-! the movement: a step of the balance, both: from its beginning -/
theorem it_add {a b : Int32} (h1 : -2147483648 ≤ a.toInt + b.toInt) (h2 : a.toInt + b.toInt < 2147483648) : (a + b).toInt = a.toInt + b.toInt := by
  rw [Int32.toInt_add]; exact Int.bmod_eq_of_le (by omega) (by omega)
theorem it_sub {a b : Int32} (h1 : -2147483648 ≤ a.toInt - b.toInt) (h2 : a.toInt - b.toInt < 2147483648) : (a - b).toInt = a.toInt - b.toInt := by
  rw [Int32.toInt_sub]; exact Int.bmod_eq_of_le (by omega) (by omega)
theorem it_neg {a : Int32} (h : -2147483648 < a.toInt) : (-a).toInt = -a.toInt := by
  have := Int32.toInt_lt a
  rw [Int32.toInt_neg]; exact Int.bmod_eq_of_le (by omega) (by omega)
theorem it_le {a b : Int32} : a ≤ b ↔ a.toInt ≤ b.toInt := Int32.le_iff_toInt_le
theorem it_lt {a b : Int32} : a < b ↔ a.toInt < b.toInt := Int32.lt_iff_toInt_lt
theorem n_1 : (1 : Int32).toInt = 1 := by decide
theorem n_0 : (0 : Int32).toInt = 0 := by decide
theorem n_m6 : (-1000000 : Int32).toInt = -1000000 := by decide
theorem n_6 : (1000000 : Int32).toInt = 1000000 := by decide
theorem n_m7 : (-10000000 : Int32).toInt = -10000000 := by decide
theorem n_7 : (10000000 : Int32).toInt = 10000000 := by decide
theorem n_3 : (1000 : Int32).toInt = 1000 := by decide
theorem ja {x : Int32} (h : -2147483648 < x.toInt) : (jabs x).toInt = (x.toInt.natAbs : Int) := by
  unfold jabs
  by_cases c : 0 ≤ x
  · rw [if_pos c]
    rw [it_le, n_0] at c
    omega
  · rw [if_neg c]
    rw [it_le, n_0] at c
    rw [it_sub (by rw [n_0]; omega) (by rw [n_0]; omega), n_0]
    omega
theorem ar1 {x v b : Int32} (hx : -10000000 ≤ x ∧ x ≤ 10000000) (hv : -1000000 ≤ v ∧ v ≤ 1000000) (hb : 1 ≤ b ∧ b ≤ 10000000) : (jabs (x + v) ≤ b ↔ (¬ b < x + v ∧ -b ≤ x + v)) := by
  simp only [it_le, n_m7, n_7, n_m6, n_6, n_1] at hx hv hb
  have e := it_add (a := x) (b := v) (by omega) (by omega)
  have f := it_neg (a := b) (by omega)
  rw [it_le, it_lt, it_le, ja (by omega), e, f]
  omega
theorem ar2 {x v b : Int32} (hx : -10000000 ≤ x ∧ x ≤ 10000000) (hv : -1000000 ≤ v ∧ v ≤ 1000000) (hb : 1 ≤ b ∧ b ≤ 10000000) (h : ¬ jabs (x + v) ≤ b) : (x + v ≤ 0 ↔ x + v ≤ b) := by
  simp only [it_le, n_m7, n_7, n_m6, n_6, n_1] at hx hv hb
  have e := it_add (a := x) (b := v) (by omega) (by omega)
  rw [it_le, ja (by omega), e] at h
  rw [it_le, it_le, e, n_0]
  omega
theorem ar3 {x v b : Int32} (hx : -10000000 ≤ x ∧ x ≤ 10000000) (hv : -1000000 ≤ v ∧ v ≤ 1000000) (hb : 1 ≤ b ∧ b ≤ 10000000) (h : jabs (x + v) ≤ b) : -10000000 ≤ x + v ∧ x + v ≤ 10000000 := by
  simp only [it_le, n_m7, n_7, n_m6, n_6, n_1] at hx hv hb ⊢
  have e := it_add (a := x) (b := v) (by omega) (by omega)
  rw [it_le, ja (by omega), e] at h
  rw [e]
  omega
theorem ar4 {v d : Int32} (hv : -1000000 ≤ v ∧ v ≤ 1000000) (hd : 0 ≤ d ∧ d ≤ 1000) : (-1000000 ≤ jmin 0 (v + d) ∨ 0 < v) ∧ jmin 0 (v + d) ≤ 1000000 ∧ (jmax 0 (v - d) ≤ 1000000 ∨ v ≤ 0) ∧ -1000000 ≤ jmax 0 (v - d) := by
  simp only [it_le, n_m6, n_6, n_0, n_3] at hv hd
  have e := it_add (a := v) (b := d) (by omega) (by omega)
  have f := it_sub (a := v) (b := d) (by omega) (by omega)
  unfold jmin jmax
  refine ⟨?_, ?_, ?_, ?_⟩
  · by_cases c : v + d < 0
    · rw [if_pos c, it_le, e, n_m6]; left; omega
    · rw [if_neg c]; left; decide
  · by_cases c : v + d < 0
    · rw [if_pos c, it_le, e, n_6]
      rw [it_lt, e, n_0] at c
      omega
    · rw [if_neg c]; decide
  · by_cases c : 0 < v - d
    · rw [if_pos c, it_le, f, n_6]; left; omega
    · rw [if_neg c]; left; decide
  · by_cases c : 0 < v - d
    · rw [if_pos c, it_le, f, n_m6]
      rw [it_lt, f, n_0] at c
      omega
    · rw [if_neg c]; decide
theorem ar5 {v : Int32} (hv : -1000000 ≤ v ∧ v ≤ 1000000) : -1000000 ≤ -v ∧ -v ≤ 1000000 := by
  simp only [it_le, n_m6, n_6] at hv ⊢
  rw [it_neg (by omega)]
  omega
theorem ar6 {b : Int32} (hb : 1 ≤ b ∧ b ≤ 10000000) : (-10000000 ≤ b ∧ b ≤ 10000000) ∧ -10000000 ≤ -b ∧ -b ≤ 10000000 := by
  simp only [it_le, n_m7, n_7, n_1] at hb ⊢
  rw [it_neg (by omega)]
  omega
section STR
variable {I J : Nat → Nat → Int32} {L K : Nat → Nat → Int64} {n s : Nat}
theorem tqi_ext {t : Int32} {I' J' : Nat → Nat → Int32} (h : TQI t I J L K) (e1 : I' 1 5 = I 1 5) (e2 : I' 1 12 = I 1 12) (e3 : ∀ j, I' 8 j = I 8 j) (e4 : J' 34 14 = J 34 14) (e5 : J' 34 25 = J 34 25) (e6 : J' 34 9 = J 34 9) (e7 : ∀ j, J' 57 j = J 57 j) (e8 : ∀ j, J' 41 j = J 41 j) : TQI t I' J' L K := by
  intro I'' J'' g1 g2 g3 g4 g5 g6 g7 g8
  exact h I'' J'' (g1.trans e1) (g2.trans e2) (fun j => (g3 j).trans (e3 j)) (g4.trans e4) (g5.trans e5) (g6.trans e6) (fun j => (g7 j).trans (e7 j)) (fun j => (g8 j).trans (e8 j))
theorem st74 {t v : Int32} (h : DY n s I J) (hn : n < s) (hc : CB I J) (ht : TQI t I J L K) (hv : -1000000 ≤ v ∧ v ≤ 1000000) : S3 n s (f_Es_step_L74 v I L) (f_Md_step_L73 v.toInt64 J K) L K J := by
  obtain ⟨⟨a1, a2⟩, ⟨b1, b2, b3⟩, ⟨c1, c2⟩, ⟨d1, d2, d3⟩, ⟨e1, e2, e3⟩, ⟨f1, f2⟩, g1, g2, ⟨k1, k2⟩, k3⟩ := id h
  obtain ⟨⟨m1, m2, m3, m4⟩, m5, m6⟩ := hc
  have hx : -10000000 ≤ I 1 8 ∧ I 1 8 ≤ 10000000 := ⟨d2, d3⟩
  have r1 := ar1 (v := v) hx hv m6
  have hM : f_Md_step_L73 v.toInt64 J K = if I 1 4 < I 1 8 + v then f_Md_step_L112 (uI (uI J 34 28 v) 34 27 (I 1 8 + v)) K else if -(I 1 4) ≤ I 1 8 + v then f_Md_step_L159 (uI (uI J 34 28 v) 34 27 (I 1 8 + v)) K else f_Md_step_L112 (uI (uI J 34 28 v) 34 27 (I 1 8 + v)) K := by
    rw [f_Md_step_L73, sV, Option.bind_some, hv_id hv]
    simp only [bnd]
    have u1 : (uI J 34 28 v) 34 27 = I 1 8 := by simp [uI, d1]
    have u2 : (uI J 34 28 v) 34 28 = v := by simp [uI]
    have u3 : (uI J 34 28 v) 34 13 = I 1 4 := by simp [uI, m4]
    rw [u1, u2, u3]
  have bank : ∀ w : Int32, (-10000000 ≤ w ∧ w ≤ 10000000) → S3 n s (f_Es_step_L124 w (uI (uI I 1 9 v) 1 8 (I 1 8 + v)) L) (f_Md_step_L136 w (uI (uI J 34 28 v) 34 27 (I 1 8 + v)) K) L K J := by
    intro w hw
    have v5 := ar5 hv
    have hE : f_Es_step_L124 w (uI (uI I 1 9 v) 1 8 (I 1 8 + v)) L = f_Es_step_L146 (uI (uI (uI (uI (uI I 1 9 v) 1 8 (I 1 8 + v)) 1 8 w) 1 9 (-v)) 1 13 (I 1 13 + 1)) L := by
      rw [f_Es_step_L124]
      simp only [bnd]
      have u1 : (uI (uI I 1 9 v) 1 8 (I 1 8 + v)) 1 9 = v := by simp [uI]
      have u2 : (uI (uI I 1 9 v) 1 8 (I 1 8 + v)) 1 13 = I 1 13 := by simp [uI]
      rw [u1, u2]
    have hR : f_Md_step_L136 w (uI (uI J 34 28 v) 34 27 (I 1 8 + v)) K = f_Md_step_L159 (uI (uI (uI (uI (uI J 34 28 v) 34 27 (I 1 8 + v)) 34 27 w) 34 28 (-v)) 34 30 (I 1 13 + 1)) K := by
      have u1 : (uI (uI J 34 28 v) 34 27 (I 1 8 + v)) 34 28 = v := by simp [uI]
      rw [f_Md_step_L136, u1, sV, Option.bind_some, hv_id v5]
      simp only [bnd]
      have u2 : (uI (uI (uI (uI J 34 28 v) 34 27 (I 1 8 + v)) 34 27 w) 34 28 (-v)) 34 30 = I 1 13 := by simp [uI, g1]
      rw [u2]
    rw [hE, hR]
    refine S3_base (st3 (t := t) ?_ hn (by simp [uI, m3]) (tqi_ext ht (by simp [uI]) (by simp [uI]) (fun j => by simp [uI]) (by simp [uI]) (by simp [uI]) (by simp [uI]) (fun j => by simp [uI]) (fun j => by simp [uI]))) (fun a j z1 z2 => by simp only [uI]; (repeat rw [if_neg (fun q => z1 ⟨q.1, by omega⟩)]))
    exact ⟨⟨a1, a2⟩, ⟨by simp [uI, b1], by simp [uI, b2], by simp [uI, b3]⟩, ⟨by simp [uI, c1], by simp [uI, c2]⟩, ⟨by simp [uI], by simp [uI, hw.1], by simp [uI, hw.2]⟩, ⟨by simp [uI], by simp [uI, v5.1], by simp [uI, v5.2]⟩, ⟨by simp [uI, f1], by rcases f2 with f | f <;> simp [uI, f]⟩, by simp [uI], by simp [uI, g2], ⟨by simp [uI, k1], by simp [uI, k2]⟩, fun j hj hj2 => by simp [uI]; exact k3 j hj hj2⟩
  have h112 : f_Md_step_L112 (uI (uI J 34 28 v) 34 27 (I 1 8 + v)) K = if I 1 8 + v ≤ I 1 4 then f_Md_step_L136 (-(I 1 4)) (uI (uI J 34 28 v) 34 27 (I 1 8 + v)) K else f_Md_step_L136 (I 1 4) (uI (uI J 34 28 v) 34 27 (I 1 8 + v)) K := by
    have u1 : (uI (uI J 34 28 v) 34 27 (I 1 8 + v)) 34 27 = I 1 8 + v := by simp [uI]
    have u2 : (uI (uI J 34 28 v) 34 27 (I 1 8 + v)) 34 13 = I 1 4 := by simp [uI, m4]
    rw [f_Md_step_L112, u1, u2]
  have b6 := ar6 m6
  rw [f_Es_step_L74, hM]
  simp only [bnd]
  by_cases c : jabs (I 1 8 + v) ≤ I 1 4
  · obtain ⟨q1, q2⟩ := r1.mp c
    have x5 := ar3 hx hv m6 c
    rw [if_pos c, if_neg q1, if_pos q2]
    refine S3_base (st3 (t := t) ?_ hn (by simp [uI, m3]) (tqi_ext ht (by simp [uI]) (by simp [uI]) (fun j => by simp [uI]) (by simp [uI]) (by simp [uI]) (by simp [uI]) (fun j => by simp [uI]) (fun j => by simp [uI]))) (fun a j z1 z2 => by simp only [uI]; (repeat rw [if_neg (fun q => z1 ⟨q.1, by omega⟩)]))
    exact ⟨⟨a1, a2⟩, ⟨by simp [uI, b1], by simp [uI, b2], by simp [uI, b3]⟩, ⟨by simp [uI, c1], by simp [uI, c2]⟩, ⟨by simp [uI], by simp [uI, x5.1], by simp [uI, x5.2]⟩, ⟨by simp [uI], by simp [uI, hv.1], by simp [uI, hv.2]⟩, ⟨by simp [uI, f1], by rcases f2 with f | f <;> simp [uI, f]⟩, by simp [uI, g1], by simp [uI, g2], ⟨by simp [uI, k1], by simp [uI, k2]⟩, fun j hj hj2 => by simp [uI]; exact k3 j hj hj2⟩
  · have r2 := ar2 hx hv m6 c
    have both : (if I 1 4 < I 1 8 + v then f_Md_step_L112 (uI (uI J 34 28 v) 34 27 (I 1 8 + v)) K else if -(I 1 4) ≤ I 1 8 + v then f_Md_step_L159 (uI (uI J 34 28 v) 34 27 (I 1 8 + v)) K else f_Md_step_L112 (uI (uI J 34 28 v) 34 27 (I 1 8 + v)) K) = f_Md_step_L112 (uI (uI J 34 28 v) 34 27 (I 1 8 + v)) K := by
      by_cases q1 : I 1 4 < I 1 8 + v
      · rw [if_pos q1]
      · rw [if_neg q1, if_neg (fun q2 => c (r1.mpr ⟨q1, q2⟩))]
    rw [if_neg c, both, h112]
    by_cases q : I 1 8 + v ≤ 0
    · rw [if_pos q, if_pos (r2.mp q)]
      exact bank _ b6.2
    · rw [if_neg q, if_neg (fun w => q (r2.mpr w))]
      exact bank _ b6.1
theorem stp_ok {t : Int32} (h : DY n s I J) (hs : s < 200000) (hc : CB I J) (ht : TQI t I J L K) : S3 n (s + 1) (f_Es_step I L) (f_Md_step J K) L K J := by
  obtain ⟨⟨a1, a2⟩, ⟨b1, b2, b3⟩, ⟨c1, c2⟩, ⟨d1, d2, d3⟩, ⟨e1, e2, e3⟩, ⟨f1, f2⟩, g1, g2, ⟨k1, k2⟩, k3⟩ := id h
  obtain ⟨⟨m1, m2, m3, m4⟩, m5, m6⟩ := id hc
  have hw := hv_bd ((I 1 9).toInt64 - (((I 1 8).toInt64 * (I 1 1).toInt64) >>> ((16 : Int32).toInt64 &&& 63)))
  rw [f_Md_step, f_Es_step, ← e1, ← d1, ← m1, c2, c1, jN_1]
  simp only [bnd, sV, Option.bind_some]
  generalize f_Es_held ((I 1 9).toInt64 - (((I 1 8).toInt64 * (I 1 1).toInt64) >>> ((16 : Int32).toInt64 &&& 63))) = V at *
  have u1 : (uI (uI J 34 26 (jN (s + 1))) 34 28 V) 34 28 = V := by simp [uI]
  have u2 : (uI (uI J 34 26 (jN (s + 1))) 34 28 V) 34 11 = I 1 2 := by simp [uI, m2]
  rw [u1, u2]
  have a4 := ar4 hw m5
  have go : ∀ w, (-1000000 ≤ w ∧ w ≤ 1000000) → S3 n (s + 1) (f_Es_step_L74 w (uI (uI I 1 11 (jN (s + 1))) 1 9 V) L) (f_Md_step_L73 w.toInt64 (uI (uI J 34 26 (jN (s + 1))) 34 28 V) K) L K J := by
    intro w hw'
    refine S3_base (st74 (t := t) ?_ (by omega) ?_ (tqi_ext ht (by simp [uI]) (by simp [uI]) (fun j => by simp [uI]) (by simp [uI]) (by simp [uI]) (by simp [uI]) (fun j => by simp [uI]) (fun j => by simp [uI])) hw') (fun a j z1 z2 => by simp only [uI]; (repeat rw [if_neg (fun q => z1 ⟨q.1, by omega⟩)]))
    · exact ⟨⟨by omega, by omega⟩, ⟨by simp [uI, b1], by simp [uI, b2], by simp [uI, b3]⟩, ⟨by simp [uI], by simp [uI]⟩, ⟨by simp [uI, d1], by simp [uI, d2], by simp [uI, d3]⟩, ⟨by simp [uI], by simp [uI, hw.1], by simp [uI, hw.2]⟩, ⟨by simp [uI, f1], by rcases f2 with f | f <;> simp [uI, f]⟩, by simp [uI, g1], by simp [uI, g2], ⟨by simp [uI, k1], by simp [uI, k2]⟩, fun j hj hj2 => by simp [uI]; exact k3 j hj hj2⟩
    · exact ⟨⟨by simp [uI, m1], by simp [uI, m2], by simp [uI, m3], by simp [uI, m4]⟩, ⟨by simp [uI, m5.1], by simp [uI, m5.2]⟩, by simp [uI, m6.1], by simp [uI, m6.2]⟩
  by_cases q : V ≤ 0
  · rw [if_pos q, if_pos q]
    exact go _ ⟨a4.1.resolve_right (Int32.not_lt.mpr q), a4.2.1⟩
  · rw [if_neg q, if_neg q]
    exact go _ ⟨a4.2.2.2, a4.2.2.1.resolve_right q⟩
end STR

/-! the movement: a step of the balance, both: the whole -/
section STQ
variable {I J : Nat → Nat → Int32} {L K : Nat → Nat → Int64} {n s : Nat}
theorem neg_lev {x : Int32} (h : x = 1 ∨ x = -1) : -x = 1 ∨ -x = -1 := by
  rcases h with rfl | rfl
  · exact Or.inr rfl
  · exact Or.inl (by decide)
/-- what a step leaves of the reference -/
def FJJ (J J' : Nat → Nat → Int32) : Prop := ∀ a j, ¬ (a = 34 ∧ 25 ≤ j ∧ j ≤ 31) → a ≠ 53 → J' a j = J a j
/-- the two behind a step: tk whether there was a tick -/
def S3 (n s : Nat) (x : Option (Int32 × (Nat → Nat → Int32) × (Nat → Nat → Int64))) (y : Option (Int32 × (Nat → Nat → Int32) × (Nat → Nat → Int64))) (L K : Nat → Nat → Int64) (J : Nat → Nat → Int32) : Prop := (∃ I' J', x = some (0, I', L) ∧ y = some (0, J', K) ∧ DY n s I' J' ∧ FJJ J J') ∨ ∃ I' J', x = some (1, I', L) ∧ y = ((f_Md_ticked J' K).bind fun q => some (1, q.1, q.2)) ∧ DY (n + 1) s I' J' ∧ FJJ J J'
theorem S3_base {x y : Option (Int32 × (Nat → Nat → Int32) × (Nat → Nat → Int64))} {J1 : Nat → Nat → Int32} (h : S3 n s x y L K J1) (e : FJJ J J1) : S3 n s x y L K J := by
  rcases h with ⟨I', J', h1, h2, h3, h4⟩ | ⟨I', J', h1, h2, h3, h4⟩
  · exact Or.inl ⟨I', J', h1, h2, h3, fun a j q1 q2 => (h4 a j q1 q2).trans (e a j q1 q2)⟩
  · exact Or.inr ⟨I', J', h1, h2, h3, fun a j q1 q2 => (h4 a j q1 q2).trans (e a j q1 q2)⟩
theorem bt3 {t : Int32} (h : DY n s I J) (hn : n < s) (hg : I 1 3 = J 34 12) (ht : 0 < t) : S3 n s (f_Es_step_L225 t I L) (f_Md_step_L235 t.toInt64 J K) L K J := by
  obtain ⟨⟨a1, a2⟩, ⟨b1, b2, b3⟩, ⟨c1, c2⟩, ⟨d1, d2, d3⟩, ⟨e1, e2, e3⟩, ⟨f1, f2⟩, g1, g2, ⟨k1, k2⟩, k3⟩ := h
  have t1 : ¬ t ≤ 0 := Int32.not_le.mpr ht
  have hb := beatC (t := t) (L := L) b1 b3 k1 k2 (show n < 200000 by omega)
  have hm := beatM (t := t.toInt64) (K := K) b2 (show n < 200000 by omega)
  rw [← hg, ← e1, ← f1, ← g2] at hm
  have hc : f_Es_step_L225 t I L = (f_Es_beat t I L).bind (fun q => some (1, q.1, q.2)) := by
    rw [f_Es_step_L225, if_neg t1]
    congr 1
    funext q
    rw [f_Es_step_L235, if_neg t1]
  rw [hb, Option.bind_some] at hc
  refine Or.inr ⟨_, _, hc, hm, ?_, fun a j z1 z2 => ?_⟩
  · have vb := hv_bd (if I 1 9 ≤ 0 then (I 1 9).toInt64 - ((t.toInt64 * (I 1 3).toInt64) >>> ((16 : Int32).toInt64 &&& 63)) else (I 1 9).toInt64 + ((t.toInt64 * (I 1 3).toInt64) >>> ((16 : Int32).toInt64 &&& 63)))
    generalize f_Es_held (if I 1 9 ≤ 0 then (I 1 9).toInt64 - ((t.toInt64 * (I 1 3).toInt64) >>> ((16 : Int32).toInt64 &&& 63)) else (I 1 9).toInt64 + ((t.toInt64 * (I 1 3).toInt64) >>> ((16 : Int32).toInt64 &&& 63))) = V at *
    by_cases c : n < 3000
    · rw [if_pos c, if_pos c]
      refine ⟨⟨by omega, a2⟩, ⟨by simp [uI], by simp [uI], by simp [uI]⟩, ⟨by simp [uI, c1], by simp [uI, c2]⟩, ⟨by simp [uI, d1], by simp [uI, d2], by simp [uI, d3]⟩, ⟨by simp [uI], by simp [uI, vb.1], by simp [uI, vb.2]⟩, ⟨by simp [uI], by rcases f2 with f | f <;> simp [uI, f]⟩, by simp [uI, g1], by simp [uI], ⟨by simp [uI, k1], by simp [uI, k2]⟩, fun j hj hj2 => ?_⟩
      by_cases q1 : j = 2 * n + 1
      · subst q1; simp [uI]
      · by_cases q2 : j = 2 * n
        · subst q2; simp [uI, c1, c2]
        · simp [uI, q1, q2]
          exact k3 j (by omega) hj2
    · rw [if_neg c, if_neg c]
      refine ⟨⟨by omega, a2⟩, ⟨by simp [uI], by simp [uI], by simp [uI]⟩, ⟨by simp [uI, c1], by simp [uI, c2]⟩, ⟨by simp [uI, d1], by simp [uI, d2], by simp [uI, d3]⟩, ⟨by simp [uI], by simp [uI, vb.1], by simp [uI, vb.2]⟩, ⟨by simp [uI], by rcases f2 with f | f <;> simp [uI, f]⟩, by simp [uI, g1], by simp [uI], ⟨by simp [uI, k1], by simp [uI, k2]⟩, fun j hj hj2 => ?_⟩
      simp [uI]
      exact k3 j (by omega) hj2
  · by_cases c : n < 3000
    · rw [if_pos c]
      simp only [uI]
      rw [if_neg, if_neg, if_neg, if_neg, if_neg, if_neg] <;> first | exact fun q => z1 ⟨q.1, by omega⟩ | exact fun q => z2 q.1
    · rw [if_neg c]
      simp only [uI]
      rw [if_neg, if_neg, if_neg, if_neg] <;> first | exact fun q => z1 ⟨q.1, by omega⟩ | exact fun q => z2 q.1
theorem st3 {t : Int32} (h : DY n s I J) (hn : n < s) (hg : I 1 3 = J 34 12) (ht : TQI t I J L K) : S3 n s (f_Es_step_L146 I L) (f_Md_step_L159 J K) L K J := by
  obtain ⟨⟨a1, a2⟩, ⟨b1, b2, b3⟩, ⟨c1, c2⟩, ⟨d1, d2, d3⟩, ⟨e1, e2, e3⟩, ⟨f1, f2⟩, g1, g2, ⟨k1, k2⟩, k3⟩ := id h
  have hD : DY n s (uI I 1 14 (jmax (I 1 14) (jabs (I 1 8)))) (uI J 34 31 (jmax (J 34 31) (jabs (J 34 27)))) := by
    refine ⟨⟨a1, a2⟩, ⟨by simp [uI, b1], by simp [uI, b2], by simp [uI, b3]⟩, ⟨by simp [uI, c1], by simp [uI, c2]⟩, ⟨by simp [uI, d1], by simp [uI, d2], by simp [uI, d3]⟩, ⟨by simp [uI, e1], by simp [uI, e2], by simp [uI, e3]⟩, ⟨by simp [uI, f1], by simp [uI]; exact f2⟩, by simp [uI, g1], by simp [uI, g2, d1], ⟨by simp [uI, k1], by simp [uI, k2]⟩, fun j hj hj2 => by simp [uI]; exact k3 j hj hj2⟩
  obtain ⟨q1, q2⟩ := ht (uI I 1 14 (jmax (I 1 14) (jabs (I 1 8)))) (uI J 34 31 (jmax (J 34 31) (jabs (J 34 27)))) (by simp [uI]) (by simp [uI]) (fun j => by simp [uI]) (by simp [uI]) (by simp [uI]) (by simp [uI]) (fun j => by simp [uI]) (fun j => by simp [uI])
  have hM : f_Md_step_L159 J K = if t ≤ 0 then some (0, uI J 34 31 (jmax (J 34 31) (jabs (J 34 27))), K) else if J 34 29 = -1 then (if J 34 27 < 0 then f_Md_step_L211 t.toInt64 (uI J 34 31 (jmax (J 34 31) (jabs (J 34 27)))) K else if 0 < J 34 28 then f_Md_step_L235 t.toInt64 (uI J 34 31 (jmax (J 34 31) (jabs (J 34 27)))) K else f_Md_step_L211 t.toInt64 (uI J 34 31 (jmax (J 34 31) (jabs (J 34 27)))) K) else f_Md_step_L211 t.toInt64 (uI J 34 31 (jmax (J 34 31) (jabs (J 34 27)))) K := by
    rw [f_Md_step_L159]
    simp only [bnd]
    rw [q2, Option.bind_some]
    have z : (0 : Int64) = (0 : Int32).toInt64 := by decide
    rw [z]
    simp only [i64_le]
  have h211 : ∀ J' : Nat → Nat → Int32, ∀ w, J' = uI J 34 31 w → f_Md_step_L211 t.toInt64 J' K = if J 34 29 = 1 then (if 0 < J 34 27 then some (0, J', K) else if J 34 28 < 0 then f_Md_step_L235 t.toInt64 J' K else some (0, J', K)) else some (0, J', K) := by
    intro J' w e
    subst e
    rw [f_Md_step_L211]
    simp [uI]
  have h212 : f_Es_step_L212 1 (uI I 1 14 (jmax (I 1 14) (jabs (I 1 8)))) L = f_Es_step_L225 t (uI I 1 14 (jmax (I 1 14) (jabs (I 1 8)))) L := by
    rw [f_Es_step_L212, if_neg (by decide), q1, Option.bind_some]
  have h0 : ∀ I' : Nat → Nat → Int32, f_Es_step_L225 0 I' L = some (0, I', L) := by
    intro I'
    rw [f_Es_step_L225, if_pos (by decide), f_Es_step_L235, if_pos (by decide)]
  have h2120 : ∀ I' : Nat → Nat → Int32, f_Es_step_L212 0 I' L = some (0, I', L) := by
    intro I'
    rw [f_Es_step_L212, if_pos rfl, h0]
  have fB : FJJ J (uI J 34 31 (jmax (J 34 31) (jabs (J 34 27)))) := fun a j z1 z2 => by
    simp only [uI]
    rw [if_neg (fun q => z1 ⟨q.1, by omega⟩)]
  have no : S3 n s (some (0, (uI I 1 14 (jmax (I 1 14) (jabs (I 1 8)))), L)) (some (0, uI J 34 31 (jmax (J 34 31) (jabs (J 34 27))), K)) L K J := Or.inl ⟨_, _, rfl, rfl, hD, fB⟩
  have neg : ∀ x, t ≤ 0 → x = f_Es_step_L225 t (uI I 1 14 (jmax (I 1 14) (jabs (I 1 8)))) L → S3 n s x (some (0, uI J 34 31 (jmax (J 34 31) (jabs (J 34 27))), K)) L K J := by
    intro x hx e
    rw [e, f_Es_step_L225, if_pos hx, f_Es_step_L235, if_pos hx]
    exact no
  have pos : ¬ t ≤ 0 → S3 n s (f_Es_step_L225 t (uI I 1 14 (jmax (I 1 14) (jabs (I 1 8)))) L) (f_Md_step_L235 t.toInt64 (uI J 34 31 (jmax (J 34 31) (jabs (J 34 27)))) K) L K J := fun q => S3_base (bt3 hD hn (by simp [uI, hg]) (Int32.not_le.mp q)) fB
  have n11 : ¬ (1 : Int32) = -1 := by decide
  have n0 : ¬ (-1 : Int32) = 1 := by decide
  have p1 : (0 : Int32) ≤ 1 := by decide
  have p2 : ¬ (0 : Int32) ≤ -1 := by decide
  rw [hM, f_Es_step_L146]
  simp only [bnd, f_Es_step_L211, f_Es_step_L189]
  rw [h212, h2120, h211 _ _ rfl, ← f1, ← e1, ← d1]
  rw [← d1] at no neg pos
  by_cases tz : t ≤ 0
  · rw [if_pos tz]
    rcases f2 with f | f
    · rw [f, if_pos (by decide)]
      by_cases x1 : 0 < I 1 8
      · rw [if_pos x1]; exact no
      · rw [if_neg x1]
        by_cases x2 : 0 ≤ I 1 9
        · rw [if_pos x2]; exact no
        · rw [if_neg x2]; exact neg _ tz rfl
    · rw [f, if_neg (by decide)]
      by_cases x1 : I 1 8 < 0
      · rw [if_pos x1]; exact no
      · rw [if_neg x1]
        by_cases x2 : I 1 9 ≤ 0
        · rw [if_pos x2]; exact no
        · rw [if_neg x2]; exact neg _ tz rfl
  · rw [if_neg tz]
    rcases f2 with f | f
    · rw [f, if_pos p1, if_neg n11, if_pos (rfl : (1 : Int32) = 1)]
      by_cases x1 : 0 < I 1 8
      · rw [if_pos x1, if_pos x1]; exact no
      · rw [if_neg x1, if_neg x1]
        by_cases x2 : 0 ≤ I 1 9
        · rw [if_pos x2, if_neg (Int32.not_lt.mpr x2)]; exact no
        · rw [if_neg x2, if_pos (Int32.not_le.mp x2)]; exact pos tz
    · rw [f, if_neg p2, if_pos (rfl : (-1 : Int32) = -1), if_neg n0]
      by_cases x1 : I 1 8 < 0
      · rw [if_pos x1, if_pos x1]; exact no
      · rw [if_neg x1, if_neg x1]
        by_cases x2 : I 1 9 ≤ 0
        · rw [if_pos x2, if_neg (Int32.not_lt.mpr x2)]; exact no
        · rw [if_neg x2, if_pos (Int32.not_le.mp x2)]; exact pos tz
end STQ

/-! the trial's verdict -/
def vS (r : Nat → Int32) : Int32 := 0 + r 0 + r 1 + r 2 + r 3 + r 4 + r 5 + r 6 + r 7 + r 8 + r 9
def vP (r : Nat → Int32) : Int32 := 0 + jabs (r 0 - r 1) + jabs (r 2 - r 3) + jabs (r 4 - r 5) + jabs (r 6 - r 7) + jabs (r 8 - r 9)
def vM (r : Nat → Int32) : Int32 := jmax (jmax (jmax (jmax (jmax 0 (jabs (r 0 - r 1))) (jabs (r 2 - r 3))) (jabs (r 4 - r 5))) (jabs (r 6 - r 7))) (jabs (r 8 - r 9))
def vF (r : Nat → Int32) (s : Int32) : Int32 := jmax (jmax (jmax (jmax (jmax (jmax (jmax (jmax (jmax (jmax 0 (jabs (10 * r 0 - s))) (jabs (10 * r 1 - s))) (jabs (10 * r 2 - s))) (jabs (10 * r 3 - s))) (jabs (10 * r 4 - s))) (jabs (10 * r 5 - s))) (jabs (10 * r 6 - s))) (jabs (10 * r 7 - s))) (jabs (10 * r 8 - s))) (jabs (10 * r 9 - s))
theorem s10_H (I : Nat → Nat → Int32) (L : Nat → Nat → Int64) : f_H_sumOfTen I L = some (vS (I 28)) := by
  simp [f_H_sumOfTen, xF, f_H_sumOfTen_L4, vS]
theorem sp_H (I : Nat → Nat → Int32) (L : Nat → Nat → Int64) : f_H_sumOfPairs I L = some (vP (I 28)) := by
  simp [f_H_sumOfPairs, xF, f_H_sumOfPairs_L4, vP]
theorem gp_H (I : Nat → Nat → Int32) (L : Nat → Nat → Int64) : f_H_greatestOfPairs I L = some (vM (I 28)) := by
  simp [f_H_greatestOfPairs, xF, f_H_greatestOfPairs_L4, vM]
theorem ff_H (I : Nat → Nat → Int32) (L : Nat → Nat → Int64) : f_H_farthestFromMean I L = some (vF (I 28) (vS (I 28))) := by
  rw [f_H_farthestFromMean, s10_H]
  simp [xF, f_H_farthestFromMean_L9, vF]
def vN (r : Nat → Int32) (k : Int32) : Int32 := if k = 0 then vS r else if k = 1 then vP r else if k = 2 then vM r else if k = 3 then r 0 + r 1 - r 8 - r 9 else if k = 4 then vF r (vS r) else if k = 5 then r 12 - r 10 else if k = 6 then 2 * r 14 - r 0 - r 1 else -9999999
theorem tn_H (k : Int32) (I : Nat → Nat → Int32) (L : Nat → Nat → Int64) : f_H_trialNumber k I L = some (vN (I 28) k) := by
  simp only [f_H_trialNumber, s10_H, sp_H, gp_H, ff_H, Option.bind_some, vN]
  repeat (split <;> try rfl)
theorem v16 {n : Nat} {acc k : Int32} {I : Nat → Nat → Int32} {L : Nat → Nat → Int64} (hk : ¬ (7 : Int32) ≤ k) (h0 : 0 ≤ k ∧ k < 7) : f_H_verdict_L16 (n + 1) acc k I L = f_H_verdict_L16 n (if f_H_isWithin (vN (I 28) k) (xsv false k.toNatClampNeg) (xsv true k.toNatClampNeg) = 0 then acc ||| ((1 : Int32) <<< (k &&& 31)) else acc) (k + 1) I L := by
  rw [f_H_verdict_L16]
  simp only [if_neg hk, tn_H, Option.bind_some, if_pos h0, bnd]
  split <;> rfl
def vb (c : Prop) [Decidable c] (acc b : Int32) : Int32 := if c then acc ||| b else acc
theorem v7_H (I : Nat → Nat → Int32) (L : Nat → Nat → Int64) : f_H_verdict 7 I L = some (vb (f_H_isWithin (vN (I 28) 6) (-100) 100 = 0) (vb (f_H_isWithin (vN (I 28) 5) (-180) 180 = 0) (vb (f_H_isWithin (vN (I 28) 4) 0 1000 = 0) (vb (f_H_isWithin (vN (I 28) 3) (-120) 160 = 0) (vb (f_H_isWithin (vN (I 28) 2) 0 50 = 0) (vb (f_H_isWithin (vN (I 28) 1) 0 100 = 0) (vb (f_H_isWithin (vN (I 28) 0) (-400) 600 = 0) 0 1) 2) 4) 8) 16) 32) 64) := by
  rw [f_H_verdict, if_pos rfl]
  show f_H_verdict_L16 (999992 + 1 + 1 + 1 + 1 + 1 + 1 + 1 + 1) 0 0 I L = _
  rw [v16 (by decide) (by decide), v16 (by decide) (by decide), v16 (by decide) (by decide), v16 (by decide) (by decide), v16 (by decide) (by decide), v16 (by decide) (by decide), v16 (by decide) (by decide), f_H_verdict_L16, if_pos (by decide)]
  rfl
theorem f_M (a0 : Int32) (I : Nat → Nat → Int32) (L : Nat → Nat → Int64) : f_Md_verdict a0 I L = f_Md_verdict_L91 999990 a0 (vS (I 70)) (vP (I 70)) (vM (I 70)) (vF (I 70) (vS (I 70))) 10 I L := by
  simp [f_Md_verdict, xF, f_Md_verdict_L13, f_Md_verdict_L39, vS, vP, vM, vF]
  simp [f_Md_verdict_L91]

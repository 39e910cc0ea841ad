/-! the movement: steps, both -/
def OB2 (nc nw : Nat) (pc pw : Nat → Nat) : Prop := (∀ c, c < nc → pc c < 1000 ∧ pc c = 102 + c) ∧ ∀ w, w < nw → pw w < 1000 ∧ 78 + 3 * w ≤ pw w ∧ pw w < 81 + 3 * w
/-- class and reference of a movement that goes; rr the rows of the book so far -/
def MV (S : List xSh) (Rf : Nat → Nat → Option Nat) (A T nc nw : Nat) (pc pw : Nat → Nat) (rr n s : Nat) (I J : Nat → Nat → Int32) (L K : Nat → Nat → Int64) : Prop := DY n s I J ∧ WND I J L K A n ∧ SPR I J L K A T ∧ CB I J ∧ (∀ j, j < 9 → I 8 j = J 41 j) ∧ OBJ S Rf nc nw pc pw ∧ CK nc pc I J ∧ WK S Rf A nw pw I J ∧ STK (8 * n + rr) I J ∧ OB2 nc nw pc pw
/-- what a row of the book leaves, in the class and in the reference -/
def FI2 (I I' : Nat → Nat → Int32) : Prop := ∀ a j, a < 75 → a ≠ 10 → a ≠ 14 → ¬ (a = 1 ∧ 8 ≤ j ∧ j ≤ 14) → ¬ (a = 9 ∧ j = 3) → ¬ (a = 13 ∧ j = 3) → I' a j = I a j
def FJ2 (J J' : Nat → Nat → Int32) : Prop := ∀ a j, a ≠ 48 → a ≠ 49 → a ≠ 50 → a ≠ 51 → a ≠ 52 → a ≠ 53 → a ≠ 54 → ¬ (a = 34 ∧ ((25 ≤ j ∧ j ≤ 31) ∨ j = 40 ∨ j = 45 ∨ j = 46 ∨ j = 47)) → J' a j = J a j
theorem FI2.rf {I : Nat → Nat → Int32} : FI2 I I := fun _ _ _ _ _ _ _ _ => rfl
theorem FJ2.rf {I : Nat → Nat → Int32} : FJ2 I I := fun _ _ _ _ _ _ _ _ _ _ => rfl
theorem FI2.tr {I I' I'' : Nat → Nat → Int32} (h : FI2 I I') (g : FI2 I' I'') : FI2 I I'' := fun a j q1 q2 q3 q4 q5 q6 => (g a j q1 q2 q3 q4 q5 q6).trans (h a j q1 q2 q3 q4 q5 q6)
theorem FJ2.tr {I I' I'' : Nat → Nat → Int32} (h : FJ2 I I') (g : FJ2 I' I'') : FJ2 I I'' := fun a j q1 q2 q3 q4 q5 q6 q7 q8 => (g a j q1 q2 q3 q4 q5 q6 q7 q8).trans (h a j q1 q2 q3 q4 q5 q6 q7 q8)
section RUN
variable {S : List xSh} {Rf : Nat → Nat → Option Nat} {L K : Nat → Nat → Int64} {A T nc nw rr : Nat} {pc pw : Nat → Nat}
theorem DY_ext {n s : Nat} {I J I' J' : Nat → Nat → Int32} (h : DY n s I J) (e1 : ∀ j, I' 1 j = I 1 j) (e2 : ∀ j, I' 9 j = I 9 j) (e3 : ∀ j, I' 10 j = I 10 j) (e4 : ∀ j, 25 ≤ j → j ≤ 31 → J' 34 j = J 34 j) (e5 : ∀ j, J' 53 j = J 53 j) : DY n s I' J' := by
  unfold DY at h ⊢
  simp only [e1, e2, e3, e5, e4 25 (by decide) (by decide), e4 26 (by decide) (by decide), e4 27 (by decide) (by decide), e4 28 (by decide) (by decide), e4 29 (by decide) (by decide), e4 30 (by decide) (by decide), e4 31 (by decide) (by decide)]
  exact h
theorem CB_ext {I J I' J' : Nat → Nat → Int32} (h : CB I J) (e1 : ∀ j, 1 ≤ j → j ≤ 4 → I' 1 j = I 1 j) (e4 : ∀ j, 10 ≤ j → j ≤ 13 → J' 34 j = J 34 j) : CB I' J' := by
  unfold CB at h ⊢
  simp only [e1 1 (by decide) (by decide), e1 2 (by decide) (by decide), e1 3 (by decide) (by decide), e1 4 (by decide) (by decide), e4 10 (by decide) (by decide), e4 11 (by decide) (by decide), e4 12 (by decide) (by decide), e4 13 (by decide) (by decide)]
  exact h
/-- more ticks let down no less -/
theorem tv_mono {I J : Nat → Nat → Int32} {a n m : Nat} {p : Int64} {P : Nat} (h : SPR I J L K A T) (ha : a < A) (hk : ¬ L 4 a = 0) (hm : m ≤ 200000) (hn : n ≤ m) (hp : p.toInt = P) (hP : P ≤ 256) : (tv L a (jN n) p).toInt ≤ (tv L a (jN m) p).toInt := by
  rw [(tv_int h ha hk (show n ≤ 200000 by omega) hp hP).1, (tv_int h ha hk hm hp hP).1]
  have : P * (L 3 a).toInt.natAbs * n ≤ P * (L 3 a).toInt.natAbs * m := Nat.mul_le_mul_left _ hn
  have := Nat.div_le_div_right (c := (L 5 a).toInt.toNat) this
  omega
theorem WND_up {I J I' J' : Nat → Nat → Int32} {n m : Nat} (hS : SPR I J L K A T) (h : WND I J L K A n) (hm : m ≤ 200000) (hn : n ≤ m) (e1 : I' 1 12 = jN m) (e2 : J' 34 25 = jN m) (e3 : I' 1 5 = I 1 5) (e4 : J' 34 14 = J 34 14) : WND I' J' L K A m := by
  obtain ⟨⟨h1, h2, h3, h4, h5⟩, h6⟩ := h
  refine ⟨⟨hm, e1, e2, by rw [e3, e4]; exact h4, h5⟩, ?_⟩
  rw [e3]
  rcases h6 with h6 | ⟨k, k1, k2, k3, k4⟩
  · exact Or.inl h6
  · refine Or.inr ⟨k, k1, k2, k3, fun q => ?_⟩
    obtain ⟨a, b⟩ := k4 q
    have := tv_mono (p := 256) (P := 256) hS k1 q hm hn (by decide) (by omega)
    omega
/-- one step with all that hangs on it -/
theorem one_step {n s : Nat} {I J : Nat → Nat → Int32} (h : MV S Rf A T nc nw pc pw rr n s I J L K) (hs : s < 200000) (hr : rr ≤ 2000) : ∃ tk I1 n' I' J', f_Es_step I L = some (tk, I1, L) ∧ (if tk = 0 then I' = I1 else f_H_passTick S Rf I1 L = some (I', L)) ∧ f_Md_step J K = some (tk, J', K) ∧ MV S Rf A T nc nw pc pw rr n' (s + 1) I' J' L K ∧ ((tk = 0 ∧ n' = n) ∨ (tk = 1 ∧ n' = n + 1)) ∧ FI2 I I' ∧ FJ2 J J' := by
  obtain ⟨h1, h2, h3, h4, h5, h6, h7, h8, h9, h10⟩ := h
  obtain ⟨t, t1, t2⟩ := tq_ok h3 h2 h5
  have st := stp_ok h1 hs h4 (tqi_of t1 t2)
  have hn200 : n ≤ 200000 := h2.1.1
  rcases st with ⟨I1, J1, a1, a2, a3, a4⟩ | ⟨I1, J1, a1, a2, a3, a4⟩
  · have fr := fun S => u_Es_step (S := S) a1
    have fI : ∀ a j, a ≠ 10 → a ≠ 1 → a ≠ 9 → a < 1000 → I1 a j = I a j := fun a j q1 q2 q3 q4 => fr_I fr a j (by simp; omega) (fun _ => by simp; omega)
    have f1 : ∀ j, j < 8 → I1 1 j = I 1 j := fun j hj => fr_I fr 1 j (by decide) (fun _ => by simp; omega)
    have pge : ∀ w, w < nw → 75 ≤ pw w := fun w hw => (h6.2.1 w hw).2.1
    have cge : ∀ c, c < nc → 75 ≤ pc c := fun c hc => (h6.1 c hc).2.2
    refine ⟨0, I1, n, I1, J1, a1, by rw [if_pos rfl], a2, ⟨a3, ?_, ?_, ?_, ?_, h6, ?_, ?_, ?_, h10⟩, Or.inl ⟨rfl, rfl⟩, fun a j q1 q2 q3 q4 q5 q6 => fr_I fr a j (by simp; omega) (fun _ => by simp; omega), fun a j q1 q2 q3 q4 q5 q6 q7 q8 => a4 a j (fun q => q8 ⟨q.1, Or.inl q.2⟩) q6⟩
    · exact WND_up h3 h2 hn200 (Nat.le_refl _) a3.2.1.1 a3.2.1.2.1 (f1 5 (by decide)) (a4 34 14 (by omega) (by decide))
    · exact SPR_ext h3 (fI 2 3 (by decide) (by decide) (by decide) (by decide)) (a4 34 9 (by omega) (by decide)) (fun i => a4 57 i (by omega) (by decide))
    · exact CB_ext h4 (fun j _ _ => f1 j (by omega)) (fun j _ _ => a4 34 j (by omega) (by decide))
    · intro j hj
      rw [fI 8 j (by decide) (by decide) (by decide) (by decide), a4 41 j (by omega) (by decide)]
      exact h5 j hj
    · exact CK_ext h7 (fI 0 7 (by decide) (by decide) (by decide) (by decide)) (fun c hc j => by have := cge c hc; exact fI _ j (by omega) (by omega) (by omega) (And.left (h10.1 c hc))) (a4 34 22 (by omega) (by decide)) (fun a i _ => a4 a i (by omega) (by omega))
    · refine ⟨by rw [fI 0 6 (by decide) (by decide) (by decide) (by decide)]; exact h8.1, by rw [a4 34 16 (by omega) (by decide)]; exact h8.2.1, h8.2.2.1, fun w hw => ?_⟩
      have := pge w hw
      exact WR_ext (h8.2.2.2 w hw) (fun j => fI _ j (by omega) (by omega) (by omega) (And.left (h10.2 w hw))) (fun i _ => a4 48 _ (by omega) (by decide)) (fun a _ _ => a4 a w (by omega) (by omega))
    · exact STK_ext h9 (fI 13 3 (by decide) (by decide) (by decide) (by decide)) (fI 13 0 (by decide) (by decide) (by decide) (by decide)) (fI 13 1 (by decide) (by decide) (by decide) (by decide)) (a4 34 40 (by omega) (by decide)) (fun j => fI 14 j (by decide) (by decide) (by decide) (by decide)) (fun j => a4 54 j (by omega) (by decide))
  · have fr := fun S => u_Es_step (S := S) a1
    have fI : ∀ a j, a ≠ 10 → a ≠ 1 → a ≠ 9 → a < 1000 → I1 a j = I a j := fun a j q1 q2 q3 q4 => fr_I fr a j (by simp; omega) (fun _ => by simp; omega)
    have f1 : ∀ j, j < 8 → I1 1 j = I 1 j := fun j hj => fr_I fr 1 j (by decide) (fun _ => by simp; omega)
    have pge : ∀ w, w < nw → 75 ≤ pw w := fun w hw => (h6.2.1 w hw).2.1
    have cge : ∀ c, c < nc → 75 ≤ pc c := fun c hc => (h6.1 c hc).2.2
    have n1 : n + 1 ≤ 200000 := by have := a3.1; omega
    have sp1 : SPR I1 J1 L K A T := SPR_ext h3 (fI 2 3 (by decide) (by decide) (by decide) (by decide)) (a4 34 9 (by omega) (by decide)) (fun i => a4 57 i (by omega) (by decide))
    obtain ⟨I2, J2, b1, b2, b3, b4, b5, b6, b7⟩ := tick_ok (L := L) (K := K) (T := T) (n := n + 1) (kb := 8 * n + rr) h6 ⟨by omega, n1⟩
      (CK_ext h7 (fI 0 7 (by decide) (by decide) (by decide) (by decide)) (fun c hc j => by have := cge c hc; exact fI _ j (by omega) (by omega) (by omega) (And.left (h10.1 c hc))) (a4 34 22 (by omega) (by decide)) (fun a i _ => a4 a i (by omega) (by omega)))
      (show WK S Rf A nw pw I1 J1 by
        refine ⟨by rw [fI 0 6 (by decide) (by decide) (by decide) (by decide)]; exact h8.1, by rw [a4 34 16 (by omega) (by decide)]; exact h8.2.1, h8.2.2.1, fun w hw => ?_⟩
        have := pge w hw
        exact WR_ext (h8.2.2.2 w hw) (fun j => fI _ j (by omega) (by omega) (by omega) (And.left (h10.2 w hw))) (fun i _ => a4 48 _ (by omega) (by decide)) (fun a _ _ => a4 a w (by omega) (by omega)))
      sp1 a3.2.1.1 a3.2.1.2.1
      (STK_ext h9 (fI 13 3 (by decide) (by decide) (by decide) (by decide)) (fI 13 0 (by decide) (by decide) (by decide) (by decide)) (fI 13 1 (by decide) (by decide) (by decide) (by decide)) (a4 34 40 (by omega) (by decide)) (fun j => fI 14 j (by decide) (by decide) (by decide) (by decide)) (fun j => a4 54 j (by omega) (by decide))) (by omega)
    have g34 : ∀ j, j < 40 → J2 34 j = J1 34 j := fun j hj => b7 34 j (by decide) (by decide) (by decide) (by omega)
    have dy2 : DY (n + 1) (s + 1) I2 J2 := DY_ext a3 (fun j => b6 1 j (by decide) (by decide) (by simp)) (fun j => b6 9 j (by decide) (by decide) (by simp)) (fun j => b6 10 j (by decide) (by decide) (by simp)) (fun j _ _ => g34 j (by omega)) (fun j => b7 53 j (by decide) (by decide) (by decide) (by simp))
    refine ⟨1, I1, n + 1, I2, J2, a1, by rw [if_neg (by decide)]; exact b1, ?_, ⟨dy2, ?_, ?_, ?_, ?_, h6, b3, b4, STK_w b5 (by omega), h10⟩, Or.inr ⟨rfl, rfl⟩, fun a j q1 q2 q3 q4 q5 q6 => (b6 a j q1 q3 q6).trans (fr_I fr a j (by simp; omega) (fun _ => by simp; omega)), fun a j q1 q2 q3 q4 q5 q6 q7 q8 => (b7 a j q1 q3 q7 (fun q => q8 ⟨q.1, Or.inr q.2⟩)).trans (a4 a j (fun q => q8 ⟨q.1, Or.inl q.2⟩) q6)⟩
    · rw [a2, b2, Option.bind_some]
    · exact WND_up h3 h2 n1 (by omega) dy2.2.1.1 dy2.2.1.2.1 (by rw [b6 1 5 (by decide) (by decide) (by simp)]; exact f1 5 (by decide)) (by rw [g34 14 (by decide)]; exact a4 34 14 (by omega) (by decide))
    · exact SPR_ext sp1 (b6 2 3 (by decide) (by decide) (by simp)) (g34 9 (by decide)) (fun i => b7 57 i (by decide) (by decide) (by decide) (by simp))
    · exact CB_ext h4 (fun j _ _ => by rw [b6 1 j (by decide) (by decide) (by simp)]; exact f1 j (by omega)) (fun j _ _ => by rw [g34 j (by omega)]; exact a4 34 j (by omega) (by decide))
    · intro j hj
      rw [b6 8 j (by decide) (by decide) (by simp), b7 41 j (by decide) (by decide) (by decide) (by simp), fI 8 j (by decide) (by decide) (by decide) (by decide), a4 41 j (by omega) (by decide)]
      exact h5 j hj
theorem steps_go {cnt : Nat} (hr : rr ≤ 2000) (hcnt : cnt ≤ 20000) (l2 : Int32) : ∀ (m i n s k : Nat) (I J : Nat → Nat → Int32), i + m = cnt → s + m ≤ 200000 → MV S Rf A T nc nw pc pw rr n s I J L K → ∃ n' I' J', (∀ N, m < N → f_H_takeSteps_L10 S Rf N (jN cnt) l2 (jN i) I L = some (jN n' - l2, I', L)) ∧ (∀ N, m < N → f_Md_run_L50 N (jN cnt) (jN k) (jN i) J K = ((f_Md_write 0 (jN cnt) 0 0 J' K).bind fun q7 => some (jN (k + (n' - n)), q7.1, q7.2))) ∧ n ≤ n' ∧ MV S Rf A T nc nw pc pw rr n' (s + m) I' J' L K ∧ FI2 I I' ∧ FJ2 J J' := by
  intro m
  induction m with
  | zero =>
    intro i n s k I J h1 h2 h
    have e : i = cnt := by omega
    subst e
    refine ⟨n, I, J, fun N hN => ?_, fun N hN => ?_, Nat.le_refl _, h, FI2.rf, FJ2.rf⟩
    · obtain ⟨N, rfl⟩ : ∃ k, N = k + 1 := ⟨N - 1, by omega⟩
      rw [f_H_takeSteps_L10, if_pos (Int32.le_refl _), h.1.2.1.1]
    · obtain ⟨N, rfl⟩ : ∃ k, N = k + 1 := ⟨N - 1, by omega⟩
      rw [f_Md_run_L50, if_pos (Int32.le_refl _), Nat.sub_self, Nat.add_zero]
  | succ m ih =>
    intro i n s k I J h1 h2 h
    obtain ⟨tk, I1, n1, I2, J2, a1, a2, a3, a4, a5, a6, a7⟩ := one_step h (by omega) hr
    have c1 : ¬ jN cnt ≤ jN i := fun q => by have := (jN_le (by omega) (by omega)).mp q; omega
    rcases a5 with ⟨rfl, rfl⟩ | ⟨rfl, rfl⟩
    · rw [if_pos rfl] at a2
      subst a2
      obtain ⟨n', I', J', b1, b2, b3, b4, b5, b6⟩ := ih (i + 1) n1 (s + 1) k I2 J2 (by omega) (by omega) a4
      refine ⟨n', I', J', fun N hN => ?_, fun N hN => ?_, b3, by rw [show s + (m + 1) = s + 1 + m by omega]; exact b4, a6.tr b5, a7.tr b6⟩
      · obtain ⟨N, rfl⟩ : ∃ k, N = k + 1 := ⟨N - 1, by omega⟩
        rw [f_H_takeSteps_L10, if_neg c1, a1, Option.bind_some, if_pos rfl, jN_1]
        exact b1 N (by omega)
      · obtain ⟨N, rfl⟩ : ∃ k, N = k + 1 := ⟨N - 1, by omega⟩
        rw [f_Md_run_L50, if_neg c1, a3, Option.bind_some, if_pos rfl]
        simp only [bnd, Int32.add_zero]
        rw [jN_1]
        exact b2 N (by omega)
    · rw [if_neg (by decide)] at a2
      obtain ⟨n', I', J', b1, b2, b3, b4, b5, b6⟩ := ih (i + 1) (n + 1) (s + 1) (k + 1) I2 J2 (by omega) (by omega) a4
      refine ⟨n', I', J', fun N hN => ?_, fun N hN => ?_, by omega, by rw [show s + (m + 1) = s + 1 + m by omega]; exact b4, a6.tr b5, a7.tr b6⟩
      · obtain ⟨N, rfl⟩ : ∃ k, N = k + 1 := ⟨N - 1, by omega⟩
        rw [f_H_takeSteps_L10, if_neg c1, a1, Option.bind_some, if_neg (show ¬ (1 : Int32) = 0 by decide)]
        simp only []
        rw [a2, Option.bind_some, jN_1]
        exact b1 N (by omega)
      · obtain ⟨N, rfl⟩ : ∃ k, N = k + 1 := ⟨N - 1, by omega⟩
        rw [f_Md_run_L50, if_neg c1, a3, Option.bind_some, if_neg (show ¬ (1 : Int32) = 0 by decide)]
        simp only [bnd]
        rw [jN_1, jN_1, b2 N (by omega), show k + 1 + (n' - (n + 1)) = k + (n' - n) by omega]
end RUN

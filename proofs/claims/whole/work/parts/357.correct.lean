/-! the movement: rows of the book: correct, trip -/
section COT
variable {S : List xSh} {Rf : Nat → Nat → Option Nat} {I J : Nat → Nat → Int32} {L K : Nat → Nat → Int64} {A T nc nw rr n s : Nat} {pc pw : Nat → Nat}
theorem s41 : ¬ (some (.inl 1) : Option xSh) = some (.inl 4) := by simp
theorem s48 : ¬ (some (.inl 8) : Option xSh) = some (.inl 4) := by simp
theorem s18 : ¬ (some (.inl 8) : Option xSh) = some (.inl 1) := by simp
theorem wi_b (a l h : Int32) : f_H_isWithin a l h = 0 ∨ f_H_isWithin a l h = 1 := by unfold f_H_isWithin; grind
theorem cs_di {w p : Nat} {x v : Int32} (hw : w < 8) (h : wDi p w I J) : f_Md_canShow (jN w) x v J K = some (f_Di_takes p x v I L) := by
  obtain ⟨h1, a, b, _, h2, h3, _, _⟩ := h
  have c2 : 0 ≤ jN w ∧ jN w < 8 := jN_in (n := 8) hw (by decide)
  have e : f_Md_within v.toInt64 0 (jN b - 1).toInt64 = f_H_isWithin v 0 (jN b - 1) := w_eq rfl rfl
  rw [f_Md_canShow, if_pos c2, jN_tc (by omega), if_pos h1, f_Di_takes, if_pos c2, h2, h3, e]
  simp only [bnd]
  by_cases q : x = 0
  · rw [if_pos q, if_pos q]
    by_cases z : f_H_isWithin v 0 (jN b - 1) = 0
    · rw [if_pos z, if_pos z]
    · rw [if_neg z, if_neg z]
  · rw [if_neg q, if_neg q]
theorem cs_ca {w p : Nat} {x v : Int32} (hw : w < 8) (h : J 42 w = 1) : f_Md_canShow (jN w) x v J K = f_Ca_takes p x v := by
  have c2 : 0 ≤ jN w ∧ jN w < 8 := jN_in (n := 8) hw (by decide)
  have e1 : f_Md_within v.toInt64 1 31 = f_H_isWithin v 1 31 := w_eq rfl rfl
  have e2 : f_Md_within v.toInt64 1 12 = f_H_isWithin v 1 12 := w_eq rfl rfl
  have e3 : f_Md_within v.toInt64 1 9999 = f_H_isWithin v 1 9999 := w_eq rfl rfl
  have e4 : f_Md_within v.toInt64 0 6 = f_H_isWithin v 0 6 := w_eq rfl rfl
  rw [f_Md_canShow, if_pos c2, jN_tc (by omega), if_neg (by rw [h]; decide), if_pos c2, if_pos h, f_Ca_takes, e1, e2, e3, e4]
  simp only [bnd]
  have e5 : (if f_H_isWithin v 0 6 = 0 then some (0 : Int32) else some 1) = if (f_H_isWithin v 0 6 = 0 ∨ f_H_isWithin v 0 6 = 1) then some (f_H_isWithin v 0 6) else none := by
    rw [if_pos (wi_b v 0 6)]
    rcases wi_b v 0 6 with q | q
    · rw [if_pos q, q]
    · rw [q, if_neg (by decide)]
  rw [e5]
theorem cs_st {w p : Nat} {x v : Int32} (hw : w < 8) (h : J 42 w = 2) : f_Md_canShow (jN w) x v J K = f_St_takes p x v := by
  have c2 : 0 ≤ jN w ∧ jN w < 8 := jN_in (n := 8) hw (by decide)
  have e2 : f_Md_within v.toInt64 1 12 = f_H_isWithin v 1 12 := w_eq rfl rfl
  have e4 : f_Md_within v.toInt64 0 1 = f_H_isWithin v 0 1 := w_eq rfl rfl
  have e5 : (if f_H_isWithin v 0 1 = 0 then some (0 : Int32) else some 1) = if (f_H_isWithin v 0 1 = 0 ∨ f_H_isWithin v 0 1 = 1) then some (f_H_isWithin v 0 1) else none := by
    rw [if_pos (wi_b v 0 1)]
    rcases wi_b v 0 1 with q | q
    · rw [if_pos q, q]
    · rw [q, if_neg (by decide)]
  rw [f_Md_canShow, if_pos c2, jN_tc (by omega), if_neg (by rw [h]; decide), if_pos c2, if_neg (by rw [h]; decide), f_St_takes, f_Md_canShow_L129, f_St_takes_L28, e2, e4]
  simp only [bnd]
  rw [e5]
theorem br_no {w : Nat} (hw : w < 8) (h : ¬ J 42 w = 1) : f_Md_isBarred (jN w) J K = some 0 := by
  have c2 : 0 ≤ jN w ∧ jN w < 8 := jN_in (n := 8) hw (by decide)
  rw [f_Md_isBarred, if_pos c2, jN_tc (by omega)]
  simp only [bnd]
  rw [if_pos c2, if_neg h]
theorem br_eq {w p a : Nat} (hw : w < 8) (hS : SPR I J L K A T) (ha : a < A) (h : J 42 w = 1) (h1 : I p 0 = jN a) (h2 : J 43 w = jN a) (h3 : I 1 12 = J 34 25) : f_H_isBarred_C p I L = f_Md_isBarred (jN w) J K := by
  have c2 : 0 ≤ jN w ∧ jN w < 8 := jN_in (n := 8) hw (by decide)
  have hA := hS.1.1
  have c1 : ¬ jN a < 0 := fun q => by have := (jN_lt (b := 0) (by omega) (by decide)).mp q; omega
  have c4 : ¬ (24 : Int32) ≤ jN a := fun q => by have := (jN_le (a := 24) (by decide) (by omega)).mp q; omega
  have c3 : 0 ≤ jN a ∧ jN a < 24 := jN_in (n := 24) (by omega) (by decide)
  rw [f_Md_isBarred, if_pos c2, jN_tc (by omega), h2]
  simp only [bnd]
  rw [if_pos c2, if_pos h, f_H_isBarred_C, h1, f_Ge_isNearTurn, if_neg c1, if_neg c4, if_pos c3, jN_tc (by omega)]
  by_cases z : L 4 a = 0
  · rw [pd_0 hS ha z, if_neg (by decide), Option.bind_some, if_pos rfl, kn_no hS ha z, Option.bind_some, if_pos rfl]
  · obtain ⟨e1, e2, e3, e4⟩ := pd_pos hS ha z
    obtain ⟨s1, s2, s3, s4, s5⟩ := sk_get (hS.2.1 a ha) z
    have c5 : (0 : Int64) < L 5 a := lg_lt.mpr (by rw [lg_0]; exact e2)
    have c6 : ¬ L 5 a = 0 := fun q => by rw [q, lg_0] at e2; omega
    rw [kn_yes hS ha z, Option.bind_some, if_neg (show ¬ (1 : Int32) = 0 by decide), if_pos c3, hS.1.2.2.2.2, ← e4, if_pos c3, if_pos c5, if_pos c3, if_pos c3, if_pos c6, if_pos c6, ← s1, h3]
    simp only [bnd]
    rw [if_pos c3]
    rw [Int64.mul_comm (lrem _ _) 4, Int64.mul_comm (L 5 a) 3]
    by_cases q : 4 * lrem (Jabs (L 3 a) * (J 34 25).toInt64) (L 5 a) < 3 * L 5 a
    · rw [if_pos q]; rfl
    · rw [if_neg q]; rfl
/-- a work can be corrected so -/
def TK (S : List xSh) (p : Nat) (x v : Int32) (I : Nat → Nat → Int32) (L : Nat → Nat → Int64) : Prop := (S[p]? = some (.inl 4) ∧ f_Di_takes p x v I L = 1) ∨ (S[p]? = some (.inl 1) ∧ f_Ca_takes p x v = some 1 ∧ f_H_isBarred_C p I L = some 0) ∨ (S[p]? = some (.inl 8) ∧ f_St_takes p x v = some 1)
theorem WK_upd {w : Nat} {I' J' : Nat → Nat → Int32} (ho : OBJ S Rf nc nw pc pw) (hk : WK S Rf A nw pw I J) (hw : w < nw) (f0 : I' 0 6 = I 0 6) (fI : ∀ a j, 75 ≤ a → a ≠ pw w → I' a j = I a j) (f34 : J' 34 16 = J 34 16) (fJ : ∀ j, ¬ (10 * w ≤ j ∧ j < 10 * w + 10) → J' 48 j = J 48 j) (fJ2 : ∀ a j, 42 ≤ a → a ≤ 46 → J' a j = J a j) (h : WR S Rf A (pw w) w I' J') : WK S Rf A nw pw I' J' := by
  refine ⟨by rw [f0]; exact hk.1, by rw [f34]; exact hk.2.1, hk.2.2.1, fun d hd => ?_⟩
  by_cases e : d = w
  · subst e; exact h
  · have e' : pw d ≠ pw w := fun q => e (ho.2.2.2 d w hd hw q)
    exact WR_ext (hk.2.2.2 d hd) (fun j => fI _ j (ho.2.1 d hd).2.1 e') (fun i hi => fJ _ (by omega)) (fun a q1 q2 => fJ2 a d q1 q2)
theorem put_ok {w : Nat} {x v : Int32} (ho : OBJ S Rf nc nw pc pw) (hk : WK S Rf A nw pw I J) (hw : w < nw) (ht : TK S (pw w) x v I L) : ∃ I' i, f_H_putRight S Rf (jN w) x v I L = some (0, I', L) ∧ (x = jN i ∧ i < 4) ∧ WK S Rf A nw pw I' (uI (uI J 48 (10 * w + i) v) 48 (10 * w + 7) 1) ∧ ∀ a j, a ≠ pw w → I' a j = I a j := by
  have h8 := hk.2.2.1
  obtain ⟨g1, g2, g3⟩ := hk.2.2.2 w hw
  have p75 := (ho.2.1 w hw).2.1
  have pr : f_H_putRight S Rf (jN w) x v I L = (if S[pw w]? = some (.inl 4) then ((f_Di_put (pw w) x v I L).bind fun q6 => (some ((0 : Int32), q6.1, q6.2))) else (if S[pw w]? = some (.inl 1) then ((f_Ca_put (pw w) x v I L).bind fun q9 => (some ((0 : Int32), q9.1, q9.2))) else (if S[pw w]? = some (.inl 8) then ((f_St_put (pw w) x v I L).bind fun q12 => (some ((0 : Int32), q12.1, q12.2))) else none))) := by
    rw [f_H_putRight, (wAt (L := L) (K := L) ho hk hw).1, Option.bind_some]
    rfl
  have up : ∀ (I' : Nat → Nat → Int32) (i : Nat), i < 4 → (∀ a j, a ≠ pw w → I' a j = I a j) → WR S Rf A (pw w) w I' (uI (uI J 48 (10 * w + i) v) 48 (10 * w + 7) 1) → WK S Rf A nw pw I' (uI (uI J 48 (10 * w + i) v) 48 (10 * w + 7) 1) := by
    intro I' i hi f hW
    refine WK_upd ho hk hw (f 0 6 (by omega)) (fun a j _ q => f a j q) (by simp [uI]) (fun j hj => ?_) (fun a j q1 q2 => ?_) hW
    · have n1 : j ≠ 10 * w + i := by omega
      have n2 : j ≠ 10 * w + 7 := by omega
      simp [uI, n1, n2]
    · have : a ≠ 48 := by omega
      simp [uI, this]
  generalize hp : pw w = p at *
  obtain ⟨a0, ha0, i0, j0⟩ := g1
  have l0 : (10 * w ≠ 10 * w + 7) := by omega
  rcases ht with ⟨t1, t2⟩ | ⟨t1, t2, _⟩ | ⟨t1, t2⟩
  · rw [t1] at g3
    obtain ⟨k1, a, b, k2, k3, k4, k5, k6⟩ : wDi p w I J := by
      rcases g3 with h | h | h
      · exact h.2
      · exact absurd h.1.symm s41
      · exact absurd h.1.symm s48
    have hx : x = 0 ∧ ∃ c, c < b ∧ v = jN c := by
      unfold f_Di_takes bnd at t2
      by_cases q : x = 0
      · refine ⟨q, ?_⟩
        rw [if_pos q, k3] at t2
        simp only [] at t2
        by_cases z : f_H_isWithin v 0 (jN b - 1) = 0
        · rw [if_pos z] at t2; exact absurd t2 (by decide)
        · exact Classical.not_not.mp (fun q => z ((win_n (by omega)).mpr q))
      · rw [if_neg q] at t2; exact absurd t2 (by decide)
    obtain ⟨rfl, c, c1, rfl⟩ := hx
    refine ⟨uI I p 3 (jN c), 0, ?_, ⟨rfl, by decide⟩, ?_, fun a j q => by simp [uI, q]⟩
    · rw [pr, if_pos t1, f_Di_put, Option.bind_some]
    · refine up _ 0 (by decide) (fun a j q => by simp [uI, q]) ⟨⟨a0, ha0, by simp [uI, i0], by simp [uI, j0]⟩, by simp [uI, g2], Or.inl ⟨t1, by simp [uI, k1], c, b, ⟨c1, k2.2⟩, by simp [uI, k3], by simp [uI, k4], by simp [uI], by simp [uI, l0]⟩⟩
  · rw [t1] at g3
    obtain ⟨k1, k2, ⟨k3, k4, k5, k6⟩, ⟨M, Y, V, m1, m2, m3, m4, m5, m6⟩, k7, k8, k9, k10⟩ : wCa p w I J := by
      rcases g3 with h | h | h
      · exact absurd h.1 s41
      · exact h.2
      · exact absurd h.1.symm s18
    have fin : ∀ i f : Nat, i < 4 → f = 6 + i → x = jN i → f_Ca_put p x v I L = some (uI I p f v, L) → (i = 1 → ∃ k, v = jN k ∧ 1 ≤ k ∧ k ≤ 12) → (i = 2 → ∃ k, v = jN k ∧ 1 ≤ k ∧ k ≤ 9999) → (i = 3 → ∃ k, v = jN k ∧ k ≤ 6) → ∃ I' i, f_H_putRight S Rf (jN w) x v I L = some (0, I', L) ∧ (x = jN i ∧ i < 4) ∧ WK S Rf A nw pw I' (uI (uI J 48 (10 * w + i) v) 48 (10 * w + 7) 1) ∧ ∀ a j, a ≠ p → I' a j = I a j := by
      intro i f hi hf hx hput h1 h2 h3
      refine ⟨uI I p f v, i, ?_, ⟨hx, hi⟩, ?_, fun a j q => by simp [uI, q]⟩
      · rw [pr, t1, if_neg s41, if_pos rfl, hput, Option.bind_some]
      · refine up _ i hi (fun a j q => by simp [uI, q]) ?_
        subst hf
        have o : ∀ e, e ≠ 6 + i → (uI I p (6 + i) v) p e = I p e := fun e he => by simp [uI, he]
        have oJ : ∀ a e, a ≠ 48 → (uI (uI J 48 (10 * w + i) v) 48 (10 * w + 7) 1) a e = J a e := fun a e he => by simp [uI, he]
        have o48 : ∀ e, e ≠ i → e ≠ 7 → (uI (uI J 48 (10 * w + i) v) 48 (10 * w + 7) 1) 48 (10 * w + e) = J 48 (10 * w + e) := fun e h1 h2 => by simp [uI, h1, h2]
        have oi : (uI (uI J 48 (10 * w + i) v) 48 (10 * w + 7) 1) 48 (10 * w + i) = v := by
          have : i ≠ 7 := by omega
          simp [uI, this]
        have o7 : (uI (uI J 48 (10 * w + i) v) 48 (10 * w + 7) 1) 48 (10 * w + 7) = 1 := by simp [uI]
        have of' : (uI I p (6 + i) v) p (6 + i) = v := by simp [uI]
        generalize uI (uI J 48 (10 * w + i) v) 48 (10 * w + 7) 1 = J' at *
        generalize uI I p (6 + i) v = I' at *
        have eq : ∀ e, e < 4 → I p (6 + e) = J 48 (10 * w + e) → I' p (6 + e) = J' 48 (10 * w + e) := fun e he q => by
          by_cases z : e = i
          · subst z; rw [of', oi]
          · rw [o _ (by omega), o48 e z (by omega)]; exact q
        refine ⟨⟨a0, ha0, by rw [o 0 (by omega)]; exact i0, by rw [oJ 43 w (by decide)]; exact j0⟩, by rw [o 1 (by omega), o48 6 (by omega) (by decide)]; exact g2, Or.inr (Or.inl ⟨t1, by rw [oJ 42 w (by decide)]; exact k1, by rw [o 2 (by omega), oJ 44 w (by decide)]; exact k2, ⟨eq 0 (by decide) k3, eq 1 (by decide) k4, eq 2 (by decide) k5, eq 3 (by decide) k6⟩, ?_, by rw [o48 4 (by omega) (by decide), o 10 (by omega), o 11 (by omega), o 12 (by omega)]; exact k7, by rw [o 13 (by omega), o48 5 (by omega) (by decide)]; exact k8, fun _ q => by rw [o7] at q; exact absurd q (by decide), by rw [oJ 46 w (by decide), o 3 (by omega), o 4 (by omega), o 5 (by omega)]; exact k10⟩)⟩
        have : i = 0 ∨ i = 1 ∨ i = 2 ∨ i = 3 := by omega
        rcases this with rfl | rfl | rfl | rfl
        · exact ⟨M, Y, V, m1, m2, m3, by rw [o 7 (by decide)]; exact m4, by rw [o 8 (by decide)]; exact m5, by rw [o 9 (by decide)]; exact m6⟩
        · obtain ⟨k, q1, q2⟩ := h1 rfl
          exact ⟨k, Y, V, q2, m2, m3, of'.trans q1, by rw [o 8 (by decide)]; exact m5, by rw [o 9 (by decide)]; exact m6⟩
        · obtain ⟨k, q1, q2⟩ := h2 rfl
          exact ⟨M, k, V, m1, q2, m3, by rw [o 7 (by decide)]; exact m4, of'.trans q1, by rw [o 9 (by decide)]; exact m6⟩
        · obtain ⟨k, q1, q2⟩ := h3 rfl
          exact ⟨M, Y, k, m1, m2, q2, by rw [o 7 (by decide)]; exact m4, by rw [o 8 (by decide)]; exact m5, of'.trans q1⟩
    have one : ∀ {l h : Int32}, (if (f_H_isWithin v l h = 0 ∨ f_H_isWithin v l h = 1) then some (f_H_isWithin v l h) else none) = some 1 → l ≤ v ∧ v ≤ h := by
      intro l h q
      rw [if_pos (wi_b v l h)] at q
      exact wi_ne.mp (by rw [Option.some.inj q]; decide)
    unfold f_Ca_takes bnd at t2
    by_cases x0 : x = 0
    · exact fin 0 6 (by decide) rfl x0 (by rw [f_Ca_put, if_pos x0]) (fun q => absurd q (by decide)) (fun q => absurd q (by decide)) (fun q => absurd q (by decide))
    · rw [if_neg x0] at t2
      by_cases x1 : x = 1
      · rw [if_pos x1] at t2
        exact fin 1 7 (by decide) rfl x1 (by rw [f_Ca_put, if_neg x0, if_pos x1]) (fun _ => ra (a := 1) (b := 12) (one t2) (by decide) (by decide)) (fun q => absurd q (by decide)) (fun q => absurd q (by decide))
      · rw [if_neg x1] at t2
        by_cases x2 : x = 2
        · rw [if_pos x2] at t2
          exact fin 2 8 (by decide) rfl x2 (by rw [f_Ca_put, if_neg x0, if_neg x1, if_pos x2]) (fun q => absurd q (by decide)) (fun _ => ra (a := 1) (b := 9999) (one t2) (by decide) (by decide)) (fun q => absurd q (by decide))
        · rw [if_neg x2] at t2
          by_cases x3 : x = 3
          · rw [if_pos x3] at t2
            refine fin 3 9 (by decide) rfl x3 (by rw [f_Ca_put, if_neg x0, if_neg x1, if_neg x2, if_pos x3]) (fun q => absurd q (by decide)) (fun q => absurd q (by decide)) (fun _ => ?_)
            obtain ⟨k, q1, _, q2⟩ := ra (a := 0) (b := 6) (one t2) (by decide) (by decide)
            exact ⟨k, q1, q2⟩
          · rw [if_neg x3] at t2
            exact absurd t2 (by decide)
  · rw [t1] at g3
    obtain ⟨k1, k2, k3, k4, ⟨k5, k6, k7⟩, a, b, m1, m2, m3, m4⟩ : wSt Rf p w I J := by
      rcases g3 with h | h | h
      · exact absurd h.1 s48
      · exact absurd h.1 s18
      · exact h.2
    have fin : ∀ i f : Nat, i < 3 → f = 5 + i → x = jN i → f_St_put p x v I L = some (uI I p f v, L) → (i < 2 → ∃ k, v = jN k ∧ 1 ≤ k ∧ k ≤ 12) → (i = 2 → v = 0 ∨ v = 1) → ∃ I' i, f_H_putRight S Rf (jN w) x v I L = some (0, I', L) ∧ (x = jN i ∧ i < 4) ∧ WK S Rf A nw pw I' (uI (uI J 48 (10 * w + i) v) 48 (10 * w + 7) 1) ∧ ∀ a j, a ≠ p → I' a j = I a j := by
      intro i f hi hf hx hput h1 h2
      refine ⟨uI I p f v, i, ?_, ⟨hx, by omega⟩, ?_, fun a j q => by simp [uI, q]⟩
      · rw [pr, t1, if_neg s48, if_neg s18, if_pos rfl, hput, Option.bind_some]
      · refine up _ i (by omega) (fun a j q => by simp [uI, q]) ?_
        subst hf
        have o : ∀ e, e ≠ 5 + i → (uI I p (5 + i) v) p e = I p e := fun e he => by simp [uI, he]
        have oJ : ∀ a e, a ≠ 48 → (uI (uI J 48 (10 * w + i) v) 48 (10 * w + 7) 1) a e = J a e := fun a e he => by simp [uI, he]
        have o48 : ∀ e, e ≠ i → e ≠ 7 → (uI (uI J 48 (10 * w + i) v) 48 (10 * w + 7) 1) 48 (10 * w + e) = J 48 (10 * w + e) := fun e h1 h2 => by simp [uI, h1, h2]
        have oi : (uI (uI J 48 (10 * w + i) v) 48 (10 * w + 7) 1) 48 (10 * w + i) = v := by
          have : i ≠ 7 := by omega
          simp [uI, this]
        have of' : (uI I p (5 + i) v) p (5 + i) = v := by simp [uI]
        generalize uI (uI J 48 (10 * w + i) v) 48 (10 * w + 7) 1 = J' at *
        generalize uI I p (5 + i) v = I' at *
        have eq : ∀ e, e < 3 → I p (5 + e) = J 48 (10 * w + e) → I' p (5 + e) = J' 48 (10 * w + e) := fun e he q => by
          by_cases z : e = i
          · subst z; rw [of', oi]
          · rw [o _ (by omega), o48 e z (by omega)]; exact q
        have k7' : I' p 7 = 0 ∨ I' p 7 = 1 := by
          by_cases z : i = 2
          · subst z
            have e7 : I' p 7 = v := of'
            rw [e7]; exact h2 rfl
          · rw [o 7 (by omega)]; exact k4
        refine ⟨⟨a0, ha0, by rw [o 0 (by omega)]; exact i0, by rw [oJ 43 w (by decide)]; exact j0⟩, by rw [o 1 (by omega), o48 6 (by omega) (by decide)]; exact g2, Or.inr (Or.inr ⟨t1, by rw [oJ 42 w (by decide)]; exact k1, by rw [o 2 (by omega), oJ 44 w (by decide)]; exact k2, by rw [o 2 (by omega)]; exact k3, k7', ⟨eq 0 (by decide) k5, eq 1 (by decide) k6, eq 2 (by decide) k7⟩, ?_⟩)⟩
        have : i = 0 ∨ i = 1 ∨ i = 2 := by omega
        rcases this with rfl | rfl | rfl
        · obtain ⟨k, q1, q2⟩ := h1 (by decide)
          exact ⟨k, b, q2, m2, of'.trans q1, by rw [o 6 (by decide)]; exact m4⟩
        · obtain ⟨k, q1, q2⟩ := h1 (by decide)
          exact ⟨a, k, m1, q2, by rw [o 5 (by decide)]; exact m3, of'.trans q1⟩
        · exact ⟨a, b, m1, m2, by rw [o 5 (by decide)]; exact m3, by rw [o 6 (by decide)]; exact m4⟩
    have one : (if (f_H_isWithin v 1 12 = 0 ∨ f_H_isWithin v 1 12 = 1) then some (f_H_isWithin v 1 12) else none) = some 1 → ∃ k, v = jN k ∧ 1 ≤ k ∧ k ≤ 12 := by
      intro q
      rw [if_pos (wi_b v 1 12)] at q
      have q' : ¬ f_H_isWithin v 1 12 = 0 := by rw [Option.some.inj q]; decide
      exact ra (a := 1) (b := 12) (wi_ne.mp q') (by decide) (by decide)
    have two : (if (f_H_isWithin v 0 1 = 0 ∨ f_H_isWithin v 0 1 = 1) then some (f_H_isWithin v 0 1) else none) = some 1 → v = 0 ∨ v = 1 := by
      intro q
      rw [if_pos (wi_b v 0 1)] at q
      have q' : ¬ f_H_isWithin v 0 1 = 0 := by rw [Option.some.inj q]; decide
      obtain ⟨k, k1, k2, k3⟩ := ra (a := 0) (b := 1) (wi_ne.mp q') (by decide) (by decide)
      have : k = 0 ∨ k = 1 := by omega
      rcases this with rfl | rfl
      · exact Or.inl k1
      · exact Or.inr k1
    unfold f_St_takes f_St_takes_L28 bnd at t2
    by_cases x0 : x = 0
    · rw [if_pos x0] at t2
      exact fin 0 5 (by decide) rfl x0 (by rw [f_St_put, if_pos x0]) (fun _ => one t2) (fun q => absurd q (by decide))
    · rw [if_neg x0] at t2
      by_cases x1 : x = 1
      · rw [if_pos x1] at t2
        exact fin 1 6 (by decide) rfl x1 (by rw [f_St_put, if_neg x0, if_pos x1]) (fun _ => one t2) (fun q => absurd q (by decide))
      · rw [if_neg x1] at t2
        by_cases x2 : x = 2
        · rw [if_pos x2] at t2
          exact fin 2 7 (by decide) rfl x2 (by rw [f_St_put, if_neg x0, if_neg x1, if_pos x2]) (fun q => absurd q (by decide)) (fun _ => two t2)
        · rw [if_neg x2] at t2
          exact absurd t2 (by decide)
theorem TK_J {w : Nat} {x v : Int32} (h : MV S Rf A T nc nw pc pw rr n s I J L K) (hw : w < nw) (ht : TK S (pw w) x v I L) : f_Md_canShow (jN w) x v J K = some 1 ∧ f_Md_isBarred (jN w) J K = some 0 := by
  have hk := h.2.2.2.2.2.2.2.1
  have h8 := hk.2.2.1
  obtain ⟨⟨a, ha, i0, j0⟩, g2, g3⟩ := hk.2.2.2 w hw
  rcases ht with ⟨t1, t2⟩ | ⟨t1, t2, t3⟩ | ⟨t1, t2⟩
  · rw [t1] at g3
    have k : wDi (pw w) w I J := by
      rcases g3 with h | h | h
      · exact h.2
      · exact absurd h.1.symm s41
      · exact absurd h.1.symm s48
    refine ⟨by rw [cs_di (L := L) (by omega) k, t2], br_no (by omega) (by rw [k.1]; decide)⟩
  · rw [t1] at g3
    have k : wCa (pw w) w I J := by
      rcases g3 with h | h | h
      · exact absurd h.1 s41
      · exact h.2
      · exact absurd h.1.symm s18
    refine ⟨by rw [cs_ca (by omega) k.1]; exact t2, ?_⟩
    rw [← br_eq (by omega) h.2.2.1 ha k.1 i0 j0 (by rw [h.1.2.1.1, h.1.2.1.2.1])]
    exact t3
  · rw [t1] at g3
    have k : wSt Rf (pw w) w I J := by
      rcases g3 with h | h | h
      · exact absurd h.1 s48
      · exact absurd h.1 s18
      · exact h.2
    exact ⟨by rw [cs_st (by omega) k.1]; exact t2, br_no (by omega) (by rw [k.1]; decide)⟩
theorem cr_correct {w : Nat} {x v : Int32} (h : MV S Rf A T nc nw pc pw rr n s I J L K) (hg : ¬ J 34 24 = 0) (hb : BKOK J) (hw : w < nw) (ht : TK S (pw w) x v I L) : CR S Rf A T nc nw pc pw rr (f_H_putRight S Rf (jN w) x v I L) (f_Md_correct (jN w) x v J K) 4 (jN w) x v I J L K := by
  have ho := h.2.2.2.2.2.1
  have hc := h.2.2.2.2.2.2.1
  have hk := h.2.2.2.2.2.2.2.1
  have h8 := hk.2.2.1
  obtain ⟨I', i, a1, ⟨rfl, a3⟩, a4, a5⟩ := put_ok ho hk hw ht
  obtain ⟨b1, b2⟩ := TK_J h hw ht
  have p75 := (ho.2.1 w hw).2.1
  have fJ' : ∀ a j, a ≠ 48 → (uI (uI J 48 (10 * w + i) v) 48 (10 * w + 7) 1) a j = J a j := fun a j q => by simp [uI, q]
  have fJ : FJ2 J (uI (uI J 48 (10 * w + i) v) 48 (10 * w + 7) 1) := fun a j q _ _ _ _ _ _ _ => fJ' a j q
  obtain ⟨J'', w1, w2⟩ := wr_ok (K := K) 4 (jN w) (jN i) v (BK_2 hb fJ)
  refine ⟨0, n, s, I', _, J'', L, K, a1, ?_, w2, MV_set h ?_ a4 ?_ (fun a j ha => a5 a j (by omega)) (fun j hj => fJ' 34 j (by decide)) (fun a j ha => fJ' a j (by omega)), fun a j q1 _ _ _ _ _ => a5 a j (by omega), fJ, fun _ _ _ => rfl, fun _ _ _ => rfl⟩
  · have e1 : (10 : Int32) * jN w + jN i = jN (10 * w + i) := by rw [x10, i10]
    have e2 : (10 : Int32) * jN w + 7 = jN (10 * w + 7) := by rw [x10]; exact i10 w 7
    rw [f_Md_correct, (wAt (L := L) (K := K) ho hk hw).2, Option.bind_some, if_neg (by decide), b1, Option.bind_some, if_neg (by decide), if_neg hg, b2, Option.bind_some, if_pos rfl, if_pos (bf_0 hb), e1, e2, if_pos (r80 (by omega) (by omega)), if_pos (r80 (by omega) (by omega)), t80 (by omega) (by omega), t80 (by omega) (by omega), w1, Option.bind_some]
  · exact CK_ext hc (a5 0 7 (by omega)) (fun c hc' j => a5 _ j (obj_ne ho hc' hw)) (fJ' 34 22 (by decide)) (fun a i q => fJ' a i (by omega))
  · exact STK_w (STK_ext h.2.2.2.2.2.2.2.2.1 (a5 13 3 (by omega)) (a5 13 0 (by omega)) (a5 13 1 (by omega)) (fJ' 34 40 (by decide)) (fun j => a5 14 j (by omega)) (fun j => fJ' 54 j (by decide))) (by omega)
theorem cr_trip {w : Nat} (h : MV S Rf A T nc nw pc pw rr n s I J L K) (hr : rr ≤ 2000) (hg : ¬ J 34 24 = 0) (hb : BKOK J) (hw : w < nw) (ht : S[pw w]? = some (.inl 8)) : CR S Rf A T nc nw pc pw rr (f_H_strikeNow S Rf (jN w) I L) (f_Md_trip (jN w) J K) 5 (jN w) 0 0 I J L K := by
  have ho := h.2.2.2.2.2.1
  have hc := h.2.2.2.2.2.2.1
  have hk := h.2.2.2.2.2.2.2.1
  have h8 := hk.2.2.1
  have hn := h.2.1.1.1
  have p75 := (ho.2.1 w hw).2.1
  obtain ⟨⟨a, ha, i0, j0⟩, g2, g3⟩ := hk.2.2.2 w hw
  rw [ht] at g3
  have k : wSt Rf (pw w) w I J := by
    rcases g3 with h | h | h
    · exact absurd h.1 s48
    · exact absurd h.1 s18
    · exact h.2
  obtain ⟨x, I', J', a1, a2, a3, a4, a5, a6⟩ := snd_ok (L := L) (K := K) p75 (by omega) h.1.2.1.1 h.1.2.1.2.1 k h.2.2.2.2.2.2.2.2.1 (by omega)
  have fJ : FJ2 J J' := fun a j q1 _ _ _ _ _ q2 q3 => a6 a j (fun q => q1 q.1) q2 (fun q => q3 ⟨q.1, Or.inr (Or.inl q.2)⟩)
  obtain ⟨J'', w1, w2⟩ := wr_ok (K := K) 5 (jN w) 0 0 (BK_2 hb fJ)
  have gI : ∀ a j, a ≠ pw w → a ≠ 14 → ¬ (a = 13 ∧ j = 3) → I' a j = I a j := fun a j q1 q2 q3 => a5 a j (fun q => q1 q.1) q2 q3
  have gJ : ∀ a j, a ≠ 48 → a ≠ 54 → ¬ (a = 34 ∧ j = 40) → J' a j = J a j := fun a j q1 q2 q3 => a6 a j (fun q => q1 q.1) q2 q3
  refine ⟨x, n, s, I', J', J'', L, K, ?_, ?_, w2, MV_set h ?_ ?_ ?_ (fun a j ha => gI a j (by omega) (by omega) (by omega)) (fun j hj => gJ 34 j (by decide) (by decide) (by omega)) (fun a j ha => gJ a j (by omega) (by omega) (by omega)), fun a j q1 q2 q3 q4 q5 q6 => gI a j (by omega) q3 q6, fJ, fun _ _ _ => rfl, fun _ _ _ => rfl⟩
  · rw [f_H_strikeNow, (wAt (L := L) (K := K) ho hk hw).1, Option.bind_some]
    simp only [oc]
    rw [ht, if_neg s48, if_neg s18, if_pos rfl, a1, Option.bind_some]
  · have c2 : 0 ≤ jN w ∧ jN w < 8 := jN_in (n := 8) (by omega) (by decide)
    rw [f_Md_trip, (wAt (L := L) (K := K) ho hk hw).2, Option.bind_some, if_neg (by decide), if_pos c2, jN_tc (by omega), if_pos k.1, if_neg hg, if_pos (bf_0 hb), a2, Option.bind_some]
    simp only []
    rw [w1, Option.bind_some]
  · exact CK_ext hc (gI 0 7 (by omega) (by decide) (by decide)) (fun c hc' j => gI _ j (obj_ne ho hc' hw) (by have := (ho.1 c hc').2.2; omega) (by have := (ho.1 c hc').2.2; omega)) (gJ 34 22 (by decide) (by decide) (by decide)) (fun a i q => gJ a i (by omega) (by omega) (by omega))
  · refine WK_upd ho hk hw (gI 0 6 (by omega) (by decide) (by decide)) (fun a j q1 q2 => gI a j q2 (by omega) (by omega)) (gJ 34 16 (by decide) (by decide) (by decide)) (fun j hj => a6 48 j (by omega) (by decide) (by omega)) (fun a j q1 q2 => gJ a j (by omega) (by omega) (by omega)) ⟨⟨a, ha, by rw [a5 _ 0 (by omega) (by omega) (by omega)]; exact i0, by rw [gJ 43 w (by decide) (by decide) (by omega)]; exact j0⟩, by rw [a5 _ 1 (by omega) (by omega) (by omega), a6 48 _ (by omega) (by decide) (by omega)]; exact g2, Or.inr (Or.inr ⟨ht, a3⟩)⟩
  · rw [show 8 * n + (rr + 1) = 8 * n + rr + 1 by omega]
    exact a4
end COT

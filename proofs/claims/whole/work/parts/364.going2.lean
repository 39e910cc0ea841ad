/-! a movement that goes: press, correct, trip, back -/
section GOJ
variable {S : List xSh} {Rf : Nat → Nat → Option Nat} {I J : Nat → Nat → Int32} {L K : Nat → Nat → Int64} {A A0 T nl nc nw k r n s : Nat} {pc pw : Nat → Nat}
theorem b3_of {b : Int32} (h : ¬ f_H_isWithin b 0 2 = 0) : b = 0 ∨ b = 1 ∨ b = 2 := by
  obtain ⟨h1, h2⟩ := wi_ne.mp h
  obtain ⟨m, hm, rfl⟩ := jN_ex (n := 2) h1 h2 (by decide)
  have : m = 0 ∨ m = 1 ∨ m = 2 := by omega
  rcases this with rfl | rfl | rfl
  · exact Or.inl rfl
  · exact Or.inr (Or.inl rfl)
  · exact Or.inr (Or.inr rfl)
/-- the reference's press, seen from the class -/
theorem pr_head {c : Nat} {b : Int32} (hk : CK nc pc I J) (hc : c < nc) (hb : ¬ f_H_isWithin b 0 2 = 0) : (f_Cr_gives (pc c) b I L = 0 → f_Md_press (jN c) b J K = some (-2, J, K)) ∧ (¬ f_Cr_gives (pc c) b I L = 0 → f_Md_press (jN c) b J K = f_Md_press_L114 b (jN c) (J 49 c) (J 52 c) 1 J K) := by
  obtain ⟨k1, k2, k3, k4⟩ := id hk
  obtain ⟨r0, r1, r2, r3, r4, r5, r6⟩ := id (k4 c hc)
  have c2 : 0 ≤ jN c ∧ jN c < 4 := jN_in (n := 4) (by omega) (by decide)
  have tc := jN_tc (k := c) (by omega)
  have e : f_Md_within (jN c).toInt64 0 (jN nc - 1).toInt64 = f_H_isWithin (jN c) 0 (jN nc - 1) := w_eq rfl rfl
  have eb : f_Md_within b.toInt64 0 2 = f_H_isWithin b 0 2 := w_eq rfl rfl
  have y := win_y (c := c) (n := nc) (by omega) hc
  have h0 : f_Md_press_L113 b (jN c) (J 49 c) (J 52 c) J K = some (-2, J, K) := by
    rw [f_Md_press_L113, f_Md_press_L114]
    by_cases z : J 34 24 = 0
    · rw [if_pos z]
    · rw [if_neg z, if_pos rfl]
  generalize hp : pc c = p at *
  have head : f_Md_press (jN c) b J K = (if b = 0 then (f_Md_press_L109 b (jN c) (J 49 c) (J 52 c) J K) else (if b = 1 then (if J 52 c = 0 then (if J 49 c = 2 then (f_Md_press_L109 b (jN c) (J 49 c) (J 52 c) J K) else (if J 49 c = 1 then (if J 47 c = 1 then (f_Md_press_L109 b (jN c) (J 49 c) (J 52 c) J K) else (f_Md_press_L84 b (jN c) (J 49 c) (J 52 c) J K)) else (f_Md_press_L84 b (jN c) (J 49 c) (J 52 c) J K))) else (f_Md_press_L84 b (jN c) (J 49 c) (J 52 c) J K)) else (f_Md_press_L84 b (jN c) (J 49 c) (J 52 c) J K))) := by
    rw [f_Md_press, k2, e, eb]
    simp only [bnd]
    rw [if_neg y, if_neg hb, if_pos c2, if_pos c2, if_pos c2, tc]
  rw [← r0, ← r1, ← r3] at head
  rw [← r1, ← r3] at h0
  have h84 : ¬ b = 2 → f_Md_press_L84 b (jN c) (I p 1) (I p 4) J K = some (-2, J, K) := fun z => by rw [f_Md_press_L84, if_neg z]; exact h0
  have h842 : b = 2 → f_Md_press_L84 b (jN c) (I p 1) (I p 4) J K = if I p 0 = 2 then (if I p 4 = 0 then (if I p 1 ≤ 0 then some (-2, J, K) else f_Md_press_L109 b (jN c) (I p 1) (I p 4) J K) else f_Md_press_L109 b (jN c) (I p 1) (I p 4) J K) else some (-2, J, K) := fun z => by
    rw [f_Md_press_L84, if_pos z, if_pos c2, tc, ← r0, h0]
  have le0 : I p 1 ≤ 0 ↔ I p 1 = 0 := by rcases r5 with q | q | q <;> rw [q] <;> decide
  rw [← r1, ← r3]
  have h109 : f_Md_press_L109 b (jN c) (I p 1) (I p 4) J K = f_Md_press_L114 b (jN c) (I p 1) (I p 4) 1 J K := rfl
  rw [head, ← h109]
  unfold f_Cr_gives
  rcases b3_of hb with rfl | rfl | rfl
  · rw [if_pos rfl, if_pos rfl]
    exact ⟨fun q => absurd q (by decide), fun _ => rfl⟩
  · rw [if_neg (by decide), if_pos rfl, if_neg (show ¬ (1 : Int32) = 0 by decide), if_pos (rfl : (1 : Int32) = 1), h84 (by decide)]
    by_cases z4 : I p 4 = 0
    · rw [if_pos z4, if_pos z4]
      by_cases z2 : I p 1 = 2
      · rw [if_pos z2, if_pos z2]
        exact ⟨fun q => absurd q (by decide), fun _ => rfl⟩
      · rw [if_neg z2, if_neg z2]
        by_cases z1 : I p 1 = 1
        · rw [if_pos z1, if_pos z1]
          by_cases z0 : I p 0 = 1
          · rw [if_pos z0, if_pos z0]
            exact ⟨fun q => absurd q (by decide), fun _ => rfl⟩
          · rw [if_neg z0, if_neg z0]
            exact ⟨fun _ => rfl, fun q => absurd rfl q⟩
        · rw [if_neg z1, if_neg z1]
          exact ⟨fun _ => rfl, fun q => absurd rfl q⟩
    · rw [if_neg z4, if_neg z4]
      exact ⟨fun _ => rfl, fun q => absurd rfl q⟩
  · have n0 : ¬ (2 : Int32) = 0 := by decide
    have n1 : ¬ (2 : Int32) = 1 := by decide
    rw [if_neg n0, if_neg n1, if_pos rfl, if_neg n0, if_neg n1, h842 rfl]
    by_cases z0 : I p 0 = 2
    · rw [if_pos z0, if_pos z0]
      by_cases z4 : I p 4 = 0
      · rw [if_pos z4, if_pos z4]
        by_cases z1 : I p 1 = 0
        · rw [if_pos z1, if_pos (le0.mpr z1)]
          exact ⟨fun _ => rfl, fun q => absurd rfl q⟩
        · rw [if_neg z1, if_neg (fun q => z1 (le0.mp q))]
          exact ⟨fun q => absurd q (by decide), fun _ => rfl⟩
      · rw [if_neg z4, if_neg z4]
        exact ⟨fun q => absurd q (by decide), fun _ => rfl⟩
    · rw [if_neg z0, if_neg z0]
      exact ⟨fun _ => rfl, fun q => absurd rfl q⟩
theorem op_press {a0 a1 : Int32} (h : MOV k S Rf I J L K) : RES (k + 1) S Rf (f_H_press S Rf a0 a1 I L) (f_Md_press a0 a1 J K) := by
  obtain ⟨h1, h2, ⟨h3, h4⟩, A, A0, T, nl, nc, nw, pc, pw, r, n, s, g1, g2, g3, g4, g5⟩ := id h
  have ho := g2.2.2.2.2.1
  have hk := g2.2.2.2.2.2.1
  have h4' := hk.2.2.1
  have e : f_Md_within a1.toInt64 0 2 = f_H_isWithin a1 0 2 := w_eq rfl rfl
  by_cases hc : ∃ c, c < nc ∧ a0 = jN c
  · obtain ⟨c, hc, rfl⟩ := hc
    have ec : f_Md_within (jN c).toInt64 0 (jN nc - 1).toInt64 = f_H_isWithin (jN c) 0 (jN nc - 1) := w_eq rfl rfl
    have y := win_y (c := c) (n := nc) (by omega) hc
    have hd : f_H_press S Rf (jN c) a1 I L = (if f_H_isWithin a1 0 2 = 0 then (some ((-1 : Int32), I, L)) else (if (I 0 8) = (0 : Int32) then (some ((-2 : Int32), I, L)) else (if (f_Cr_gives (pc c) a1 I L) = (0 : Int32) then (some ((-2 : Int32), I, L)) else ((f_H_enter (3 : Int32) (jN c) a1 (0 : Int32) I L).bind fun q10 => (if q10.1 = (0 : Int32) then (some ((-3 : Int32), q10.2.1, q10.2.2)) else ((f_Cr_push (pc c) a1 q10.2.1 q10.2.2).bind fun q13 => (some (q13.1, q13.2.1, q13.2.2)))))))) := by
      rw [f_H_press, cAt ho hk hc, Option.bind_some]
      simp only [oc, bnd]
      rw [if_pos (ho.1 c hc).2.1]
    by_cases w : f_H_isWithin a1 0 2 = 0
    · refine RES.nop h (by rw [hd, if_pos w]) ?_
      rw [f_Md_press, hk.2.1, ec, e]
      simp only [bnd]
      rw [if_neg y, if_pos w]
    · obtain ⟨p1, p2⟩ := pr_head (L := L) (K := K) hk hc w
      by_cases z : f_Cr_gives (pc c) a1 I L = 0
      · refine RES.nop h ?_ (p1 z)
        rw [hd, if_neg w, if_pos z]
        by_cases q : I 0 8 = 0
        · rw [if_pos q]
        · rw [if_neg q]
      · have p2 := p2 z
        rcases h4 with hg | hg
        · refine RES.nop h (by rw [hd, if_neg w, if_pos hg]) ?_
          rw [p2, f_Md_press_L114, if_pos (by rw [← h3]; exact hg)]
        · obtain ⟨q1, q2, q3⟩ := g5 hg
          have n0 : ¬ I 0 8 = 0 := by rw [hg]; decide
          have m0 : ¬ J 34 24 = 0 := by rw [← h3]; exact n0
          by_cases hr : r < 2000
          · obtain ⟨I1, x1, x2⟩ := row_ok (q := (3, jN c, a1, 0)) h1 h2 h3 hg g1 (cor_mv.mp ⟨g2, q1⟩) g3 q2 q3 hr (Or.inr (Or.inr (Or.inr (Or.inl ⟨c, a1, ⟨hc, b3_of w, z⟩, rfl⟩))))
            obtain ⟨I1', y1, y2, _, _, y5⟩ := en_ok (L := L) (q0 := 3) (q1 := jN c) (q2 := a1) (q3 := 0) g3 hr
            have eI : I1' = I1 := by
              have := y1.symm.trans x1
              exact congrArg (fun q => q.2.1) (Option.some.inj this)
            subst eI
            have hk1 : CK nc pc I1' J := CK_ext hk (y5 0 7 (by decide) (by decide)) (fun d hd j => y5 _ j (by have := (ho.1 d hd).2.2; omega) (by have := (ho.1 d hd).2.2; omega)) rfl (fun _ _ _ => rfl)
            have e2 : f_H_press S Rf (jN c) a1 I L = stC S Rf (3, jN c, a1, 0) I1' L := by
              rw [hd, if_neg w, if_neg n0, if_neg z, y1, Option.bind_some, if_neg (show ¬ (1 : Int32) = 0 by decide), bi3]
              have : stC S Rf (3, jN c, a1, 0) I1' L = f_H_pushButton S Rf (jN c) a1 I1' L := by simp [stC]
              rw [this, f_H_pushButton, cAt ho hk1 hc, Option.bind_some]
              simp only [oc]
              rw [if_pos (ho.1 c hc).2.1, bi3]
            rw [e2]
            simpa [stM] using x2
          · have : r = 2000 := by have := g3.2.2.2.1; omega
            subst this
            obtain ⟨y1, y2⟩ := en_no (L := L) (K := K) (q0 := 3) (q1 := jN c) (q2 := a1) (q3 := 0) g3
            refine RES.nop h (by rw [hd, if_neg w, if_neg n0, if_neg z, y1, Option.bind_some, if_pos rfl]) ?_
            rw [p2, f_Md_press_L114, if_neg m0, if_neg (by decide), if_neg y2]
  · obtain ⟨p1, p2⟩ := cAt_no (S := S) (Rf := Rf) (L := L) hk hc
    refine RES.nop (v := -1) h ?_ ?_
    · rw [f_H_press, p1, Option.bind_some]; rfl
    · rw [f_Md_press, p2]
      simp only [bnd]
      rw [if_pos trivial]
theorem op_trip {a0 : Int32} (h : MOV k S Rf I J L K) : RES (k + 1) S Rf (f_H_trip S Rf a0 I L) (f_Md_trip a0 J K) := by
  obtain ⟨h1, h2, ⟨h3, h4⟩, A, A0, T, nl, nc, nw, pc, pw, r, n, s, g1, g2, g3, g4, g5⟩ := id h
  have ho := g2.2.2.2.2.1
  have hk := g2.2.2.2.2.2.2.1
  have h8 := hk.2.2.1
  by_cases hw : ∃ w, w < nw ∧ a0 = jN w
  · obtain ⟨w, hw, rfl⟩ := hw
    obtain ⟨t1, t2⟩ := wAt (L := L) (K := K) ho hk hw
    have c2 : 0 ≤ jN w ∧ jN w < 8 := jN_in (n := 8) (by omega) (by decide)
    obtain ⟨_, _, wr⟩ := hk.2.2.2 w hw
    have hM : f_Md_trip (jN w) J K = (if J 42 w = 2 then (if J 34 24 = 0 then (some ((-2 : Int32), J, K)) else (if (f_Md_isBookFull J K) = (0 : Int32) then ((f_Md_strikes (jN w) J K).bind fun q8 => ((f_Md_write (5 : Int32) (jN w) (0 : Int32) (0 : Int32) q8.2.1 q8.2.2).bind fun q10 => (some (q8.1, q10.1, q10.2)))) else (some ((-3 : Int32), J, K)))) else (some ((-1 : Int32), J, K))) := by
      rw [f_Md_trip, t2, Option.bind_some, if_neg (by decide), if_pos c2, jN_tc (by omega)]
    have hC : f_H_trip S Rf (jN w) I L = (if S[pw w]? = some (.inl 4) then (some ((-1 : Int32), I, L)) else (if S[pw w]? = some (.inl 1) then (some ((-1 : Int32), I, L)) else (if S[pw w]? = some (.inl 8) then (if (I 0 8) = (0 : Int32) then (some ((-2 : Int32), I, L)) else ((f_H_enter (5 : Int32) (jN w) (0 : Int32) (0 : Int32) I L).bind fun q9 => (if q9.1 = (0 : Int32) then (some ((-3 : Int32), q9.2.1, q9.2.2)) else ((f_H_strikeNow S Rf (jN w) q9.2.1 q9.2.2).bind fun q12 => (some (q12.1, q12.2.1, q12.2.2)))))) else none))) := by
      rw [f_H_trip, t1, Option.bind_some]
      rfl
    rcases wr with ⟨z, x⟩ | ⟨z, x⟩ | ⟨z, x⟩
    · exact RES.nop h (by rw [hC, if_pos z]) (by rw [hM, x.1, if_neg (by decide)])
    · exact RES.nop h (by rw [hC, z, if_neg s41, if_pos rfl]) (by rw [hM, x.1, if_neg (by decide)])
    · rw [z, if_neg s48, if_neg s18, if_pos rfl] at hC
      rcases h4 with hg | hg
      · exact RES.nop h (by rw [hC, if_pos hg]) (by rw [hM, if_pos x.1, if_pos (by rw [← h3]; exact hg)])
      · obtain ⟨q1, q2, q3⟩ := g5 hg
        have n0 : ¬ I 0 8 = 0 := by rw [hg]; decide
        have m0 : ¬ J 34 24 = 0 := by rw [← h3]; exact n0
        by_cases hr : r < 2000
        · obtain ⟨I1, x1, x2⟩ := row_ok (q := (5, jN w, 0, 0)) h1 h2 h3 hg g1 (cor_mv.mp ⟨g2, q1⟩) g3 q2 q3 hr (Or.inr (Or.inr (Or.inr (Or.inr (Or.inr ⟨w, ⟨hw, z⟩, rfl⟩)))))
          have e2 : f_H_trip S Rf (jN w) I L = stC S Rf (5, jN w, 0, 0) I1 L := by
            rw [hC, if_neg n0, x1, Option.bind_some, if_neg (show ¬ (1 : Int32) = 0 by decide), bi3]
            simp [stC]
          rw [e2]
          simpa [stM] using x2
        · have : r = 2000 := by have := g3.2.2.2.1; omega
          subst this
          obtain ⟨y1, y2⟩ := en_no (L := L) (K := K) (q0 := 5) (q1 := jN w) (q2 := 0) (q3 := 0) g3
          exact RES.nop h (by rw [hC, if_neg n0, y1, Option.bind_some, if_pos rfl]) (by rw [hM, if_pos x.1, if_neg m0, if_neg y2])
  · obtain ⟨p1, p2⟩ := wAt_no (S := S) (Rf := Rf) (L := L) (K := K) hk hw
    exact RES.nop (v := -1) h (by rw [f_H_trip, p1, Option.bind_some]; rfl) (by rw [f_Md_trip, p2, Option.bind_some, if_pos rfl])
/-- correct, once the work takes the number -/
theorem op_cor1 {w : Nat} {x v : Int32} (h : MOV k S Rf I J L K) (h3 : I 0 8 = J 34 24) (g2 : COR S Rf A nc nw pc pw r n s I J L K) (g1 : GRS A A0 T nl I J L) (g3 : BOK r I J) (g5 : I 0 8 = 1 → SPR I J L K A T ∧ VAL S Rf A T nc nw pc pw (bkI I) r J K ∧ LNK S Rf A T nc nw pc pw (bkI I) r I J L K) (hw : w < nw) (hg : I 0 8 = 1) (ht : TK S (pw w) x v I L) (hC : f_H_correct S Rf (jN w) x v I L = ((f_H_enter (4 : Int32) (jN w) x v I L).bind fun q9 => (if q9.1 = (0 : Int32) then (some ((-3 : Int32), q9.2.1, q9.2.2)) else ((f_H_putRight S Rf (jN w) x v q9.2.1 q9.2.2).bind fun q12 => (some (q12.1, q12.2.1, q12.2.2)))))) : RES (k + 1) S Rf (f_H_correct S Rf (jN w) x v I L) (f_Md_correct (jN w) x v J K) := by
  obtain ⟨q1, q2, q3⟩ := g5 hg
  have mv := cor_mv.mp ⟨g2, q1⟩
  have m0 : ¬ J 34 24 = 0 := by rw [← h3, hg]; decide
  by_cases hr : r < 2000
  · obtain ⟨I1, x1, x2⟩ := row_ok (q := (4, jN w, x, v)) h.1 h.2.1 h3 hg g1 mv g3 q2 q3 hr (Or.inr (Or.inr (Or.inr (Or.inr (Or.inl ⟨w, x, v, ⟨hw, ht⟩, rfl⟩)))))
    have e2 : f_H_correct S Rf (jN w) x v I L = stC S Rf (4, jN w, x, v) I1 L := by
      rw [hC, x1, Option.bind_some, if_neg (show ¬ (1 : Int32) = 0 by decide), bi3]
      simp [stC]
    rw [e2]
    simpa [stM] using x2
  · have : r = 2000 := by have := g3.2.2.2.1; omega
    subst this
    obtain ⟨y1, y2⟩ := en_no (L := L) (K := K) (q0 := 4) (q1 := jN w) (q2 := x) (q3 := v) g3
    obtain ⟨b1, b2⟩ := TK_J mv hw ht
    exact RES.nop h (by rw [hC, y1, Option.bind_some, if_pos rfl]) (by rw [f_Md_correct, (wAt (L := L) (K := K) g2.2.2.2.2.1 g2.2.2.2.2.2.2.1 hw).2, Option.bind_some, if_neg (by decide), b1, Option.bind_some, if_neg (by decide), if_neg m0, b2, Option.bind_some, if_pos rfl, if_neg y2])
theorem ct_b {p : Nat} {x v : Int32} : f_Ca_takes p x v = some 0 ∨ f_Ca_takes p x v = some 1 := by
  unfold f_Ca_takes bnd
  simp only [if_pos (wi_b v _ _)]
  have a := wi_b v 1 31
  have b := wi_b v 1 12
  have c := wi_b v 1 9999
  have d := wi_b v 0 6
  by_cases x0 : x = 0
  · rw [if_pos x0]; rcases a with q | q <;> rw [q] <;> simp
  · rw [if_neg x0]
    by_cases x1 : x = 1
    · rw [if_pos x1]; rcases b with q | q <;> rw [q] <;> simp
    · rw [if_neg x1]
      by_cases x2 : x = 2
      · rw [if_pos x2]; rcases c with q | q <;> rw [q] <;> simp
      · rw [if_neg x2]
        by_cases x3 : x = 3
        · rw [if_pos x3]; rcases d with q | q <;> rw [q] <;> simp
        · rw [if_neg x3]; simp
theorem st_b {p : Nat} {x v : Int32} : f_St_takes p x v = some 0 ∨ f_St_takes p x v = some 1 := by
  unfold f_St_takes f_St_takes_L28 bnd
  simp only [if_pos (wi_b v _ _)]
  have b := wi_b v 1 12
  have d := wi_b v 0 1
  by_cases x0 : x = 0
  · rw [if_pos x0]; rcases b with q | q <;> rw [q] <;> simp
  · rw [if_neg x0]
    by_cases x1 : x = 1
    · rw [if_pos x1]; rcases b with q | q <;> rw [q] <;> simp
    · rw [if_neg x1]
      by_cases x2 : x = 2
      · rw [if_pos x2]; rcases d with q | q <;> rw [q] <;> simp
      · rw [if_neg x2]; simp
theorem di_b {p : Nat} {x v : Int32} : f_Di_takes p x v I L = 0 ∨ f_Di_takes p x v I L = 1 := by
  unfold f_Di_takes bnd
  by_cases x0 : x = 0
  · rw [if_pos x0]
    by_cases z : f_H_isWithin v 0 (I p 2 - 1) = 0
    · left; simp [z]
    · right; simp [z]
  · rw [if_neg x0]; left; rfl
theorem op_correct {a0 x v : Int32} (h : MOV k S Rf I J L K) : RES (k + 1) S Rf (f_H_correct S Rf a0 x v I L) (f_Md_correct a0 x v J K) := by
  obtain ⟨h1, h2, ⟨h3, h4⟩, A, A0, T, nl, nc, nw, pc, pw, r, n, s, g1, g2, g3, g4, g5⟩ := id h
  have ho := g2.2.2.2.2.1
  have hk := g2.2.2.2.2.2.2.1
  have h8 := hk.2.2.1
  by_cases hw : ∃ w, w < nw ∧ a0 = jN w
  · obtain ⟨w, hw, rfl⟩ := hw
    obtain ⟨t1, t2⟩ := wAt (L := L) (K := K) ho hk hw
    obtain ⟨⟨a, ha, i0, j0⟩, _, wr⟩ := hk.2.2.2 w hw
    have M0 : f_Md_canShow (jN w) x v J K = some 0 → f_Md_correct (jN w) x v J K = some (-1, J, K) := fun z => by
      rw [f_Md_correct, t2, Option.bind_some, if_neg (by decide), z, Option.bind_some, if_pos rfl]
    have M1 : f_Md_canShow (jN w) x v J K = some 1 → J 34 24 = 0 → f_Md_correct (jN w) x v J K = some (-2, J, K) := fun z z2 => by
      rw [f_Md_correct, t2, Option.bind_some, if_neg (by decide), z, Option.bind_some, if_neg (by decide), if_pos z2]
    have M2 : f_Md_canShow (jN w) x v J K = some 1 → ¬ J 34 24 = 0 → f_Md_isBarred (jN w) J K = some 1 → f_Md_correct (jN w) x v J K = some (-2, J, K) := fun z z2 z3 => by
      rw [f_Md_correct, t2, Option.bind_some, if_neg (by decide), z, Option.bind_some, if_neg (by decide), if_neg z2, z3, Option.bind_some, if_neg (by decide)]
    have hC : f_H_correct S Rf (jN w) x v I L = (if S[pw w]? = some (.inl 4) then (if (f_Di_takes (pw w) x v I L) = (0 : Int32) then (some ((-1 : Int32), I, L)) else (if (I 0 8) = (0 : Int32) then (some ((-2 : Int32), I, L)) else (if (f_H_isBarred_D (pw w)) = (0 : Int32) then ((f_H_enter (4 : Int32) (jN w) x v I L).bind fun q9 => (if q9.1 = (0 : Int32) then (some ((-3 : Int32), q9.2.1, q9.2.2)) else ((f_H_putRight S Rf (jN w) x v q9.2.1 q9.2.2).bind fun q12 => (some (q12.1, q12.2.1, q12.2.2))))) else (some ((-2 : Int32), I, L))))) else (if S[pw w]? = some (.inl 1) then ((f_Ca_takes (pw w) x v).bind fun q15 => (if q15 = (0 : Int32) then (some ((-1 : Int32), I, L)) else (if (I 0 8) = (0 : Int32) then (some ((-2 : Int32), I, L)) else ((f_H_isBarred_C (pw w) I L).bind fun q19 => (if q19 = (0 : Int32) then ((f_H_enter (4 : Int32) (jN w) x v I L).bind fun q22 => (if q22.1 = (0 : Int32) then (some ((-3 : Int32), q22.2.1, q22.2.2)) else ((f_H_putRight S Rf (jN w) x v q22.2.1 q22.2.2).bind fun q25 => (some (q25.1, q25.2.1, q25.2.2))))) else (some ((-2 : Int32), I, L))))))) else (if S[pw w]? = some (.inl 8) then ((f_St_takes (pw w) x v).bind fun q28 => (if q28 = (0 : Int32) then (some ((-1 : Int32), I, L)) else (if (I 0 8) = (0 : Int32) then (some ((-2 : Int32), I, L)) else (if (f_H_isBarred_S (pw w)) = (0 : Int32) then ((f_H_enter (4 : Int32) (jN w) x v I L).bind fun q33 => (if q33.1 = (0 : Int32) then (some ((-3 : Int32), q33.2.1, q33.2.2)) else ((f_H_putRight S Rf (jN w) x v q33.2.1 q33.2.2).bind fun q36 => (some (q36.1, q36.2.1, q36.2.2))))) else (some ((-2 : Int32), I, L)))))) else none))) := by
      rw [f_H_correct, t1, Option.bind_some]
      rfl
    rcases wr with ⟨z, y⟩ | ⟨z, y⟩ | ⟨z, y⟩
    · rw [if_pos z] at hC
      have cs := cs_di (L := L) (K := K) (x := x) (v := v) (by omega) y
      rcases di_b (I := I) (L := L) (p := pw w) (x := x) (v := v) with d | d
      · exact RES.nop h (by rw [hC, if_pos d]) (M0 (by rw [cs, d]))
      · rw [if_neg (by rw [d]; decide)] at hC
        rcases h4 with hg | hg
        · exact RES.nop h (by rw [hC, if_pos hg]) (M1 (by rw [cs, d]) (by rw [← h3]; exact hg))
        · rw [if_neg (by rw [hg]; decide), if_pos (show f_H_isBarred_D (pw w) = 0 from rfl)] at hC
          exact op_cor1 h h3 g2 g1 g3 g5 hw hg (Or.inl ⟨z, d⟩) hC
    · rw [z, if_neg s41, if_pos rfl] at hC
      have cs := cs_ca (p := pw w) (K := K) (x := x) (v := v) (J := J) (w := w) (by omega) y.1
      rcases ct_b (p := pw w) (x := x) (v := v) with d | d
      · exact RES.nop h (by rw [hC, d, Option.bind_some, if_pos rfl]) (M0 (by rw [cs, d]))
      · rw [d, Option.bind_some, if_neg (by decide)] at hC
        rcases h4 with hg | hg
        · exact RES.nop h (by rw [hC, if_pos hg]) (M1 (by rw [cs, d]) (by rw [← h3]; exact hg))
        · have n0 : ¬ I 0 8 = 0 := by rw [hg]; decide
          rw [if_neg n0] at hC
          have be := br_eq (p := pw w) (w := w) (by omega) (g5 hg).1 ha y.1 i0 j0 (by rw [g2.1.2.1.1, g2.1.2.1.2.1])
          have bb : f_H_isBarred_C (pw w) I L = some 0 ∨ f_H_isBarred_C (pw w) I L = some 1 := by
            obtain ⟨u, hu⟩ : ∃ u, f_Ge_isNearTurn (I (pw w) 0) (I 1 12) I L = some u := by
              rw [i0]
              by_cases z4 : L 4 a = 0
              · have hS := (g5 hg).1
                have hA := hS.1.1
                have c1 : ¬ jN a < 0 := fun q => by have := (jN_lt (b := 0) (by omega) (by decide)).mp q; omega
                have c4 : ¬ (24 : Int32) ≤ jN a := fun q => by have := (jN_le (a := 24) (by decide) (by omega)).mp q; omega
                have c3 : 0 ≤ jN a ∧ jN a < 24 := jN_in (n := 24) (by omega) (by decide)
                rw [f_Ge_isNearTurn, if_neg c1, if_neg c4, if_pos c3, jN_tc (by omega), pd_0 hS ha z4, if_neg (by decide)]
                exact ⟨_, rfl⟩
              · have hS := (g5 hg).1
                have hA := hS.1.1
                have c1 : ¬ jN a < 0 := fun q => by have := (jN_lt (b := 0) (by omega) (by decide)).mp q; omega
                have c4 : ¬ (24 : Int32) ≤ jN a := fun q => by have := (jN_le (a := 24) (by decide) (by omega)).mp q; omega
                have c3 : 0 ≤ jN a ∧ jN a < 24 := jN_in (n := 24) (by omega) (by decide)
                obtain ⟨e1, e2, e3, e4⟩ := pd_pos hS ha z4
                have c5 : (0 : Int64) < L 5 a := lg_lt.mpr (by rw [lg_0]; exact e2)
                have c6 : ¬ L 5 a = 0 := fun q => by rw [q, lg_0] at e2; omega
                rw [f_Ge_isNearTurn, if_neg c1, if_neg c4, if_pos c3, jN_tc (by omega), if_pos c5, if_pos c3, if_pos c3, if_pos c6]
                simp only [bnd]
                rw [if_pos c3]
                by_cases q : lrem (Jabs (L 3 a) * (I 1 12).toInt64) (L 5 a) * 4 < L 5 a * 3
                · rw [if_pos q]; exact ⟨_, rfl⟩
                · rw [if_neg q]; exact ⟨_, rfl⟩
            rw [f_H_isBarred_C, hu, Option.bind_some]
            by_cases q : u = 0
            · rw [if_pos q]; exact Or.inl rfl
            · rw [if_neg q]; exact Or.inr rfl
          rcases bb with b | b
          · rw [b, Option.bind_some, if_pos rfl] at hC
            exact op_cor1 h h3 g2 g1 g3 g5 hw hg (Or.inr (Or.inl ⟨z, d, b⟩)) hC
          · exact RES.nop h (by rw [hC, b, Option.bind_some, if_neg (by decide)]) (M2 (by rw [cs, d]) (by rw [← h3]; exact n0) (by rw [← be]; exact b))
    · rw [z, if_neg s48, if_neg s18, if_pos rfl] at hC
      have cs := cs_st (p := pw w) (K := K) (x := x) (v := v) (J := J) (w := w) (by omega) y.1
      rcases st_b (p := pw w) (x := x) (v := v) with d | d
      · exact RES.nop h (by rw [hC, d, Option.bind_some, if_pos rfl]) (M0 (by rw [cs, d]))
      · rw [d, Option.bind_some, if_neg (by decide)] at hC
        rcases h4 with hg | hg
        · exact RES.nop h (by rw [hC, if_pos hg]) (M1 (by rw [cs, d]) (by rw [← h3]; exact hg))
        · rw [if_neg (by rw [hg]; decide), if_pos (show f_H_isBarred_S (pw w) = 0 from rfl)] at hC
          exact op_cor1 h h3 g2 g1 g3 g5 hw hg (Or.inr (Or.inr ⟨z, d⟩)) hC
  · obtain ⟨p1, p2⟩ := wAt_no (S := S) (Rf := Rf) (L := L) (K := K) hk hw
    exact RES.nop (v := -1) h (by rw [f_H_correct, p1, Option.bind_some]; rfl) (by rw [f_Md_correct, p2, Option.bind_some, if_pos rfl])
theorem op_back {a0 : Int32} (h : MOV k S Rf I J L K) : RES (k + 1) S Rf (f_H_back S Rf a0 I L) (f_Md_back a0 J K) := by
  obtain ⟨h1, h2, ⟨h3, h4⟩, A, A0, T, nl, nc, nw, pc, pw, r, n, s, g1, g2, g3, g4, g5⟩ := id h
  have r2 := g3.2.2.2.1
  have e : f_Md_within a0.toInt64 0 (jN r).toInt64 = f_H_isWithin a0 0 (jN r) := w_eq rfl rfl
  by_cases w : f_H_isWithin a0 0 (jN r) = 0
  · exact RES.nop h (by rw [f_H_back, g3.2.1, if_pos w]) (by rw [f_Md_back, g3.2.2.1, e]; simp only [bnd]; rw [if_pos w])
  · rcases h4 with hg | hg
    · exact RES.nop h (by rw [f_H_back, g3.2.1, if_neg w, if_pos hg]) (by rw [f_Md_back, g3.2.2.1, e]; simp only [bnd]; rw [if_neg w, if_pos (by rw [← h3]; exact hg)])
    · obtain ⟨q1, q2, q3⟩ := g5 hg
      have m0 : ¬ J 34 24 = 0 := by rw [← h3, hg]; decide
      obtain ⟨w1, w2⟩ := wi_ne.mp w
      obtain ⟨m, hm, rfl⟩ := jN_ex (n := r) w1 w2 (by omega)
      obtain ⟨I', L', J', K', n', s', a1, a2, a3, a4, a5, a6, a7, a8, a9, a10⟩ := back_ok (cor_mv.mp ⟨g2, q1⟩) m0 h3 g3 q2 hm
      obtain ⟨x1, x2⟩ := cor_mv.mpr a3
      have e08 : I' 0 8 = I 0 8 := a7 0 8 (by omega) (by omega) (by omega) (by omega) (by omega) (by omega) (by omega)
      refine ⟨0, I', L', J', K', a1, a2, SHP_mono h1 (by omega), fun j => by rw [a8 56 j (by omega) (by omega)]; exact h2 j, ⟨by rw [e08, a8 34 24 (by omega) (by omega)]; exact h3, by rw [e08]; exact Or.inr hg⟩, A, A0, T, nl, nc, nw, pc, pw, m, n', s', ?_, x1, a4, fun z => ?_, fun _ => ⟨x2, a5, a6⟩⟩
      · exact GRS_ext g1 (fun a j q => a7 a j (by omega) (by omega) (by omega) (by omega) (by omega) (by omega) (by omega)) (fun j q => a8 34 j (by omega) (by omega)) (fun a j q1 q2 => a8 a j (by omega) (by omega)) (fun a j q => a9 a j (by omega))
      · rw [e08, hg] at z; exact absurd z (by decide)
end GOJ

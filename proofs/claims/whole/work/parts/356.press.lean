/-! the movement: rows of the book: press -/
section COS
variable {S : List xSh} {Rf : Nat → Nat → Option Nat} {I J : Nat → Nat → Int32} {L K : Nat → Nat → Int64} {A T nc nw rr n s : Nat} {pc pw : Nat → Nat}
theorem MV_set {rr' : Nat} {I' J' : Nat → Nat → Int32} (h : MV S Rf A T nc nw pc pw rr n s I J L K) (ck : CK nc pc I' J') (wk : WK S Rf A nw pw I' J') (stk : STK (8 * n + rr') I' J') (e1 : ∀ a j, a < 13 → I' a j = I a j) (e2 : ∀ j, j < 40 → J' 34 j = J 34 j) (e3 : ∀ a j, a = 41 ∨ a = 53 ∨ a = 57 → J' a j = J a j) : MV S Rf A T nc nw pc pw rr' n s I' J' L K := by
  obtain ⟨h1, h2, h3, h4, h5, h6, h7, h8, h9, h10⟩ := h
  refine ⟨?_, ?_, ?_, ?_, ?_, h6, ck, wk, stk, h10⟩
  · exact DY_ext h1 (fun j => e1 1 j (by decide)) (fun j => e1 9 j (by decide)) (fun j => e1 10 j (by decide)) (fun j _ _ => e2 j (by omega)) (fun j => e3 53 j (by simp))
  · exact WND_up h3 h2 h2.1.1 (Nat.le_refl _) (by rw [e1 1 12 (by decide)]; exact h2.1.2.1) (by rw [e2 25 (by decide)]; exact h2.1.2.2.1) (e1 1 5 (by decide)) (e2 14 (by decide))
  · exact SPR_ext h3 (e1 2 3 (by decide)) (e2 9 (by decide)) (fun i => e3 57 i (by simp))
  · exact CB_ext h4 (fun j _ _ => e1 1 j (by decide)) (fun j _ _ => e2 j (by omega))
  · intro j hj
    rw [e1 8 j (by decide), e3 41 j (by simp)]
    exact h5 j hj
theorem win_n {a : Int32} {n : Nat} (hn : n ≤ 1000) : f_H_isWithin a 0 (jN n - 1) = 0 ↔ ¬ ∃ c, c < n ∧ a = jN c := by
  rw [wi_0]
  constructor
  · rintro h ⟨c, c1, rfl⟩
    refine h ⟨jN_ge0 (by omega), ?_⟩
    rw [show (1 : Int32) = jN 1 from rfl, jN_sub (by omega)]
    exact (jN_le (by omega) (by omega)).mpr (by omega)
  · intro h ⟨h1, h2⟩
    cases n with
    | zero =>
      have : (jN 0 : Int32) - 1 = -1 := by decide
      rw [this] at h2
      exact absurd (Int32.le_trans h1 h2) (by decide)
    | succ n =>
      rw [show (1 : Int32) = jN 1 from rfl, jN_sub (by omega), Nat.add_sub_cancel] at h2
      obtain ⟨k, k1, k2⟩ := jN_ex h1 h2 (by omega)
      exact h ⟨k, by omega, k2⟩
theorem win_y {c n : Nat} (hn : n ≤ 1000) (hc : c < n) : ¬ f_H_isWithin (jN c) 0 (jN n - 1) = 0 := fun q => (win_n hn).mp q ⟨c, hc, rfl⟩
theorem cAt {c : Nat} (ho : OBJ S Rf nc nw pc pw) (hk : CK nc pc I J) (hc : c < nc) : f_H_chronographAt S Rf (jN c) I L = some (some (pc c)) := by
  have h4 := hk.2.2.1
  have c2 : 0 ≤ jN c ∧ jN c < 4 := jN_in (n := 4) (by omega) (by decide)
  rw [f_H_chronographAt, hk.1]
  simp only [bnd]
  rw [if_neg (win_y (by omega) hc), if_pos c2, jN_tc (by omega), (ho.1 c hc).1]
  simp only [oc]
  rw [if_pos (ho.1 c hc).2.1]
theorem cAt_no {a : Int32} (hk : CK nc pc I J) (h : ¬ ∃ c, c < nc ∧ a = jN c) : f_H_chronographAt S Rf a I L = some none ∧ f_Md_within a.toInt64 0 (J 34 22 - 1).toInt64 = 0 := by
  have h4 := hk.2.2.1
  have e : f_Md_within a.toInt64 0 (jN nc - 1).toInt64 = f_H_isWithin a 0 (jN nc - 1) := w_eq rfl rfl
  refine ⟨?_, ?_⟩
  · rw [f_H_chronographAt, hk.1]
    simp only [bnd]
    rw [if_pos ((win_n (by omega)).mpr h)]
  · rw [hk.2.1, e]
    exact (win_n (by omega)).mpr h
theorem wAt {w : Nat} (ho : OBJ S Rf nc nw pc pw) (hk : WK S Rf A nw pw I J) (hw : w < nw) : f_H_workAt S Rf (jN w) I L = some (some (pw w)) ∧ f_Md_isWork (jN w) J K = some 1 := by
  have h4 := hk.2.2.1
  have c2 : 0 ≤ jN w ∧ jN w < 8 := jN_in (n := 8) (by omega) (by decide)
  have e : f_Md_within (jN w).toInt64 0 (jN nw - 1).toInt64 = f_H_isWithin (jN w) 0 (jN nw - 1) := w_eq rfl rfl
  have y := win_y (c := w) (n := nw) (by omega) hw
  have o1 : f_H_isWithin (jN w) 0 (jN nw - 1) = 1 := by
    unfold f_H_isWithin at y ⊢
    grind
  refine ⟨?_, ?_⟩
  · rw [f_H_workAt, hk.1]
    simp only [bnd]
    rw [if_neg y, if_pos c2, jN_tc (by omega), (ho.2.1 w hw).1]
    rfl
  · rw [f_Md_isWork, hk.2.1, e, o1]
    simp [bnd]
theorem wAt_no {a : Int32} (hk : WK S Rf A nw pw I J) (h : ¬ ∃ w, w < nw ∧ a = jN w) : f_H_workAt S Rf a I L = some none ∧ f_Md_isWork a J K = some 0 := by
  have h4 := hk.2.2.1
  have e : f_Md_within a.toInt64 0 (jN nw - 1).toInt64 = f_H_isWithin a 0 (jN nw - 1) := w_eq rfl rfl
  have z := (win_n (a := a) (n := nw) (by omega)).mpr h
  refine ⟨?_, ?_⟩
  · rw [f_H_workAt, hk.1]
    simp only [bnd]
    rw [if_pos z]
  · rw [f_Md_isWork, hk.2.1, e, z]
    simp [bnd]
theorem CK_upd {c : Nat} {I' J' : Nat → Nat → Int32} (ho : OBJ S Rf nc nw pc pw) (hk : CK nc pc I J) (hc : c < nc) (fI : ∀ a j, a ≠ pc c → I' a j = I a j) (f34 : J' 34 22 = J 34 22) (fJ : ∀ a d, d ≠ c → J' a d = J a d) (h : ckr (pc c) c I' J') : CK nc pc I' J' := by
  have p75 := (ho.1 c hc).2.2
  refine ⟨by rw [fI 0 7 (by omega)]; exact hk.1, by rw [f34]; exact hk.2.1, hk.2.2.1, fun d hd => ?_⟩
  by_cases e : d = c
  · subst e; exact h
  · have e' : pc d ≠ pc c := fun q => e (ho.2.2.1 d c hd hc q)
    have := hk.2.2.2 d hd
    unfold ckr at this ⊢
    simp only [fI _ _ e', fJ _ _ e]
    exact this
theorem push_ok {c : Nat} {b : Int32} (ho : OBJ S Rf nc nw pc pw) (hk : CK nc pc I J) (hc : c < nc) (hb : b = 0 ∨ b = 1 ∨ b = 2) (hg : ¬ f_Cr_gives (pc c) b I L = 0) (hgo : ¬ J 34 24 = 0) (hf : f_Md_isBookFull J K = 0) : ∃ I' J', f_Cr_push (pc c) b I L = some (J' 49 c, I', L) ∧ f_Md_press (jN c) b J K = f_Md_press_L225 b (jN c) J' K ∧ CK nc pc I' J' ∧ (∀ a j, a ≠ pc c → I' a j = I a j) ∧ ∀ a j, a ≠ 49 → a ≠ 50 → a ≠ 51 → a ≠ 52 → J' a j = J a j := by
  obtain ⟨k1, k2, k3, k4⟩ := id hk
  obtain ⟨r0, r1, r2, r3, r4, r5, r6⟩ := id (k4 c hc)
  have c2 : 0 ≤ jN c ∧ jN c < 4 := jN_in (n := 4) (by omega) (by decide)
  have tc := jN_tc (k := c) (by omega)
  have e : f_Md_within (jN c).toInt64 0 (jN nc - 1).toInt64 = f_H_isWithin (jN c) 0 (jN nc - 1) := w_eq rfl rfl
  have eb : f_Md_within b.toInt64 0 2 = f_H_isWithin b 0 2 := w_eq rfl rfl
  have y := win_y (c := c) (n := nc) (by omega) hc
  have yb : ¬ f_H_isWithin b 0 2 = 0 := by rcases hb with rfl | rfl | rfl <;> decide
  generalize hp : pc c = p at *
  have head : f_Md_press (jN c) b J K = (if b = 0 then (f_Md_press_L109 b (jN c) (J 49 c) (J 52 c) J K) else (if b = 1 then (if J 52 c = 0 then (if J 49 c = 2 then (f_Md_press_L109 b (jN c) (J 49 c) (J 52 c) J K) else (if J 49 c = 1 then (if J 47 c = 1 then (f_Md_press_L109 b (jN c) (J 49 c) (J 52 c) J K) else (f_Md_press_L84 b (jN c) (J 49 c) (J 52 c) J K)) else (f_Md_press_L84 b (jN c) (J 49 c) (J 52 c) J K))) else (f_Md_press_L84 b (jN c) (J 49 c) (J 52 c) J K)) else (f_Md_press_L84 b (jN c) (J 49 c) (J 52 c) J K))) := by
    rw [f_Md_press, k2, e, eb]
    simp only [bnd]
    rw [if_neg y, if_neg yb, if_pos c2, if_pos c2, if_pos c2, tc]
  have go : f_Md_press_L109 b (jN c) (J 49 c) (J 52 c) J K = (if b = 0 then (if J 49 c = 1 then f_Md_press_L225 b (jN c) (uI J 49 c 2) K else f_Md_press_L225 b (jN c) (uI J 49 c 1) K) else (if b = 1 then (if J 49 c = 2 then f_Md_press_L225 b (jN c) (uI (uI J 50 c 0) 49 c 0) K else f_Md_press_L225 b (jN c) (uI (uI J 50 c 0) 49 c 1) K) else (if J 52 c = 0 then f_Md_press_L225 b (jN c) (uI (uI J 52 c 1) 51 c (J 50 c)) K else f_Md_press_L225 b (jN c) (uI (uI J 52 c 0) 51 c (J 50 c)) K))) := by
    have q1 : (1 : Int32) = 0 ∨ (1 : Int32) = 1 := Or.inr rfl
    have q0 : (0 : Int32) = 0 ∨ (0 : Int32) = 1 := Or.inl rfl
    simp only [f_Md_press_L109, f_Md_press_L114, f_Md_press_L161, f_Md_press_L193, f_Md_press_L212, bnd, if_neg hgo, if_pos hf, if_pos c2, tc, if_pos q1, if_pos q0]
    rw [if_neg (show ¬ (1 : Int32) = 0 by decide)]
    simp only [true_or, or_true, if_true]
  rw [head, go]
  rcases hb with rfl | rfl | rfl
  · rw [if_pos rfl, if_pos rfl, f_Cr_push, if_pos rfl, r1]
    by_cases q : J 49 c = 1
    · rw [if_pos q, if_pos q]
      refine ⟨uI I p 1 2, uI J 49 c 2, by simp [uI], rfl, CK_upd (c := c) ho hk hc (fun a j ha => by simp [uI]; intro z; exact absurd (z.trans hp.symm) ha) (by simp [uI]) (fun a d hd => by simp [uI, hd]) ?_, fun a j ha => by simp [uI, ha], fun a j h1 _ _ _ => by simp [uI, h1]⟩
      rw [hp]
      exact ⟨by simp [uI, r0], by simp [uI], by simp [uI, r2], by simp [uI, r3], by simp [uI]; exact r4, by simp [uI], by simp [uI]; exact r6⟩
    · rw [if_neg q, if_neg q]
      refine ⟨uI I p 1 1, uI J 49 c 1, by simp [uI], rfl, CK_upd (c := c) ho hk hc (fun a j ha => by simp [uI]; intro z; exact absurd (z.trans hp.symm) ha) (by simp [uI]) (fun a d hd => by simp [uI, hd]) ?_, fun a j ha => by simp [uI, ha], fun a j h1 _ _ _ => by simp [uI, h1]⟩
      rw [hp]
      exact ⟨by simp [uI, r0], by simp [uI], by simp [uI, r2], by simp [uI, r3], by simp [uI]; exact r4, by simp [uI], by simp [uI]; exact r6⟩
  · have g1 : I p 4 = 0 ∧ (I p 1 = 2 ∨ (I p 1 = 1 ∧ I p 0 = 1)) := by
      unfold f_Cr_gives at hg
      rw [if_neg (by decide), if_pos rfl] at hg
      grind
    obtain ⟨g1, g2⟩ := g1
    rw [if_neg (show ¬ (1 : Int32) = 0 by decide), if_pos rfl, ← r3, if_pos g1, if_neg (show ¬ (1 : Int32) = 0 by decide), if_pos rfl, f_Cr_push, if_neg (show ¬ (1 : Int32) = 0 by decide), if_pos rfl]
    have fin : ∀ x : Int32, (x = 0 ∨ x = 1) → ∃ I' J', f_Cr_push_L65 p p p x I L = some (J' 49 c, I', L) ∧ f_Md_press_L225 1 (jN c) (uI (uI J 50 c 0) 49 c x) K = f_Md_press_L225 1 (jN c) J' K ∧ CK nc pc I' J' ∧ (∀ a j, a ≠ p → I' a j = I a j) ∧ ∀ a j, a ≠ 49 → a ≠ 50 → a ≠ 51 → a ≠ 52 → J' a j = J a j := by
      intro x hx
      refine ⟨uI (uI (uI I p 1 x) p 2 0) p 3 0, uI (uI J 50 c 0) 49 c x, ?_, rfl, CK_upd (c := c) ho hk hc (fun a j ha => by rw [hp] at ha; simp [uI, ha]) (by simp [uI]) (fun a d hd => by simp [uI, hd]) ?_, fun a j ha => by simp [uI, ha], fun a j h1 h2 _ _ => by simp [uI, h1, h2]⟩
      · have z : (uI (uI I p 1 x) p 2 0) p 4 = 0 := by simp [uI, g1]
        rw [f_Cr_push_L65, f_Cr_setCount, if_pos z, Option.bind_some]
        simp [uI]
      · rw [hp]
        refine ⟨by simp [uI, r0], by simp [uI], by simp [uI], by simp [uI, r3], by simp [uI]; exact r4, ?_, by simp [uI, g1]⟩
        rcases hx with h | h <;> simp [uI, h]
    by_cases q : I p 1 = 2
    · rw [if_pos q, ← r1, if_pos q, if_pos q]
      exact fin 0 (Or.inl rfl)
    · obtain ⟨q1, q2⟩ := g2.resolve_left q
      rw [if_neg q, ← r1, ← r0, if_neg q, if_pos q1, if_pos q2, if_neg q, q1]
      exact fin 1 (Or.inr rfl)
  · have g1 : I p 0 = 2 ∧ (I p 4 = 0 → ¬ I p 1 = 0) := by
      unfold f_Cr_gives at hg
      rw [if_neg (by decide), if_neg (by decide), if_pos rfl] at hg
      grind
    obtain ⟨g1, g2⟩ := g1
    have n0 : ¬ (2 : Int32) = 0 := by decide
    have n1 : ¬ (2 : Int32) = 1 := by decide
    have h84 : f_Md_press_L84 2 (jN c) (J 49 c) (J 52 c) J K = f_Md_press_L109 2 (jN c) (J 49 c) (J 52 c) J K := by
      rw [f_Md_press_L84, if_pos rfl, if_pos c2, tc, ← r0, if_pos g1, ← r3, ← r1]
      by_cases z : I p 4 = 0
      · have z2 : ¬ I p 1 ≤ 0 := by
          rcases r5 with h | h | h
          · exact absurd h (g2 z)
          · rw [h]; decide
          · rw [h]; decide
        rw [if_pos z, if_neg z2]
      · rw [if_neg z]
    rw [if_neg n0, if_neg n1] at go
    rw [if_neg n0, if_neg n1, h84, go, f_Cr_push, if_neg n0, if_neg n1, if_pos rfl, ← r3]
    by_cases z : I p 4 = 0
    · rw [if_pos z, if_pos z]
      refine ⟨uI (uI I p 4 1) p 2 (I p 2), uI (uI J 52 c 1) 51 c (J 50 c), ?_, rfl, CK_upd (c := c) ho hk hc (fun a j ha => by rw [hp] at ha; simp [uI, ha]) (by simp [uI]) (fun a d hd => by simp [uI, hd]) ?_, fun a j ha => by simp [uI, ha], fun a j _ _ h3 h4 => by simp [uI, h3, h4]⟩
      · have z1 : (uI I p 4 1) p 2 = I p 2 := by simp [uI]
        have z2 : ¬ (uI (uI I p 4 1) p 2 (I p 2)) p 4 = 0 := by simp [uI]
        rw [f_Cr_push_L89, if_pos (Or.inr rfl), z1, f_Cr_setCount, if_neg z2, Option.bind_some]
        simp [uI, r1]
      · rw [hp]
        rw [if_pos z] at r6
        exact ⟨by simp [uI, r0], by simp [uI, r1], by simp [uI, r2], by simp [uI], by simp [uI], by simp [uI]; exact r5, by simp [uI]; exact r6⟩
    · rw [if_neg z, if_neg z]
      refine ⟨uI (uI (uI I p 4 0) p 2 (I p 2)) p 3 (I p 2), uI (uI J 52 c 0) 51 c (J 50 c), ?_, rfl, CK_upd (c := c) ho hk hc (fun a j ha => by rw [hp] at ha; simp [uI, ha]) (by simp [uI]) (fun a d hd => by simp [uI, hd]) ?_, fun a j ha => by simp [uI, ha], fun a j _ _ h3 h4 => by simp [uI, h3, h4]⟩
      · have z1 : (uI I p 4 0) p 2 = I p 2 := by simp [uI]
        have z2 : (uI (uI I p 4 0) p 2 (I p 2)) p 4 = 0 := by simp [uI]
        rw [f_Cr_push_L89, if_pos (Or.inl rfl), z1, f_Cr_setCount, if_pos z2, Option.bind_some]
        simp [uI, r1]
      · rw [hp]
        exact ⟨by simp [uI, r0], by simp [uI, r1], by simp [uI, r2], by simp [uI], by simp [uI], by simp [uI]; exact r5, by simp [uI, r2]⟩
theorem cr_press {c : Nat} {b : Int32} (h : MV S Rf A T nc nw pc pw rr n s I J L K) (hg : ¬ J 34 24 = 0) (hb : BKOK J) (hc : c < nc) (hq : b = 0 ∨ b = 1 ∨ b = 2) (hv : ¬ f_Cr_gives (pc c) b I L = 0) : CR S Rf A T nc nw pc pw rr (f_H_pushButton S Rf (jN c) b I L) (f_Md_press (jN c) b J K) 3 (jN c) b 0 I J L K := by
  have ho := h.2.2.2.2.2.1
  have hk := h.2.2.2.2.2.2.1
  have hw := h.2.2.2.2.2.2.2.1
  obtain ⟨I', J', a1, a2, a3, a4, a5⟩ := push_ok (L := L) (K := K) ho hk hc hq hv hg (bf_0 hb)
  have p75 := (ho.1 c hc).2.2
  have fJ : FJ2 J J' := fun a j _ q1 q2 q3 q4 _ _ _ => a5 a j q1 q2 q3 q4
  obtain ⟨J'', w1, w2⟩ := wr_ok (K := K) 3 (jN c) b 0 (BK_2 hb fJ)
  have c2 : 0 ≤ jN c ∧ jN c < 4 := jN_in (n := 4) (by have := hk.2.2.1; omega) (by decide)
  refine ⟨J' 49 c, n, s, I', J', J'', L, K, ?_, ?_, w2, MV_set h a3 ?_ ?_ (fun a j ha => a4 a j (by omega)) (fun j hj => a5 34 j (by decide) (by decide) (by decide) (by decide)) (fun a j ha => a5 a j (by omega) (by omega) (by omega) (by omega)), fun a j q1 _ _ _ _ _ => a4 a j (by omega), fJ, fun _ _ _ => rfl, fun _ _ _ => rfl⟩
  · rw [f_H_pushButton, cAt ho hk hc, Option.bind_some]
    simp only [oc]
    rw [if_pos (ho.1 c hc).2.1, a1, Option.bind_some]
  · rw [a2, f_Md_press_L225, w1, Option.bind_some, if_pos c2, jN_tc (by have := hk.2.2.1; omega)]
    simp only []
    rw [w2.1 49 c (by decide) (by simp)]
  · refine ⟨by rw [a4 0 6 (by omega)]; exact hw.1, by rw [a5 34 16 (by decide) (by decide) (by decide) (by decide)]; exact hw.2.1, hw.2.2.1, fun w hw' => WR_ext (hw.2.2.2 w hw') (fun j => a4 _ j (fun q => obj_ne ho hc hw' q.symm)) (fun i _ => a5 48 _ (by decide) (by decide) (by decide) (by decide)) (fun a q1 q2 => a5 a w (by omega) (by omega) (by omega) (by omega))⟩
  · exact STK_w (STK_ext h.2.2.2.2.2.2.2.2.1 (a4 13 3 (by omega)) (a4 13 0 (by omega)) (a4 13 1 (by omega)) (a5 34 40 (by decide) (by decide) (by decide) (by decide)) (fun j => a4 14 j (by omega)) (fun j => a5 54 j (by decide) (by decide) (by decide) (by decide))) (by omega)
end COS

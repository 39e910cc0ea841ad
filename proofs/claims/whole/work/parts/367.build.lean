/-! a movement that is built: arbors, links, escape, balance, barrel, torque -/
section BLD
variable {S : List xSh} {Rf : Nat → Nat → Option Nat} {I J I' J' : Nat → Nat → Int32} {L K L' K' : Nat → Nat → Int64} {A A0 A' T nl nc nw k r n s : Nat} {pc pw : Nat → Nat}
theorem MOV_b (h1 : SHP k S Rf) (h2 : ∀ j, J 56 j = 0) (h3 : I 0 8 = 0) (h3' : J 34 24 = 0) (g1 : GRS A A0 T nl I J L) (g2 : COR S Rf A nc nw pc pw 0 n s I J L K) (g3 : BOK 0 I J) (g4 : STI S nc nw pc pw I I L L) (g5 : STJ A nc nw J J K K) : MOV k S Rf I J L K :=
  ⟨h1, h2, ⟨by rw [h3, h3'], Or.inl h3⟩, A, A0, T, nl, nc, nw, pc, pw, 0, n, s, g1, g2, g3, fun _ => ⟨rfl, g4, g5⟩, fun q => by rw [h3] at q; exact absurd q (by decide)⟩
theorem MOV_d (h : MOV k S Rf I J L K) (hg : I 0 8 = 0) : ∃ (A A0 T nl nc nw : Nat) (pc pw : Nat → Nat), GRS A A0 T nl I J L ∧ COR S Rf A nc nw pc pw 0 0 0 I J L K ∧ BOK 0 I J ∧ STI S nc nw pc pw I I L L ∧ STJ A nc nw J J K K := by
  obtain ⟨h1, h2, ⟨h3, h4⟩, A, A0, T, nl, nc, nw, pc, pw, r, n, s, g1, g2, g3, g4, g5⟩ := h
  obtain ⟨rfl, q2, q3⟩ := g4 hg
  have n0 : n = 0 := by
    have a := g2.1.2.1.1
    rw [q2.2.1.2.2.2.2.1] at a
    exact ((jN_inj (a := 0) (by decide) (by have := g2.1.1; omega)).mp a).symm
  have s0 : s = 0 := by
    have a := g2.1.2.2.1.1
    rw [q2.2.1.2.2.2.1] at a
    exact ((jN_inj (a := 0) (by decide) (by have := g2.1.1; omega)).mp a).symm
  subst n0
  subst s0
  exact ⟨A, A0, T, nl, nc, nw, pc, pw, g1, g2, g3, q2, q3⟩
theorem WND_b (g : GRS A A0 T nl I J L) (z : I 1 12 = 0 ∧ J 34 25 = 0) (hb : I 1 5 = J 34 14) (hk : I 1 5 = -1 ∨ ∃ k, k < A ∧ I 1 5 = jN k) (h7 : L 1 7 = 0) (k32 : K 34 32 = 0) : WND I J L K A 0 := by
  obtain ⟨J', K', _, _, _, sp, _⟩ := sp_call (K := K) g
  refine ⟨⟨by omega, z.1, z.2, hb, by rw [h7, k32]⟩, ?_⟩
  rcases hk with q | ⟨k, k1, k2⟩
  · exact Or.inl ⟨q, h7⟩
  · refine Or.inr ⟨k, k1, k2, fun _ => h7, fun zz => ?_⟩
    have := (tv_int (p := 256) (P := 256) (n := 0) sp k1 zz (by omega) (by decide) (by omega)).1
    rw [this, h7, lg_0, Nat.mul_zero, Nat.zero_div]; decide
theorem DY_x (h : DY n s I J) (e1 : ∀ j, 8 ≤ j → I' 1 j = I 1 j) (e2 : ∀ a j, a = 9 ∨ a = 10 → I' a j = I a j) (e4 : ∀ j, 25 ≤ j → j ≤ 31 → J' 34 j = J 34 j) (e5 : ∀ j, J' 53 j = J 53 j) : DY n s I' J' := by
  have f10 : ∀ j, I' 10 j = I 10 j := fun j => e2 10 j (by omega)
  unfold DY at h ⊢
  rw [e1 12 (by decide), e1 11 (by decide), e1 8 (by decide), e1 9 (by decide), e1 10 (by decide), e1 13 (by decide), e1 14 (by decide), e2 9 3 (by simp), e2 9 0 (by simp), e2 9 1 (by simp), e4 25 (by decide) (by decide), e4 26 (by decide) (by decide), e4 27 (by decide) (by decide), e4 28 (by decide) (by decide), e4 29 (by decide) (by decide), e4 30 (by decide) (by decide), e4 31 (by decide) (by decide)]
  simp only [f10, e5]
  exact h
theorem WR_mono {p w : Nat} (h : WR S Rf A p w I J) (hA : A ≤ A') : WR S Rf A' p w I J := by
  obtain ⟨⟨a, h1, h2⟩, h3⟩ := h
  exact ⟨⟨a, by omega, h2⟩, h3⟩
theorem COR_new (h : COR S Rf A nc nw pc pw r n s I J L K) (hA : A ≤ A') (hw : WND I' J' L' K' A' n) (hcb : CB I' J') (hp : ∀ j, j < 9 → I' 8 j = J' 41 j) (e1 : ∀ a j, (a = 0 ∧ j < 8) ∨ (a = 1 ∧ 8 ≤ j) ∨ (9 ≤ a ∧ a < 15) ∨ (75 ≤ a ∧ a < 1000) → I' a j = I a j) (e2 : ∀ a j, (a = 34 ∧ 16 ≤ j ∧ j ≤ 40 ∧ j ≠ 24) ∨ (42 ≤ a ∧ a ≤ 54) → J' a j = J a j) : COR S Rf A' nc nw pc pw r n s I' J' L' K' := by
  obtain ⟨h1, h2, h4, h5, h6, h7, h8, h9, h10⟩ := h
  refine ⟨?_, hw, hcb, hp, h6, ?_, ?_, ?_, h10⟩
  · exact DY_x h1 (fun j q => e1 1 j (by omega)) (fun a j q => e1 a j (by omega)) (fun j _ _ => e2 34 j (by omega)) (fun j => e2 53 j (by omega))
  · exact CK_ext h7 (e1 0 7 (by omega)) (fun c hc j => e1 _ j (by have := (h6.1 c hc).2.2; have := h10.1 c hc; omega)) (e2 34 22 (by omega)) (fun a i q => e2 a i (by omega))
  · exact ⟨by rw [e1 0 6 (by omega)]; exact h8.1, by rw [e2 34 16 (by omega)]; exact h8.2.1, h8.2.2.1, fun w hw => WR_mono (WR_ext (h8.2.2.2 w hw) (fun j => e1 _ j (by have := (h6.2.1 w hw).2.1; have := h10.2 w hw; omega)) (fun i _ => e2 48 _ (by omega)) (fun a q1 q2 => e2 a w (by omega))) hA⟩
  · exact STK_ext h9 (e1 13 3 (by omega)) (e1 13 0 (by omega)) (e1 13 1 (by omega)) (e2 34 40 (by omega)) (fun j => e1 14 j (by omega)) (fun j => e2 54 j (by omega))
theorem STI_b (ho : OBJ S Rf nc nw pc pw) (hb : OB2 nc nw pc pw) (h : STI S nc nw pc pw I I L L) (e1 : ∀ j, 8 ≤ j → I' 1 j = I 1 j) (e2 : I' 9 3 = I 9 3) (e3 : I' 13 3 = I 13 3) (e1' : ∀ a j, 75 ≤ a ∧ a < 1000 → I' a j = I a j) (e4 : L' 1 7 = L 1 7) : STI S nc nw pc pw I' I' L' L' := by
  obtain ⟨h1, h2, h3, h4, h5, h6⟩ := h
  refine ⟨fun _ _ _ => rfl, ?_, by rw [e4]; exact h3, fun _ _ _ => rfl, fun c hc => ?_, fun w hw => ?_⟩
  · rw [e1 8 (by omega), e1 9 (by omega), e1 10 (by omega), e1 11 (by omega), e1 12 (by omega), e1 13 (by omega), e1 14 (by omega), e2, e3]
    exact h2
  · have p := (⟨(ho.1 c hc).2.2, (hb.1 c hc).1⟩ : 75 ≤ pc c ∧ pc c < 1000)
    have := h5 c hc
    unfold cS at this ⊢
    simp only [e1' _ _ p]
    simpa using this
  · have p := (⟨(ho.2.1 w hw).2.1, (hb.2 w hw).1⟩ : 75 ≤ pw w ∧ pw w < 1000)
    have := h6 w hw
    unfold wS at this ⊢
    simp only [e1' _ _ p]
    simpa using this
theorem STJ_b (h : STJ A nc nw J J K K) (e1 : ∀ j, 25 ≤ j → j ≤ 40 → J' 34 j = J 34 j) (e2 : ∀ a j, a = 42 ∨ a = 46 ∨ (48 ≤ a ∧ a ≤ 52) → J' a j = J a j) (e4 : K' 34 32 = K 34 32) : STJ A' nc nw J' J' K' K' := by
  have := STJ_ext h e1 e2 e4
  exact ⟨this.1, this.2.1, this.2.2.1, fun _ _ => ⟨rfl, fun _ => ⟨rfl, rfl⟩⟩, this.2.2.2.2.1, this.2.2.2.2.2⟩
theorem barK (h : WND I J L K A n) : I 1 5 = -1 ∨ ∃ k, k < A ∧ I 1 5 = jN k := by
  rcases h.2 with q | ⟨k, k1, k2, _⟩
  · exact Or.inl q.1
  · exact Or.inr ⟨k, k1, k2⟩
theorem LK_mono {l : Nat} (h : LK I J A l) (hA : A ≤ A') : LK I J A' l := by
  obtain ⟨a, b, m, n, ⟨q1, q2, q3⟩, q4, q5⟩ := h
  refine ⟨a, b, m, n, ⟨by omega, by omega, q3⟩, q4, ?_⟩
  rcases q5 with q | q | ⟨q6, q7, c, ⟨q8, q9⟩, q10⟩
  · exact Or.inl q
  · exact Or.inr (Or.inl q)
  · exact Or.inr (Or.inr ⟨q6, q7, c, ⟨by omega, q9⟩, q10⟩)
theorem op_arbor (h : MOV k S Rf I J L K) : RES (k + 1) S Rf (f_H_arbor I L) (f_Md_arbor J K) := by
  have h3 := h.2.2.1.1
  rcases h.2.2.1.2 with hg | hg
  · have m0 : J 34 24 = 0 := by rw [← h3]; exact hg
    obtain ⟨A, A0, T, nl, nc, nw, pc, pw, g1, g2, g3, g4, g5⟩ := MOV_d h hg
    obtain ⟨⟨⟨u1, u2, u3, u4, u5, u6, u7⟩, lk, es⟩, i0, x3, x4, x5, x6, x7⟩ := id g1
    by_cases hA : A = 24
    · subst hA
      refine RES.nop (v := -3) h ?_ ?_
      · rw [f_H_arbor, if_pos hg, f_Ge_addArbor, i0, if_pos (by decide), Option.bind_some]
      · rw [f_Md_arbor, if_pos m0, u6, if_pos (by decide)]
    · have c1 : ¬ (24 : Int32) ≤ jN A := fun q => by have := (jN_le (a := 24) (by decide) (by omega)).mp q; omega
      have c2 : ¬ jN A = 24 := fun q => by have := (jN_inj (b := 24) (by omega) (by decide)).mp q; omega
      have e1 : jN (A + 1) - 1 = jN A := jN_sub (a := A + 1) (b := 1) (by omega)
      refine ⟨jN A, uI I 2 0 (jN (A + 1)), L, uI J 34 0 (jN (A + 1)), K, ?_, ?_, ?_⟩
      · rw [f_H_arbor, if_pos hg, f_Ge_addArbor, i0, if_neg c1, jN_1]
        rfl
      · rw [f_Md_arbor, if_pos m0, u6, if_neg c2, jN_1]
        simp only [bnd]
        rw [e1]
      · have oI : ∀ a j, ¬ (a = 2 ∧ j = 0) → (uI I 2 0 (jN (A + 1))) a j = I a j := fun a j q => uI_o q
        have oJ : ∀ a j, ¬ (a = 34 ∧ j = 0) → (uI J 34 0 (jN (A + 1))) a j = J a j := fun a j q => uI_o q
        have eq2 : uI (uI I 2 0 (jN (A + 1))) 2 0 (jN A0) = uI I 2 0 (jN A0) := by
          funext a j
          simp only [uI]
          by_cases q : a = 2 ∧ j = 0
          · rw [if_pos q, if_pos q]
          · rw [if_neg q, if_neg q, if_neg q]
        have g1' : GRS (A + 1) A0 T nl (uI I 2 0 (jN (A + 1))) (uI J 34 0 (jN (A + 1))) L := by
          refine ⟨?_, by simp [uI], by rw [eq2]; exact x3, ⟨x4.1, by rw [oI 2 3 (by omega)]; exact x4.2.1, by rw [oJ 34 9 (by omega)]; exact x4.2.2⟩, by rw [oI 2 2 (by omega)]; exact x5, x6, by rw [oI 2 4 (by omega)]; exact x7⟩
          rw [eq2]
          exact ⟨⟨u1, by omega, by omega, u4, u5, by simp [uI], by rw [oJ 34 1 (by omega)]; exact u7⟩, fun l hl => LK_ext (lk l hl) (fun a j _ _ => oJ a j (by omega)), by rw [oJ 34 8 (by omega)]; exact es⟩
        have w := g2.2.1
        refine MOV_b (SHP_mono h.1 (by omega)) (fun j => by rw [oJ 56 j (by omega)]; exact h.2.1 j) (by rw [oI 0 8 (by omega)]; exact hg) (by rw [oJ 34 24 (by omega)]; exact m0) g1' (COR_new g2 (by omega) (WND_b g1' ⟨by rw [oI 1 12 (by omega)]; exact g4.2.1.2.2.2.2.1, by rw [oJ 34 25 (by omega)]; exact g5.2.1.1⟩ (by rw [oI 1 5 (by omega), oJ 34 14 (by omega)]; exact w.1.2.2.2.1) ?_ g4.2.2.1 g5.2.2.1) (CB_ext g2.2.2.1 (fun j _ _ => oI 1 j (by omega)) (fun j _ _ => oJ 34 j (by omega))) (fun j hj => by rw [oI 8 j (by omega), oJ 41 j (by omega)]; exact g2.2.2.2.1 j hj) (fun a j q => oI a j (by omega)) (fun a j q => oJ a j (by omega))) (BOK_ext g3 (fun a j q => oI a j (by omega)) (fun j q => oJ 34 j (by omega)) (fun j => oJ 55 j (by omega))) (STI_b g2.2.2.2.2.1 g2.2.2.2.2.2.2.2.2 g4 (fun j q => oI 1 j (by omega)) (oI 9 3 (by omega)) (oI 13 3 (by omega)) (fun a j q => oI a j (by omega)) rfl) (STJ_b g5 (fun j q1 q2 => oJ 34 j (by omega)) (fun a j q => oJ a j (by omega)) rfl)
        rw [oI 1 5 (by omega)]
        rcases barK w with q | ⟨b, b1, b2⟩
        · exact Or.inl q
        · exact Or.inr ⟨b, by omega, b2⟩
  · have n0 : ¬ I 0 8 = 0 := by rw [hg]; decide
    exact RES.nop h (by rw [f_H_arbor, if_neg n0]) (by rw [f_Md_arbor, if_neg (by rw [← h3]; exact n0)])
theorem tr_none (hG : GH I J A0 A nl) (hz : ∀ a, a < 24 → L 4 a = 0) : f_Ge_tellRound I L = some (0, I, L) := by
  obtain ⟨⟨u1, u2, u3, u4, u5, u6, u7⟩, lk, es⟩ := hG
  have key : ∀ m l, l + m = nl → ∀ N, m < N → f_Ge_tellRound_L4 N 0 (jN l) I L = some (0, I, L) := by
    intro m
    induction m with
    | zero =>
      intro l h1 N hN
      obtain ⟨N, rfl⟩ : ∃ k, N = k + 1 := ⟨N - 1, by omega⟩
      have : l = nl := by omega
      subst this
      rw [f_Ge_tellRound_L4, u4, if_pos (Int32.le_refl _), if_pos (Or.inl rfl)]
    | succ m ih =>
      intro l h1 N hN
      obtain ⟨N, rfl⟩ : ∃ k, N = k + 1 := ⟨N - 1, by omega⟩
      obtain ⟨many, arb, pl⟩ := lk_pl (L := L) (K := L) u1 (by omega) (by omega) (lk l (by omega))
      obtain ⟨c, ec, c1, _⟩ := cu_val (L := L) (K := L) u1 (by omega) (by omega) pl
      have hc : ¬ c = 1 := fun q => by
        obtain ⟨p, p1, p2, p3⟩ := c1.mp q
        obtain ⟨h1, h2, _⟩ := pl
        by_cases e : p = 0
        · exact p3 1 (by omega) (by omega) (hz _ (by have := (h2 1 (by omega)).1; omega))
        · exact p3 0 (by omega) (by omega) (hz _ (by have := (h2 0 (by omega)).1; omega))
      have d1 : ¬ jN nl ≤ jN l := fun q => by have := (jN_le (by omega) (by omega)).mp q; omega
      rw [f_Ge_tellRound_L4, u4, if_neg d1, ec, Option.bind_some, if_neg hc, jN_1]
      exact ih (l + 1) (by omega) N (by omega)
  exact key nl 0 (by omega) xF (xF_lt (by omega))
theorem fs_none {q : (Nat → Nat → Int32) × (Nat → Nat → Int64)} (hG : GH I J A0 A nl) (he : I 2 2 = -1) (hf : f_Ge_findSpeeds I L = some q) : ∀ a, a < 24 → q.2 4 a = 0 := by
  obtain ⟨L0, e0, f0, z0⟩ := fgt I L
  have t := tr_none (L := L0) hG (fun a ha => (z0 a ha).2.1)
  obtain ⟨N, hN⟩ := xF_10
  rw [f_Ge_findSpeeds, e0, Option.bind_some] at hf
  simp only [] at hf
  rw [he, if_pos has_m, hN, show N + 10 = N + 8 + 1 + 1 by omega, f_Ge_findSpeeds_L39, if_neg (by decide), if_neg (by decide), t, Option.bind_some, f_Ge_findSpeeds_L39, if_pos rfl] at hf
  obtain ⟨L3, b1, b2, b3, _⟩ := pds I 24 0 xF L0 (by omega) (xF_lt (by omega))
  have b1' : f_Ge_findSpeeds_L62 xF 0 I L0 = _ := b1
  rw [b1'] at hf
  cases hq : f_Ge_isSomeLinkBroken I L3 with
  | none => rw [hq] at hf; exact absurd hf (by simp)
  | some p =>
    rw [hq, Option.bind_some] at hf
    have fr := fun S => u_Ge_isSomeLinkBroken (S := S) hq
    intro a ha
    by_cases c : p.1 = 0 ∨ p.1 = 1
    · rw [if_pos c] at hf
      have e := Option.some.inj hf
      rw [← e]
      simp only []
      rw [fr_L fr 4 a (by decide) (fun _ => by simp; omega), b2 4 a (by decide)]
      exact (z0 a ha).2.1
    · rw [if_neg c] at hf; exact absurd hf (by simp)
/-- speeds are found anew behind a change of links or escape -/
theorem refind {I3 J3 : Nat → Nat → Int32} {T' nl' : Nat} (h : MOV k S Rf I J L K) (hg : I 0 8 = 0) (g1 : GRS A A0 T nl I J L) (g2 : COR S Rf A nc nw pc pw 0 0 0 I J L K) (g3 : BOK 0 I J) (g4 : STI S nc nw pc pw I I L L) (g5 : STJ A nc nw J J K K) (hG : GH I3 J3 A A nl') (t1 : T' ≤ 60 ∧ I3 2 3 = jN T' ∧ J3 34 9 = jN T') (t2 : 1 ≤ T' ∨ I3 2 2 = -1) (fI : ∀ a j, ¬ (a = 2 ∧ (j = 1 ∨ j = 2 ∨ j = 3)) → a ≠ 6 → a ≠ 7 → I3 a j = I a j) (fJ : ∀ a j, ¬ (a = 34 ∧ (j = 1 ∨ j = 8 ∨ j = 9)) → ¬ (35 ≤ a ∧ a ≤ 40) → J3 a j = J a j) : ∃ I' L', f_Ge_findSpeeds I3 L = some (I', L') ∧ I' 2 1 = I3 2 1 ∧ MOV (k + 1) S Rf I' J3 L' K := by
  have h3 := h.2.2.1.1
  have m0 : J 34 24 = 0 := by rw [← h3]; exact hg
  obtain ⟨r, L', a1, a2, a3, a4⟩ := fs_all (L := L) hG
  have fr := fun S => u_Ge_findSpeeds (S := S) a1
  have l17 : L' 1 7 = L 1 7 := fr_L fr 1 7 (by decide) (fun _ => by decide)
  have oI : ∀ a j, ¬ (a = 2 ∧ 1 ≤ j ∧ j ≤ 4) → a ≠ 6 → a ≠ 7 → (uI I3 2 4 r) a j = I a j := fun a j q1 q2 q3 => by
    rw [uI_o (by omega)]; exact fI a j (by omega) q2 q3
  have i20 : I3 2 0 = jN A := hG.1.1
  have eqs : ∀ a j, (uI (uI I3 2 4 r) 2 0 (jN A)) a j = (uI I3 2 4 r) a j := fun a j => by
    by_cases q : a = 2 ∧ j = 0
    · obtain ⟨rfl, rfl⟩ := q
      simp [uI, i20]
    · exact uI_o q
  have g1' : GRS A A T' nl' (uI I3 2 4 r) J3 L' := by
    refine ⟨GH_ext hG (fun j hj => by rw [eqs]; exact uI_o (by omega)) (fun a j q => by rw [eqs]; exact uI_o (by omega)) (fun _ _ => rfl) (fun _ _ _ _ => rfl), by rw [uI_o (by decide)]; exact i20, SPC_ext a2 (fun j _ => eqs 2 j) (fun a j _ => eqs a j) (fun _ _ _ => rfl), ⟨t1.1, by rw [uI_o (by decide)]; exact t1.2.1, t1.2.2⟩, ?_, fun a ha => by rw [← t1.2.1]; exact a3 a ha, by simp [uI]; exact a4⟩
    rcases t2 with q | q
    · exact Or.inl q
    · exact Or.inr ⟨by rw [uI_o (by decide)]; exact q, fs_none hG q a1⟩
  have w := g2.2.1
  refine ⟨uI I3 2 4 r, L', a1, uI_o (by decide), ?_⟩
  refine MOV_b (SHP_mono h.1 (by omega)) (fun j => by rw [fJ 56 j (by omega) (by omega)]; exact h.2.1 j) (by rw [oI 0 8 (by omega) (by omega) (by omega)]; exact hg) (by rw [fJ 34 24 (by omega) (by omega)]; exact m0) g1' (COR_new g2 (Nat.le_refl _) (WND_b g1' ⟨by rw [oI 1 12 (by omega) (by omega) (by omega)]; exact g4.2.1.2.2.2.2.1, by rw [fJ 34 25 (by omega) (by omega)]; exact g5.2.1.1⟩ (by rw [oI 1 5 (by omega) (by omega) (by omega), fJ 34 14 (by omega) (by omega)]; exact w.1.2.2.2.1) (by rw [oI 1 5 (by omega) (by omega) (by omega)]; exact barK w) (by rw [l17]; exact g4.2.2.1) g5.2.2.1) (CB_ext g2.2.2.1 (fun j _ _ => oI 1 j (by omega) (by omega) (by omega)) (fun j _ _ => fJ 34 j (by omega) (by omega))) (fun j hj => by rw [oI 8 j (by omega) (by omega) (by omega), fJ 41 j (by omega) (by omega)]; exact g2.2.2.2.1 j hj) (fun a j q => oI a j (by omega) (by omega) (by omega)) (fun a j q => fJ a j (by omega) (by omega))) (BOK_ext g3 (fun a j q => oI a j (by omega) (by omega) (by omega)) (fun j q => fJ 34 j (by omega) (by omega)) (fun j => fJ 55 j (by omega) (by omega))) (STI_b g2.2.2.2.2.1 g2.2.2.2.2.2.2.2.2 g4 (fun j q => oI 1 j (by omega) (by omega) (by omega)) (oI 9 3 (by omega) (by omega) (by omega)) (oI 13 3 (by omega) (by omega) (by omega)) (fun a j q => oI a j (by omega) (by omega) (by omega)) l17) (STJ_b g5 (fun j q1 q2 => fJ 34 j (by omega) (by omega)) (fun a j q => fJ a j (by omega) (by omega)) rfl)
theorem op_escape {a0 a1 : Int32} (h : MOV k S Rf I J L K) : RES (k + 1) S Rf (f_H_escape a0 a1 I L) (f_Md_escape a0 a1 J K) := by
  obtain ⟨h1, h2, ⟨h3, h4⟩, A', A0', T', nl', nc', nw', pc', pw', r', n', s', y1, y2, y3, y4, y5⟩ := id h
  have e : f_Md_within a1.toInt64 1 60 = f_H_isWithin a1 1 60 := w_eq rfl rfl
  have A24 := y1.1.1.2.2.1
  by_cases ha : ∃ c, c < A' ∧ a0 = jN c
  · obtain ⟨a, ha, rfl⟩ := ha
    obtain ⟨z1, z2⟩ := ar_y (L := L) (K := K) y1.2.1 y1.1.1.2.2.2.2.2.1 A24 ha
    have hM : f_Md_escape (jN a) a1 J K = (if f_H_isWithin a1 1 60 = (0 : Int32) then (some ((-1 : Int32), J, K)) else (if (J 34 24) = (0 : Int32) then (some ((0 : Int32), (uI (uI J 34 8 (jN a)) 34 9 a1), K)) else (some ((-2 : Int32), J, K)))) := by
      rw [f_Md_escape, z2, Option.bind_some, if_neg (show ¬ (1 : Int32) = 0 by decide), e]
    have hC : f_H_escape (jN a) a1 I L = (if f_H_isWithin a1 1 60 = (0 : Int32) then (some ((-1 : Int32), I, L)) else (if (I 0 8) = (0 : Int32) then ((f_Ge_setEscape (jN a) a1 I L).bind fun q5 => (some ((0 : Int32), q5.1, q5.2))) else (some ((-2 : Int32), I, L)))) := by
      rw [f_H_escape, if_neg (by rw [z1]; decide)]
    rw [hC, hM]
    by_cases w : f_H_isWithin a1 1 60 = 0
    · rw [if_pos w, if_pos w]; exact RES.nop h rfl rfl
    · rw [if_neg w, if_neg w]
      rcases h4 with hg | hg
      · have m0 : J 34 24 = 0 := by rw [← h3]; exact hg
        obtain ⟨t, rfl, t1, t2⟩ := ra (a := 1) (b := 60) (wi_ne.mp w) (by decide) (by decide)
        obtain ⟨A, A0, T, nl, nc, nw, pc, pw, g1, g2, g3, g4, g5⟩ := MOV_d h hg
        have eA : A = A' := by
          have := g1.2.1.symm.trans y1.2.1
          exact (jN_inj (by have := g1.1.1.2.2.1; omega) (by omega)).mp this
        subst eA
        obtain ⟨⟨⟨u1, u2, u3, u4, u5, u6, u7⟩, lk, es⟩, i0, _⟩ := id g1
        have hG : GH (uI (uI I 2 2 (jN a)) 2 3 (jN t)) (uI (uI J 34 8 (jN a)) 34 9 (jN t)) A A nl := by
          refine ⟨⟨by simp [uI, i0], Nat.le_refl _, u3, by simpa [uI] using u4, u5, by simp [uI, u6], by simp [uI, u7]⟩, fun l hl => ?_, Or.inr ⟨a, ha, by simp [uI], by simp [uI]⟩⟩
          have := LK_mono (lk l hl) u2
          simpa [LK, uI] using this
        obtain ⟨I', L', x1, x2, x3⟩ := refind h hg g1 g2 g3 g4 g5 hG (T' := t) ⟨by omega, by simp [uI], by simp [uI]⟩ (Or.inl t1) (fun a j q1 q2 q3 => by rw [uI_o (by omega), uI_o (by omega)]) (fun a j q1 q2 => by rw [uI_o (by omega), uI_o (by omega)])
        rw [if_pos hg, if_pos m0, f_Ge_setEscape, x1, Option.bind_some]
        exact ⟨0, I', L', _, K, rfl, rfl, x3⟩
      · have n0 : ¬ I 0 8 = 0 := by rw [hg]; decide
        rw [if_neg n0, if_neg (by rw [← h3]; exact n0)]
        exact RES.nop h rfl rfl
  · obtain ⟨z1, z2⟩ := ar_n (L := L) (K := K) y1.2.1 y1.1.1.2.2.2.2.2.1 A24 ha
    exact RES.nop (v := -1) h (by rw [f_H_escape, if_pos z1]) (by rw [f_Md_escape, z2, Option.bind_some, if_pos rfl])
end BLD

/-! a movement that is built: chronographs -/
section CLN
variable {S : List xSh} {Rf : Nat → Nat → Option Nat} {I J : Nat → Nat → Int32} {L K : Nat → Nat → Int64} {A A0 T nl nc nw k : Nat} {pc pw : Nat → Nat}
theorem MOV_clk {p : Nat} {I3 J2 : Nat → Nat → Int32} (h : MOV k S Rf I J L K) (hg : I 0 8 = 0) (hp : p = 102 + nc) (g1 : GRS A A0 T nl I J L) (g2 : COR S Rf A nc nw pc pw 0 0 0 I J L K) (g3 : BOK 0 I J) (g4 : STI S nc nw pc pw I I L L) (g5 : STJ A nc nw J J K K) (hn : nc < 4) (hI : ∀ a j, a ≠ p → ¬ (a = 0 ∧ j = 7) → I3 a j = I a j) (hI1 : I3 0 7 = jN (nc + 1)) (hJ1 : J2 34 22 = jN (nc + 1)) (hJ : ∀ b j, ¬ (47 ≤ b ∧ b ≤ 52 ∧ b ≠ 48 ∧ j = nc) → ¬ (b = 34 ∧ j = 22) → J2 b j = J b j) (z0 : I3 p 0 = J2 47 nc) (z1 : I3 p 1 = 0) (z2 : I3 p 2 = 0) (z3 : I3 p 3 = 0) (z4 : I3 p 4 = 0) (hcj : cJ nc J2) : MOV (k + 1) S Rf I3 J2 L K := by
  have h3 := h.2.2.1.1
  have m0 : J 34 24 = 0 := by rw [← h3]; exact hg
  obtain ⟨x1, x2, x3, x4, x5, x6, x7, x8, x9⟩ := g2
  have hnw := x7.2.2.1
  have hrf : Rf 12 nc = some p := by rw [hp]; exact h.1.2.2 nc hn
  have sl : S[p]? = some (.inl 3) := by rw [hp, h.1.1]; exact xSl_ck nc hn
  have e2 : ∀ a j, a < 75 → ¬ (a = 0 ∧ j = 7) → I3 a j = I a j := fun a j q1 q2 => hI a j (by omega) q2
  have ec : ∀ c, c < nc → ∀ j, I3 (pc c) j = I (pc c) j := fun c hc j => hI _ j (by have := x9.1 c hc; omega) (by have := x9.1 c hc; omega)
  have ew : ∀ w, w < nw → ∀ j, I3 (pw w) j = I (pw w) j := fun w hw j => hI _ j (by have := x9.2 w hw; omega) (by have := x9.2 w hw; omega)
  let pc' : Nat → Nat := fun w => if w = nc then p else pc w
  have pn : pc' nc = p := by simp [pc']
  have po : ∀ w, w < nc → pc' w = pc w := fun w hw => by
    have : w ≠ nc := by omega
    simp [pc', this]
  have c2 : COR S Rf A (nc + 1) nw pc' pw 0 0 0 I3 J2 L K := by
    refine ⟨DY_x x1 (fun j _ => e2 1 j (by omega) (by omega)) (fun a j q => e2 a j (by omega) (by omega)) (fun j _ _ => hJ 34 j (by omega) (by omega)) (fun j => hJ 53 j (by omega) (by omega)), ?_, CB_ext x3 (fun j _ _ => e2 1 j (by omega) (by omega)) (fun j _ _ => hJ 34 j (by omega) (by omega)), fun j hj => by rw [e2 8 j (by omega) (by omega), hJ 41 j (by omega) (by omega)]; exact x4 j hj, ⟨fun c hc => ?_, x5.2.1, fun a b ha hb e => ?_, x5.2.2.2⟩, ⟨hI1, hJ1, by omega, fun c hc => ?_⟩, ?_, STK_ext x8 (e2 13 3 (by omega) (by omega)) (e2 13 0 (by omega) (by omega)) (e2 13 1 (by omega) (by omega)) (hJ 34 40 (by omega) (by omega)) (fun j => e2 14 j (by omega) (by omega)) (fun j => hJ 54 j (by omega) (by omega)), ⟨fun w hw => ?_, x9.2⟩⟩
    · obtain ⟨⟨w1, w2, w3, w4, w5⟩, w6⟩ := x2
      exact ⟨⟨w1, by rw [e2 1 12 (by omega) (by omega)]; exact w2, by rw [hJ 34 25 (by omega) (by omega)]; exact w3, by rw [e2 1 5 (by omega) (by omega), hJ 34 14 (by omega) (by omega)]; exact w4, w5⟩, by rw [e2 1 5 (by omega) (by omega)]; exact w6⟩
    · by_cases e : c = nc
      · subst e
        rw [pn]
        exact ⟨hrf, sl, by omega⟩
      · rw [po c (by omega)]; exact x5.1 c (by omega)
    · by_cases e1 : a = nc
      · by_cases e3 : b = nc
        · omega
        · rw [e1, pn, po b (by omega)] at e
          have := x9.1 b (by omega)
          omega
      · by_cases e3 : b = nc
        · rw [e3, pn, po a (by omega)] at e
          have := x9.1 a (by omega)
          omega
        · rw [po a (by omega), po b (by omega)] at e
          exact x5.2.2.1 a b (by omega) (by omega) e
    · by_cases e : c = nc
      · subst e
        rw [pn]
        obtain ⟨y1, y2, y3, y4⟩ := hcj
        exact ⟨z0, by rw [z1, y1], by rw [z2, y2], by rw [z4, y4], Or.inl z4, Or.inl z1, by rw [z3, z4, if_pos rfl, y2]⟩
      · rw [po c (by omega)]
        have := x6.2.2.2 c (by omega)
        unfold ckr at this ⊢
        simp only [ec c (show c < nc by omega)]
        rw [hJ 47 c (by omega) (by omega), hJ 49 c (by omega) (by omega), hJ 50 c (by omega) (by omega), hJ 51 c (by omega) (by omega), hJ 52 c (by omega) (by omega)]
        exact this
    · exact ⟨by rw [e2 0 6 (by omega) (by omega)]; exact x7.1, by rw [hJ 34 16 (by omega) (by omega)]; exact x7.2.1, x7.2.2.1, fun w hw => WR_ext (I' := I3) (J' := J2) (x7.2.2.2 w hw) (fun j => ew w hw j) (fun i hi => hJ 48 _ (by omega) (by omega)) (fun a q1 q2 => hJ a w (by omega) (by omega))⟩
    · by_cases e : w = nc
      · subst e; rw [pn]; omega
      · rw [po w (by omega)]; exact x9.1 w (by omega)
  have s2 : STI S (nc + 1) nw pc' pw I3 I3 L L := by
    obtain ⟨t1, t2, t3, t4, t5, t6⟩ := g4
    refine ⟨fun _ _ _ => rfl, ?_, t3, fun _ _ _ => rfl, fun c hc => ?_, fun w hw' => ?_⟩
    · rw [e2 1 8 (by omega) (by omega), e2 1 9 (by omega) (by omega), e2 1 10 (by omega) (by omega), e2 1 11 (by omega) (by omega), e2 1 12 (by omega) (by omega), e2 1 13 (by omega) (by omega), e2 1 14 (by omega) (by omega), e2 9 3 (by omega) (by omega), e2 13 3 (by omega) (by omega)]
      exact t2
    · by_cases e : c = nc
      · subst e; rw [pn]; exact ⟨rfl, z1, z2, z3, z4⟩
      · rw [po c (by omega)]
        have := t5 c (by omega)
        unfold cS at this ⊢
        simp only [ec c (show c < nc by omega)]
        simpa using this
    · have := t6 w hw'
      unfold wS at this ⊢
      simp only [ew w hw']
      simpa using this
  have j2 : STJ A (nc + 1) nw J2 J2 K K := by
    obtain ⟨t1, t2, t3, t4, t5, t6⟩ := g5
    refine ⟨fun _ _ _ => rfl, ?_, t3, fun _ _ => ⟨rfl, fun _ => ⟨rfl, rfl⟩⟩, fun c hc => ?_, fun w hw' => wJ_ext (t6 w hw') (fun i hi => hJ 48 _ (by omega) (by omega)) (hJ 42 w (by omega) (by omega)) (hJ 46 w (by omega) (by omega))⟩
    · rw [hJ 34 25 (by omega) (by omega), hJ 34 26 (by omega) (by omega), hJ 34 27 (by omega) (by omega), hJ 34 28 (by omega) (by omega), hJ 34 29 (by omega) (by omega), hJ 34 30 (by omega) (by omega), hJ 34 31 (by omega) (by omega), hJ 34 40 (by omega) (by omega)]
      exact t2
    · by_cases e : c = nc
      · subst e; exact hcj
      · have := t5 c (by omega)
        unfold cJ at this ⊢
        rw [hJ 49 c (by omega) (by omega), hJ 50 c (by omega) (by omega), hJ 51 c (by omega) (by omega), hJ 52 c (by omega) (by omega)]
        exact this
  exact MOV_b (SHP_mono h.1 (by omega)) (fun j => by rw [hJ 56 j (by omega) (by omega)]; exact h.2.1 j) (by rw [hI 0 8 (by omega) (by omega)]; exact hg) (by rw [hJ 34 24 (by omega) (by omega)]; exact m0) (GRS_ext g1 (fun a j q => hI a j (by omega) (by omega)) (fun j q => hJ 34 j (by omega) (by omega)) (fun a j q1 q2 => hJ a j (by omega) (by omega)) (fun _ _ _ => rfl)) c2 (BOK_ext g3 (fun a j q => hI a j (by omega) (by omega)) (fun j q => hJ 34 j (by omega) (by omega)) (fun j => hJ 55 j (by omega) (by omega))) s2 j2
theorem op_chronograph {a0 : Int32} (h : MOV k S Rf I J L K) : RES (k + 1) S Rf (f_H_chronograph S Rf a0 I L) (f_Md_chronograph a0 J K) := by
  have h3 := h.2.2.1.1
  have w0 : f_Md_within a0.toInt64 0 2 = f_H_isWithin a0 0 2 := w_eq rfl rfl
  rw [f_H_chronograph, f_Md_chronograph, w0]
  simp only [bnd]
  by_cases v0 : f_H_isWithin a0 0 2 = 0
  · rw [if_pos v0, if_pos v0]; exact RES.nop h rfl rfl
  rw [if_neg v0, if_neg v0]
  rcases h.2.2.1.2 with hg | hg
  · have m0 : J 34 24 = 0 := by rw [← h3]; exact hg
    obtain ⟨A, A0, T, nl, nc, nw, pc, pw, g1, g2, g3, g4, g5⟩ := MOV_d h hg
    obtain ⟨i07, j22, c4, _⟩ := g2.2.2.2.2.2.1
    rw [if_pos hg, if_pos m0, i07, j22]
    by_cases hn : nc < 4
    · have c1 : ¬ (4 : Int32) ≤ jN nc := fun q => by have := (jN_le (a := 4) (by decide) (by omega)).mp q; omega
      have c2 : ¬ jN nc = 4 := fun q => by have := (jN_inj (b := 4) (by omega) (by decide)).mp q; omega
      have c3 : 0 ≤ jN nc ∧ jN nc < 4 := jN_in (n := 4) hn (by decide)
      obtain ⟨p, hp⟩ : ∃ p, p = 102 + nc := ⟨_, rfl⟩
      have hrf : Rf 12 nc = some p := by rw [hp]; exact h.1.2.2 nc hn
      have sl : S[p]? = some (.inl 3) := by rw [hp, h.1.1]; exact xSl_ck nc hn
      obtain ⟨X, hX⟩ : ∃ X, X = uI (uI (uI (uI (uI I p 0 a0) p 1 0) p 4 0) p 2 0) p 3 0 := ⟨_, rfl⟩
      have oX : ∀ a j, a ≠ p → X a j = I a j := fun a j q => by rw [hX]; simp [uI, q]
      have bg : f_Cr_begin p a0 I L = some (X, L) := by
        have z : (uI (uI (uI (uI I p 0 a0) p 1 0) p 4 0) p 2 0) p 4 = 0 := by simp [uI]
        rw [f_Cr_begin, f_Cr_restart, f_Cr_setCount, if_pos z, Option.bind_some, Option.bind_some, hX]
      have u07 : X 0 7 = jN nc := by rw [oX 0 7 (by omega)]; exact i07
      rw [if_neg c1, if_pos c3, jN_tc (by omega), hrf]
      simp only [oc]
      rw [if_pos sl, f_H_chronograph_L42_2, bg, Option.bind_some, if_neg c2, if_pos c3, if_pos c3, if_pos c3, if_pos c3, if_pos c3]
      simp only [bnd]
      rw [u07, jN_1]
      refine ⟨jN nc, _, _, _, K, rfl, rfl, ?_⟩
      refine MOV_clk h hg hp g1 g2 g3 g4 g5 hn (fun a j z1 z2 => ?_) (by simp [uI]) (by simp [uI]) (fun b j z1 z2 => ?_) ?_ ?_ ?_ ?_ ?_ ⟨by simp [uI], by simp [uI], by simp [uI], by simp [uI]⟩
      · rw [uI_o z2, oX a j z1]
      · rw [uI_o z2, uI_o (by omega), uI_o (by omega), uI_o (by omega), uI_o (by omega), uI_o (by omega)]
      · rw [uI_o (by omega), hX]; simp [uI]
      · rw [uI_o (by omega), hX]; simp [uI]
      · rw [uI_o (by omega), hX]; simp [uI]
      · rw [uI_o (by omega), hX]; simp [uI]
      · rw [uI_o (by omega), hX]; simp [uI]
    · have e4 : nc = 4 := by omega
      subst e4
      rw [if_pos (by decide), if_pos (by decide), f_H_chronograph_L42]
      exact RES.nop h rfl rfl
  · have n0 : ¬ I 0 8 = 0 := by rw [hg]; decide
    rw [if_neg n0, if_neg (by rw [← h3]; exact n0)]
    exact RES.nop h rfl rfl
end CLN

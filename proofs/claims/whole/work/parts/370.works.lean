/-! a movement that is built: dial, calendar, strike, chronograph -/
section WKS
variable {S : List xSh} {Rf : Nat → Nat → Option Nat} {I J : Nat → Nat → Int32} {L K : Nat → Nat → Int64} {A A0 T nl nc nw k : Nat} {pc pw : Nat → Nat}
theorem uZ_o {α : Type} {f : Nat → Nat → α} {p a j : Nat} {v : α} (h : a ≠ p) : uZ f p v a j = f a j := if_neg h
theorem uZ_p {α : Type} {f : Nat → Nat → α} {p j : Nat} {v : α} : uZ f p v p j = v := if_pos rfl
theorem op_dial {a0 a1 : Int32} (h : MOV k S Rf I J L K) : RSA (k + 1) (f_H_dial S Rf a0 a1 I L) (f_Md_dial a0 a1 J K) := by
  obtain ⟨h1, h2, ⟨h3, h4⟩, A, A0, T, nl, nc', nw', pc', pw', r, n', s, y1, _⟩ := id h
  have A24 := y1.1.1.2.2.1
  have j0 := y1.1.1.2.2.2.2.2.1
  have w1 : f_Md_within a1.toInt64 2 1000 = f_H_isWithin a1 2 1000 := w_eq rfl rfl
  by_cases ha : ∃ c, c < A ∧ a0 = jN c
  · obtain ⟨a, ha, rfl⟩ := ha
    obtain ⟨z1, z2⟩ := ar_y (L := L) (K := K) y1.2.1 j0 A24 ha
    rw [f_H_dial, if_neg (by rw [z1]; decide), f_Md_dial, z2, Option.bind_some, if_neg (show ¬ (1 : Int32) = 0 by decide), w1]
    simp only [bnd]
    by_cases v : f_H_isWithin a1 2 1000 = 0
    · rw [if_pos v, if_pos v]; exact RSA.nop h rfl rfl
    rw [if_neg v, if_neg v, bi3]
    rcases h4 with hg | hg
    · have m0 : J 34 24 = 0 := by rw [← h3]; exact hg
      obtain ⟨A', A0, T, nl, nc, nw, pc, pw, g1, g2, g3, g4, g5⟩ := MOV_d h hg
      have eA : A' = A := (jN_inj (by have := g1.1.1.2.2.1; omega) (by omega)).mp (g1.2.1.symm.trans y1.2.1)
      subst eA
      have i06 := g2.2.2.2.2.2.2.1.1
      have j16 := g2.2.2.2.2.2.2.1.2.1
      obtain ⟨b, rfl, b1, b2⟩ := ra (a := 2) (b := 1000) (wi_ne.mp v) (by decide) (by decide)
      rw [if_pos hg]
      by_cases hn : nw < 8
      · have c8 : ¬ (8 : Int32) ≤ jN nw := fun q => by have := (jN_le (a := 8) (by decide) (by omega)).mp q; omega
        have c3 : 0 ≤ jN nw ∧ jN nw < 8 := jN_in (n := 8) hn (by decide)
        obtain ⟨p, hpe⟩ : ∃ p, p = 78 + 3 * nw := ⟨_, rfl⟩
        have hrf : Rf 75 nw = some p := by rw [hpe]; exact (h1.2.1 nw hn).1
        have sl : S[p]? = some (.inl 4) := by rw [hpe, h1.1]; exact (xSl_wk nw hn).1
        have p0 : p ≠ 0 := by omega
        obtain ⟨X, hX⟩ : ∃ X, X = uI (uI I p 2 (jN b)) p 0 (jN a) := ⟨_, rfl⟩
        have oX : ∀ a j, a ≠ p → X a j = I a j := fun a j q => by rw [hX]; simp [uI, q]
        obtain ⟨I2, q1, q2, q3⟩ := wS_one (S := S) (p := p) (I := X) (L := L) (I1 := X) (fun _ => rfl) (Or.inl sl)
        have rs : f_Di_restart p (uI X p 1 0) L = some (I2, L) := by
          rcases q1 with q | q | q
          · exact q.2
          · exact absurd (sl.symm.trans q.1) (by simp)
          · exact absurd (sl.symm.trans q.1) (by simp)
        have n06 : I2 0 6 = jN nw := by rw [q3 0 6 (by omega), oX 0 6 (by omega)]; exact i06
        have uo : ∀ j, (uI I2 0 6 (jN (nw + 1))) p j = I2 p j := fun j => uI_o (by omega)
        obtain ⟨r1, r2, r3⟩ := id q2
        rw [sl] at r3
        obtain ⟨_, t2, _⟩ : _ := r3.resolve_right (fun q => by rcases q with q | q; exact s41 q.1.symm; exact s48 q.1.symm)
        obtain ⟨J2, x1, ⟨x2, x3, x4, x5, x6⟩, x7, x8, x9⟩ := work_ok (K := K) (s := 0) (a := jN a) (kd := 0) (m := jN b) (d := 0) m0 j16 hn (Or.inl rfl)
        refine ⟨jN nw, S, uR Rf 11 nw (some p), uI I2 0 6 (jN (nw + 1)), L, J2, K, ?_, x1, ?_⟩
        · rw [i06, if_neg c8, if_pos c3, jN_tc (by omega), hrf]
          simp only [oc]
          rw [if_pos sl, f_H_dial_L56_2, f_Di_begin, Option.bind_some]
          simp only []
          rw [f_H_hang_D, f_H_renew_D, ← hX, rs, Option.bind_some, Option.bind_some]
          simp only []
          rw [n06, if_pos c3, jN_1, jN_tc (by omega)]
          rfl
        · refine MOV_hang h hg (by omega) sl (Or.inl rfl) g1 g2 g3 g4 g5 hn (fun a j z2 => ?_) ?_ (fun a j z1 z2 => ?_) (by simp [uI]) x7 x9 ?_ x8 ⟨⟨a, ha, ?_, x3⟩, Or.inl ⟨sl, x2, b, ⟨b1, b2⟩, ?_, x5⟩⟩
          · simp only [uR]; rw [if_neg z2]
          · simp [uR]
          · rw [uI_o z2, q3 a j z1, oX a j z1]
          · exact wS_self (wS_ext q2 (fun j => uI_o (by omega)))
          · rw [uo, r1, hX]; simp [uI]
          · rw [uo, t2, hX]; simp [uI]
      · have e8 : nw = 8 := by have := g2.2.2.2.2.2.2.1.2.2.1; omega
        subst e8
        rw [i06, if_pos (by decide), f_H_dial_L56]
        exact RSA.nop h rfl (by rw [f_Md_work, if_pos m0, j16, if_pos (by decide)])
    · have n0 : ¬ I 0 8 = 0 := by rw [hg]; decide
      rw [if_neg n0]
      exact RSA.nop h rfl (by rw [f_Md_work, if_neg (by rw [← h3]; exact n0)])
  · obtain ⟨z1, z2⟩ := ar_n (L := L) (K := K) y1.2.1 j0 A24 ha
    exact RSA.nop (v := -1) h (by rw [f_H_dial, if_pos z1]) (by rw [f_Md_dial, z2, Option.bind_some, if_pos rfl])
theorem op_strike {a0 a1 : Int32} (h : MOV k S Rf I J L K) : RSA (k + 1) (f_H_strike S Rf a0 a1 I L) (f_Md_strike a0 a1 J K) := by
  obtain ⟨h1, h2, ⟨h3, h4⟩, A, A0, T, nl, nc', nw', pc', pw', r, n', s, y1, _⟩ := id h
  have A24 := y1.1.1.2.2.1
  have j0 := y1.1.1.2.2.2.2.2.1
  have w1 : f_Md_within a1.toInt64 0 1 = f_H_isWithin a1 0 1 := w_eq rfl rfl
  by_cases ha : ∃ c, c < A ∧ a0 = jN c
  · obtain ⟨a, ha, rfl⟩ := ha
    obtain ⟨z1, z2⟩ := ar_y (L := L) (K := K) y1.2.1 j0 A24 ha
    rw [f_H_strike, if_neg (by rw [z1]; decide), f_Md_strike, z2, Option.bind_some, if_neg (show ¬ (1 : Int32) = 0 by decide), w1]
    simp only [bnd]
    by_cases v : f_H_isWithin a1 0 1 = 0
    · rw [if_pos v, if_pos v]; exact RSA.nop h rfl rfl
    rw [if_neg v, if_neg v, bi3]
    rcases h4 with hg | hg
    · have m0 : J 34 24 = 0 := by rw [← h3]; exact hg
      obtain ⟨A', A0, T, nl, nc, nw, pc, pw, g1, g2, g3, g4, g5⟩ := MOV_d h hg
      have eA : A' = A := (jN_inj (by have := g1.1.1.2.2.1; omega) (by omega)).mp (g1.2.1.symm.trans y1.2.1)
      subst eA
      have i06 := g2.2.2.2.2.2.2.1.1
      have j16 := g2.2.2.2.2.2.2.1.2.1
      have k2 : a1 = 0 ∨ a1 = 1 := by
        obtain ⟨t, rfl, t1, t2⟩ := ra (a := 0) (b := 1) (wi_ne.mp v) (by decide) (by decide)
        have : t = 0 ∨ t = 1 := by omega
        rcases this with rfl | rfl
        · exact Or.inl rfl
        · exact Or.inr rfl
      rw [if_pos hg]
      by_cases hn : nw < 8
      · have c8 : ¬ (8 : Int32) ≤ jN nw := fun q => by have := (jN_le (a := 8) (by decide) (by omega)).mp q; omega
        have c3 : 0 ≤ jN nw ∧ jN nw < 8 := jN_in (n := 8) hn (by decide)
        obtain ⟨p, hpe⟩ : ∃ p, p = 80 + 3 * nw := ⟨_, rfl⟩
        have hrf : Rf 77 nw = some p := by rw [hpe]; exact (h1.2.1 nw hn).2.2
        have sl : S[p]? = some (.inl 8) := by rw [hpe, h1.1]; exact (xSl_wk nw hn).2.2
        have p0 : p ≠ 0 := by omega
        obtain ⟨X, hX⟩ : ∃ X, X = uI (uI I p 2 a1) p 0 (jN a) := ⟨_, rfl⟩
        have oX : ∀ a j, a ≠ p → X a j = I a j := fun a j q => by rw [hX]; simp [uI, q]
        obtain ⟨I2, q1, q2, q3⟩ := wS_one (S := S) (p := p) (I := X) (L := L) (I1 := X) (fun _ => rfl) (Or.inr (Or.inr sl))
        have rs : f_St_restart p (uI X p 1 0) L = some (I2, L) := by
          rcases q1 with q | q | q
          · exact absurd (sl.symm.trans q.1) (by simp)
          · exact absurd (sl.symm.trans q.1) (by simp)
          · exact q.2
        have n06 : I2 0 6 = jN nw := by rw [q3 0 6 (by omega), oX 0 6 (by omega)]; exact i06
        have uo : ∀ j, (uI I2 0 6 (jN (nw + 1))) p j = I2 p j := fun j => uI_o (by omega)
        obtain ⟨r1, r2, r3⟩ := id q2
        rw [sl] at r3
        obtain ⟨_, t2, _⟩ : _ := (r3.resolve_left (fun q => s48 q.1)).resolve_left (fun q => s18 q.1)
        have f2 : X p 2 = a1 := by rw [hX]; simp [uI]
        obtain ⟨J2, x1, ⟨x2, x3, x4, x5, x6⟩, x7, x8, x9⟩ := work_ok (K := K) (s := 2) (a := jN a) (kd := a1) (m := 0) (d := 0) m0 j16 hn (Or.inr (Or.inr rfl))
        refine ⟨jN nw, S, uR Rf 11 nw (some p), uI I2 0 6 (jN (nw + 1)), L, J2, K, ?_, x1, ?_⟩
        · rw [i06, if_neg c8, if_pos c3, jN_tc (by omega), hrf]
          simp only [oc]
          rw [if_pos sl, f_H_strike_L54_2, f_St_begin, Option.bind_some]
          simp only []
          rw [f_H_hang_S, f_H_renew_S, ← hX, rs, Option.bind_some, Option.bind_some]
          simp only []
          rw [n06, if_pos c3, jN_1, jN_tc (by omega)]
          rfl
        · refine MOV_hang h hg (by omega) sl (Or.inr (Or.inr rfl)) g1 g2 g3 g4 g5 hn (fun a j z2 => ?_) ?_ (fun a j z1 z2 => ?_) (by simp [uI]) x7 x9 ?_ x8 ⟨⟨a, ha, ?_, x3⟩, Or.inr (Or.inr ⟨sl, x2, ?_, ?_⟩)⟩
          · simp only [uR]; rw [if_neg z2]
          · simp [uR]
          · rw [uI_o z2, q3 a j z1, oX a j z1]
          · exact wS_self (wS_ext q2 (fun j => uI_o (by omega)))
          · rw [uo, r1, hX]; simp [uI]
          · rw [uo, t2, f2, x4]
          · rw [uo, t2, f2]; exact k2
      · have e8 : nw = 8 := by have := g2.2.2.2.2.2.2.1.2.2.1; omega
        subst e8
        rw [i06, if_pos (by decide), f_H_strike_L54]
        exact RSA.nop h rfl (by rw [f_Md_work, if_pos m0, j16, if_pos (by decide)])
    · have n0 : ¬ I 0 8 = 0 := by rw [hg]; decide
      rw [if_neg n0]
      exact RSA.nop h rfl (by rw [f_Md_work, if_neg (by rw [← h3]; exact n0)])
  · obtain ⟨z1, z2⟩ := ar_n (L := L) (K := K) y1.2.1 j0 A24 ha
    exact RSA.nop (v := -1) h (by rw [f_H_strike, if_pos z1]) (by rw [f_Md_strike, z2, Option.bind_some, if_pos rfl])
theorem op_calendar {a0 a1 a2 a3 a4 : Int32} (h : MOV k S Rf I J L K) : RSA (k + 1) (f_H_calendar S Rf a0 a1 a2 a3 a4 I L) (f_Md_calendar a0 a1 a2 a3 a4 J K) := by
  obtain ⟨h1, h2, ⟨h3, h4⟩, A, A0, T, nl, nc', nw', pc', pw', r, n', s, y1, _⟩ := id h
  have A24 := y1.1.1.2.2.1
  have j0 := y1.1.1.2.2.2.2.2.1
  have w1 : f_Md_within a1.toInt64 0 3 = f_H_isWithin a1 0 3 := w_eq rfl rfl
  have w4 : f_Md_within a4.toInt64 1 9999 = f_H_isWithin a4 1 9999 := w_eq rfl rfl
  have w3 : f_Md_within a3.toInt64 1 12 = f_H_isWithin a3 1 12 := w_eq rfl rfl
  have w2 : f_Md_within a2.toInt64 1 (f_Md_trueLength a3 a4).toInt64 = f_H_isWithin a2 1 (f_Md_trueLength a3 a4) := w_eq rfl rfl
  by_cases ha : ∃ c, c < A ∧ a0 = jN c
  · obtain ⟨a, ha, rfl⟩ := ha
    obtain ⟨z1, z2⟩ := ar_y (L := L) (K := K) y1.2.1 j0 A24 ha
    rw [f_H_calendar, if_neg (by rw [z1]; decide), f_Md_calendar, z2, Option.bind_some, if_neg (show ¬ (1 : Int32) = 0 by decide), w1, w2, w3, w4, f_Ca_isDay, len_3]
    simp only [bnd]
    by_cases v1 : f_H_isWithin a1 0 3 = 0
    · rw [if_pos v1, if_pos v1]; exact RSA.nop h rfl rfl
    rw [if_neg v1, if_neg v1]
    by_cases v4 : f_H_isWithin a4 1 9999 = 0
    · rw [if_pos v4, if_pos v4, if_pos rfl]; exact RSA.nop h rfl rfl
    rw [if_neg v4, if_neg v4]
    by_cases v3 : f_H_isWithin a3 1 12 = 0
    · rw [if_pos v3, if_pos v3, if_pos rfl]; exact RSA.nop h rfl rfl
    rw [if_neg v3, if_neg v3]
    by_cases v2 : f_H_isWithin a2 1 (f_Md_trueLength a3 a4) = 0
    · rw [if_pos v2, if_pos v2, if_pos rfl]; exact RSA.nop h rfl rfl
    rw [if_neg v2, if_neg v2, if_neg (show ¬ (1 : Int32) = 0 by decide)]
    obtain ⟨Y, rfl, Y1, Y2⟩ := ra (a := 1) (b := 9999) (wi_ne.mp v4) (by decide) (by decide)
    obtain ⟨M, rfl, M1, M2⟩ := ra (a := 1) (b := 12) (wi_ne.mp v3) (by decide) (by decide)
    have tlb := tl_bd M Y
    rw [tl_ok M2 (by omega)] at v2
    obtain ⟨D, rfl, D1, D2⟩ := ra (a := 1) (b := tl M Y) (wi_ne.mp v2) (by omega) (by decide)
    have isd : isD D M Y := ⟨⟨Y1, Y2⟩, ⟨M1, M2⟩, D1, D2⟩
    have hday : DAY (jN (dN D M Y)) (jN D) (jN M) (jN Y) := ⟨D, M, Y, isd, rfl, rfl, rfl, rfl⟩
    rw [num_ok isd, Option.bind_some, bi3]
    rcases h4 with hg | hg
    · have m0 : J 34 24 = 0 := by rw [← h3]; exact hg
      obtain ⟨A', A0, T, nl, nc, nw, pc, pw, g1, g2, g3, g4, g5⟩ := MOV_d h hg
      have eA : A' = A := (jN_inj (by have := g1.1.1.2.2.1; omega) (by omega)).mp (g1.2.1.symm.trans y1.2.1)
      subst eA
      have i06 := g2.2.2.2.2.2.2.1.1
      have j16 := g2.2.2.2.2.2.2.1.2.1
      have k4 : a1 = 0 ∨ a1 = 1 ∨ a1 = 2 ∨ a1 = 3 := by
        obtain ⟨t, rfl, t1, t2⟩ := ra (a := 0) (b := 3) (wi_ne.mp v1) (by decide) (by decide)
        have : t = 0 ∨ t = 1 ∨ t = 2 ∨ t = 3 := by omega
        rcases this with rfl | rfl | rfl | rfl
        · exact Or.inl rfl
        · exact Or.inr (Or.inl rfl)
        · exact Or.inr (Or.inr (Or.inl rfl))
        · exact Or.inr (Or.inr (Or.inr rfl))
      rw [if_pos hg]
      by_cases hn : nw < 8
      · have c8 : ¬ (8 : Int32) ≤ jN nw := fun q => by have := (jN_le (a := 8) (by decide) (by omega)).mp q; omega
        have c3 : 0 ≤ jN nw ∧ jN nw < 8 := jN_in (n := 8) hn (by decide)
        obtain ⟨p, hpe⟩ : ∃ p, p = 79 + 3 * nw := ⟨_, rfl⟩
        have hrf : Rf 76 nw = some p := by rw [hpe]; exact (h1.2.1 nw hn).2.1
        have sl : S[p]? = some (.inl 1) := by rw [hpe, h1.1]; exact (xSl_wk nw hn).2.1
        have p0 : p ≠ 0 := by omega
        obtain ⟨X, hX⟩ : ∃ X, X = uI (uI (uI (uI (uI I p 2 a1) p 3 (jN D)) p 4 (jN M)) p 5 (jN Y)) p 0 (jN a) := ⟨_, rfl⟩
        have oX : ∀ a j, a ≠ p → X a j = I a j := fun a j q => by rw [hX]; simp [uI, q]
        have f2 : X p 2 = a1 := by rw [hX]; simp [uI]
        have f3 : X p 3 = jN D := by rw [hX]; simp [uI]
        have f4 : X p 4 = jN M := by rw [hX]; simp [uI]
        have f5 : X p 5 = jN Y := by rw [hX]; simp [uI]
        obtain ⟨I2, q1, q2, q3⟩ := wS_one (S := S) (p := p) (I := X) (L := L) (I1 := X) (fun _ => rfl) (Or.inr (Or.inl ⟨sl, _, by rw [f3, f4, f5]; exact wkd_ok isd⟩))
        have rs : f_Ca_restart p (uI X p 1 0) L = some (I2, L) := by
          rcases q1 with q | q | q
          · exact absurd (sl.symm.trans q.1) (by simp)
          · exact q.2
          · exact absurd (sl.symm.trans q.1) (by simp)
        have n06 : I2 0 6 = jN nw := by rw [q3 0 6 (by omega), oX 0 6 (by omega)]; exact i06
        have uo : ∀ j, (uI I2 0 6 (jN (nw + 1))) p j = I2 p j := fun j => uI_o (by omega)
        obtain ⟨r1, r2, r3⟩ := id q2
        rw [sl] at r3
        obtain ⟨_, ⟨t2, t3, t4, t5⟩, _⟩ : _ := (r3.resolve_left (fun q => s41 q.1)).resolve_right (fun q => s18 q.1.symm)
        obtain ⟨J2, x1, ⟨x2, x3, x4, x5, x6⟩, x7, x8, x9⟩ := work_ok (K := K) (s := 1) (a := jN a) (kd := a1) (m := 0) (d := jN (dN D M Y)) m0 j16 hn (Or.inr (Or.inl ⟨rfl, _, _, _, hday⟩))
        refine ⟨jN nw, S, uR Rf 11 nw (some p), uI I2 0 6 (jN (nw + 1)), L, J2, K, ?_, x1, ?_⟩
        · rw [i06, if_neg c8, if_pos c3, jN_tc (by omega), hrf]
          simp only [oc]
          rw [if_pos sl, f_H_calendar_L65_2, f_Ca_begin, Option.bind_some]
          simp only []
          rw [f_H_hang_C, f_H_renew_C, ← hX, rs, Option.bind_some, Option.bind_some]
          simp only []
          rw [n06, if_pos c3, jN_1, jN_tc (by omega)]
          rfl
        · refine MOV_hang h hg (by omega) sl (Or.inr (Or.inl rfl)) g1 g2 g3 g4 g5 hn (fun a j z2 => ?_) ?_ (fun a j z1 z2 => ?_) (by simp [uI]) x7 x9 ?_ x8 ⟨⟨a, ha, ?_, x3⟩, Or.inr (Or.inl ⟨sl, x2, ⟨?_, by rw [x4]; exact k4⟩, ?_⟩)⟩
          · simp only [uR]; rw [if_neg z2]
          · simp [uR]
          · rw [uI_o z2, q3 a j z1, oX a j z1]
          · exact wS_self (wS_ext q2 (fun j => uI_o (by omega)))
          · rw [uo, r1, hX]; simp [uI]
          · rw [uo, t2, f2, x4]
          · rw [uo, uo, uo, t3, t4, t5, x6, f3, f4, f5]; exact hday
      · have e8 : nw = 8 := by have := g2.2.2.2.2.2.2.1.2.2.1; omega
        subst e8
        rw [i06, if_pos (by decide), f_H_calendar_L65]
        exact RSA.nop h rfl (by rw [f_Md_work, if_pos m0, j16, if_pos (by decide)])
    · have n0 : ¬ I 0 8 = 0 := by rw [hg]; decide
      rw [if_neg n0]
      exact RSA.nop h rfl (by rw [f_Md_work, if_neg (by rw [← h3]; exact n0)])
  · obtain ⟨z1, z2⟩ := ar_n (L := L) (K := K) y1.2.1 j0 A24 ha
    exact RSA.nop (v := -1) h (by rw [f_H_calendar, if_pos z1]) (by rw [f_Md_calendar, z2, Option.bind_some, if_pos rfl])
end WKS

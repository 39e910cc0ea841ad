/-! a movement that is built: dial, calendar, strike, chronograph -/
section WKS
variable {S : List xSh} {Rf : Nat → Nat → Option Nat} {I J : Nat → Nat → Int32} {L K : Nat → Nat → Int64} {A A0 T nl nc nw k : Nat} {pc pw : Nat → Nat}
theorem x_4 : xnf 4 ≤ 20 := by decide
theorem x_1 : xnf 1 ≤ 20 := by decide
theorem x_8 : xnf 8 ≤ 20 := by decide
theorem x_3 : xnf 3 ≤ 20 := by decide
theorem uZ_o {α : Type} {f : Nat → Nat → α} {p a j : Nat} {v : α} (h : a ≠ p) : uZ f p v a j = f a j := if_neg h
theorem uZ_p {α : Type} {f : Nat → Nat → α} {p j : Nat} {v : α} : uZ f p v p j = v := if_pos rfl
theorem u10 {X : Nat → Nat → Int32} {p : Nat} (h : X p 1 = 0) : uI X p 1 0 = X := by
  funext a j
  by_cases z : a = p ∧ j = 1
  · obtain ⟨rfl, rfl⟩ := z; simp [uI, h]
  · exact uI_o z
theorem op_dial {a0 a1 : Int32} (hk : k ≤ 500) (h : MOV k S Rf I J L K) : RSA (k + 1) (f_H_dial S Rf a0 a1 I L) (f_Md_dial a0 a1 J K) := by
  obtain ⟨h1, h2, ⟨h3, h4⟩, A, A0, T, nl, nc', nw', pc', pw', r, n', s, y1, _⟩ := id h
  have A24 := y1.1.1.2.2.1
  have j0 := y1.1.1.2.2.2.2.2.1
  have hS := h1.1.1
  have w1 : f_Md_within a1.toInt64 2 1000 = f_H_isWithin a1 2 1000 := w_eq rfl rfl
  by_cases ha : ∃ c, c < A ∧ a0 = jN c
  · obtain ⟨a, ha, rfl⟩ := ha
    obtain ⟨z1, z2⟩ := ar_y (L := L) (K := K) y1.2.1 j0 A24 ha
    rw [f_H_dial, if_neg (by rw [z1]; decide), f_Md_dial, z2, Option.bind_some, if_neg (show ¬ (1 : Int32) = 0 by decide), w1]
    simp only [bnd]
    by_cases v : f_H_isWithin a1 2 1000 = 0
    · rw [if_pos v, if_pos v]; exact RSA.nop h rfl rfl
    rw [if_neg v, if_neg v, bi3]
    rcases h4 with hg | hg
    · have m0 : J 34 24 = 0 := by rw [← h3]; exact hg
      obtain ⟨A', A0, T, nl, nc, nw, pc, pw, g1, g2, g3, g4, g5⟩ := MOV_d h hg
      have eA : A' = A := (jN_inj (by have := g1.1.1.2.2.1; omega) (by omega)).mp (g1.2.1.symm.trans y1.2.1)
      subst eA
      have i06 := g2.2.2.2.2.2.2.1.1
      have j16 := g2.2.2.2.2.2.2.1.2.1
      obtain ⟨b, rfl, b1, b2⟩ := ra (a := 2) (b := 1000) (wi_ne.mp v) (by decide) (by decide)
      obtain ⟨I1, hI1⟩ : ∃ I1, I1 = uI (uI (uZ I S.length 0) S.length 0 (jN a)) S.length 2 (jN b) := ⟨_, rfl⟩
      have o1 : ∀ a j, a ≠ S.length → I1 a j = I a j := fun a j q => by rw [hI1, uI_o (by omega), uI_o (by omega), uZ_o q]
      have ini : f_Di_init S.length (jN a) (jN b) (uZ I S.length 0) (uZ L S.length 0) = some (I1, uZ L S.length 0) := by rw [hI1]; rfl
      rw [if_pos hg, ini, Option.bind_some]
      simp only []
      have k06 : I1 0 6 = jN nw := by rw [o1 0 6 (by omega)]; exact i06
      by_cases hn : nw < 8
      · have c1 : jN nw < (8 : Int32) := (jN_lt (b := 8) (by omega) (by decide)).mpr hn
        have c3 : 0 ≤ jN nw ∧ jN nw < 8 := jN_in (n := 8) hn (by decide)
        have sl : (S ++ [.inl 4])[S.length]? = some (.inl 4) := by simp
        obtain ⟨I2, q1, q2, q3⟩ := wS_one (S := S ++ [.inl 4]) (p := S.length) (I := I1) (L := uZ L S.length 0) (I1 := I1) (fun _ => rfl) (Or.inl sl)
        have p1 : I1 S.length 1 = 0 := by rw [hI1]; simp [uI, uZ]
        rw [u10 p1] at q1
        have rs : f_Di_restart S.length I1 (uZ L S.length 0) = some (I2, uZ L S.length 0) := by
          rcases q1 with q | q | q
          · exact q.2
          · exact absurd (sl.symm.trans q.1) (by simp)
          · exact absurd (sl.symm.trans q.1) (by simp)
        obtain ⟨J2, x1, ⟨x2, x3, x4, x5, x6⟩, x7, x8, x9⟩ := work_ok (K := K) (s := 0) (a := jN a) (kd := 0) (m := jN b) (d := 0) m0 j16 hn (Or.inl rfl)
        have n06 : I2 0 6 = jN nw := by rw [q3 0 6 (by omega)]; exact k06
        have ip : ∀ j, j ≠ 3 → j ≠ 1 → (uI I2 0 6 (jN (nw + 1))) S.length j = I1 S.length j := fun j z1 z2 => by
          rw [uI_o (by omega)]
          have e := rs
          rw [f_Di_restart] at e
          have := congrArg Prod.fst (Option.some.inj e)
          simp only [] at this
          rw [← this, uI_o (by omega)]
        refine ⟨jN nw, S ++ [.inl 4], uR (uZ Rf S.length none) 11 nw (some S.length), uI I2 0 6 (jN (nw + 1)), uZ L S.length 0, J2, K, ?_, x1, ?_⟩
        · rw [f_H_hang_D, k06, if_pos c1, rs, Option.bind_some]
          simp only []
          rw [n06, if_pos c3, jN_1, jN_tc (by omega)]
          rfl
        · refine MOV_hang h hg hk x_4 (Or.inl rfl) g1 g2 g3 g4 g5 hn (fun a j z1 z2 => ?_) ?_ (fun a j z1 z2 => ?_) (by simp [uI]) (fun a j z => uZ_o z) x7 x9 ?_ x8 ⟨⟨a, ha, ?_, x3⟩, Or.inl ⟨sl, x2, b, ⟨b1, b2⟩, ?_, x5⟩⟩
          · simp only [uR]; rw [if_neg z2, uZ_o z1]
          · simp [uR]
          · rw [uI_o z2, q3 a j z1, o1 a j z1]
          · exact wS_self (wS_ext q2 (fun j => uI_o (by omega)))
          · rw [ip 0 (by decide) (by decide), hI1]; simp [uI]
          · rw [ip 2 (by decide) (by decide), hI1]; simp [uI]
      · have e8 : nw = 8 := by have := g2.2.2.2.2.2.2.1.2.2.1; omega
        subst e8
        refine ⟨-3, S ++ [.inl 4], uZ Rf S.length none, I1, uZ L S.length 0, J, K, ?_, ?_, MOV_app h hg x_4 (fun a j q => uZ_o q) o1 (fun a j q => uZ_o q)⟩
        · rw [f_H_hang_D, k06, if_neg (by decide)]; rfl
        · rw [f_Md_work, if_pos m0, j16, if_pos (by decide)]
    · have n0 : ¬ I 0 8 = 0 := by rw [hg]; decide
      rw [if_neg n0]
      exact RSA.nop h rfl (by rw [f_Md_work, if_neg (by rw [← h3]; exact n0)])
  · obtain ⟨z1, z2⟩ := ar_n (L := L) (K := K) y1.2.1 j0 A24 ha
    exact RSA.nop (v := -1) h (by rw [f_H_dial, if_pos z1]) (by rw [f_Md_dial, z2, Option.bind_some, if_pos rfl])
theorem op_strike {a0 a1 : Int32} (hk : k ≤ 500) (h : MOV k S Rf I J L K) : RSA (k + 1) (f_H_strike S Rf a0 a1 I L) (f_Md_strike a0 a1 J K) := by
  obtain ⟨h1, h2, ⟨h3, h4⟩, A, A0, T, nl, nc', nw', pc', pw', r, n', s, y1, _⟩ := id h
  have A24 := y1.1.1.2.2.1
  have j0 := y1.1.1.2.2.2.2.2.1
  have hS := h1.1.1
  have w1 : f_Md_within a1.toInt64 0 1 = f_H_isWithin a1 0 1 := w_eq rfl rfl
  by_cases ha : ∃ c, c < A ∧ a0 = jN c
  · obtain ⟨a, ha, rfl⟩ := ha
    obtain ⟨z1, z2⟩ := ar_y (L := L) (K := K) y1.2.1 j0 A24 ha
    rw [f_H_strike, if_neg (by rw [z1]; decide), f_Md_strike, z2, Option.bind_some, if_neg (show ¬ (1 : Int32) = 0 by decide), w1]
    simp only [bnd]
    by_cases v : f_H_isWithin a1 0 1 = 0
    · rw [if_pos v, if_pos v]; exact RSA.nop h rfl rfl
    rw [if_neg v, if_neg v, bi3]
    rcases h4 with hg | hg
    · have m0 : J 34 24 = 0 := by rw [← h3]; exact hg
      obtain ⟨A', A0, T, nl, nc, nw, pc, pw, g1, g2, g3, g4, g5⟩ := MOV_d h hg
      have eA : A' = A := (jN_inj (by have := g1.1.1.2.2.1; omega) (by omega)).mp (g1.2.1.symm.trans y1.2.1)
      subst eA
      have i06 := g2.2.2.2.2.2.2.1.1
      have j16 := g2.2.2.2.2.2.2.1.2.1
      have u06 : (uZ I S.length 0) 0 6 = jN nw := by rw [uZ_o (by omega)]; exact i06
      obtain ⟨I1, hI1⟩ : ∃ I1, I1 = uI (uI (uI (uZ I S.length 0) S.length 0 (jN a)) S.length 2 a1) S.length 3 (jN nw) := ⟨_, rfl⟩
      have o1 : ∀ a j, a ≠ S.length → I1 a j = I a j := fun a j q => by rw [hI1, uI_o (by omega), uI_o (by omega), uI_o (by omega), uZ_o q]
      have ini : f_St_init_13 S.length (jN a) a1 ((uZ I S.length 0) 0 6) (uZ I S.length 0) (uZ L S.length 0) = some (I1, uZ L S.length 0) := by rw [hI1, u06]; rfl
      rw [if_pos hg, ini, Option.bind_some]
      simp only []
      have k06 : I1 0 6 = jN nw := by rw [o1 0 6 (by omega)]; exact i06
      by_cases hn : nw < 8
      · have c1 : jN nw < (8 : Int32) := (jN_lt (b := 8) (by omega) (by decide)).mpr hn
        have c3 : 0 ≤ jN nw ∧ jN nw < 8 := jN_in (n := 8) hn (by decide)
        have sl : (S ++ [.inl 8])[S.length]? = some (.inl 8) := by simp
        obtain ⟨I2, q1, q2, q3⟩ := wS_one (S := S ++ [.inl 8]) (p := S.length) (I := I1) (L := uZ L S.length 0) (I1 := I1) (fun _ => rfl) (Or.inr (Or.inr sl))
        have p1 : I1 S.length 1 = 0 := by rw [hI1]; simp [uI, uZ]
        rw [u10 p1] at q1
        have rs : f_St_restart S.length I1 (uZ L S.length 0) = some (I2, uZ L S.length 0) := by
          rcases q1 with q | q | q
          · exact absurd (sl.symm.trans q.1) (by simp)
          · exact absurd (sl.symm.trans q.1) (by simp)
          · exact q.2
        obtain ⟨J2, x1, ⟨x2, x3, x4, x5, x6⟩, x7, x8, x9⟩ := work_ok (K := K) (s := 2) (a := jN a) (kd := a1) (m := 0) (d := 0) m0 j16 hn (Or.inr (Or.inr rfl))
        have n06 : I2 0 6 = jN nw := by rw [q3 0 6 (by omega)]; exact k06
        have ip : ∀ j, j < 5 → (uI I2 0 6 (jN (nw + 1))) S.length j = I1 S.length j := fun j z1 => by
          rw [uI_o (by omega)]
          have e := rs
          rw [f_St_restart] at e
          have := congrArg Prod.fst (Option.some.inj e)
          simp only [] at this
          rw [← this, uI_o (by omega), uI_o (by omega), uI_o (by omega)]
        refine ⟨jN nw, S ++ [.inl 8], uR (uR (uZ Rf S.length none) S.length 4 (some 13)) 11 nw (some S.length), uI I2 0 6 (jN (nw + 1)), uZ L S.length 0, J2, K, ?_, x1, ?_⟩
        · rw [f_H_hang_S, k06, if_pos c1, rs, Option.bind_some]
          simp only []
          rw [n06, if_pos c3, jN_1, jN_tc (by omega)]
          rfl
        · refine MOV_hang h hg hk x_8 (Or.inr (Or.inr rfl)) g1 g2 g3 g4 g5 hn (fun a j z1 z2 => ?_) ?_ (fun a j z1 z2 => ?_) (by simp [uI]) (fun a j z => uZ_o z) x7 x9 ?_ x8 ⟨⟨a, ha, ?_, x3⟩, Or.inr (Or.inr ⟨sl, x2, ?_, ?_, ?_⟩)⟩
          · simp only [uR]; rw [if_neg z2, if_neg (by omega), uZ_o z1]
          · simp [uR]
          · rw [uI_o z2, q3 a j z1, o1 a j z1]
          · exact wS_self (wS_ext q2 (fun j => uI_o (by omega)))
          · rw [ip 0 (by decide), hI1]; simp [uI]
          · rw [ip 2 (by decide), hI1, x4]; simp [uI]
          · rw [ip 3 (by decide), hI1]; simp [uI]
          · have : S.length ≠ 11 := by omega
            simp [uR, this]
      · have e8 : nw = 8 := by have := g2.2.2.2.2.2.2.1.2.2.1; omega
        subst e8
        refine ⟨-3, S ++ [.inl 8], uR (uZ Rf S.length none) S.length 4 (some 13), I1, uZ L S.length 0, J, K, ?_, ?_, MOV_app h hg x_8 (fun a j q => ?_) o1 (fun a j q => uZ_o q)⟩
        · rw [f_H_hang_S, k06, if_neg (by decide)]; rfl
        · rw [f_Md_work, if_pos m0, j16, if_pos (by decide)]
        · simp only [uR]; rw [if_neg (by omega), uZ_o q]
    · have n0 : ¬ I 0 8 = 0 := by rw [hg]; decide
      rw [if_neg n0]
      exact RSA.nop h rfl (by rw [f_Md_work, if_neg (by rw [← h3]; exact n0)])
  · obtain ⟨z1, z2⟩ := ar_n (L := L) (K := K) y1.2.1 j0 A24 ha
    exact RSA.nop (v := -1) h (by rw [f_H_strike, if_pos z1]) (by rw [f_Md_strike, z2, Option.bind_some, if_pos rfl])
theorem op_calendar {a0 a1 a2 a3 a4 : Int32} (hk : k ≤ 500) (h : MOV k S Rf I J L K) : RSA (k + 1) (f_H_calendar S Rf a0 a1 a2 a3 a4 I L) (f_Md_calendar a0 a1 a2 a3 a4 J K) := by
  obtain ⟨h1, h2, ⟨h3, h4⟩, A, A0, T, nl, nc', nw', pc', pw', r, n', s, y1, _⟩ := id h
  have A24 := y1.1.1.2.2.1
  have j0 := y1.1.1.2.2.2.2.2.1
  have hS := h1.1.1
  have w1 : f_Md_within a1.toInt64 0 3 = f_H_isWithin a1 0 3 := w_eq rfl rfl
  have w4 : f_Md_within a4.toInt64 1 9999 = f_H_isWithin a4 1 9999 := w_eq rfl rfl
  have w3 : f_Md_within a3.toInt64 1 12 = f_H_isWithin a3 1 12 := w_eq rfl rfl
  have w2 : f_Md_within a2.toInt64 1 (f_Md_trueLength a3 a4).toInt64 = f_H_isWithin a2 1 (f_Md_trueLength a3 a4) := w_eq rfl rfl
  by_cases ha : ∃ c, c < A ∧ a0 = jN c
  · obtain ⟨a, ha, rfl⟩ := ha
    obtain ⟨z1, z2⟩ := ar_y (L := L) (K := K) y1.2.1 j0 A24 ha
    rw [f_H_calendar, if_neg (by rw [z1]; decide), f_Md_calendar, z2, Option.bind_some, if_neg (show ¬ (1 : Int32) = 0 by decide), w1, w2, w3, w4, f_Ca_isDay, len_3]
    simp only [bnd]
    by_cases v1 : f_H_isWithin a1 0 3 = 0
    · rw [if_pos v1, if_pos v1]; exact RSA.nop h rfl rfl
    rw [if_neg v1, if_neg v1]
    by_cases v4 : f_H_isWithin a4 1 9999 = 0
    · rw [if_pos v4, if_pos v4, if_pos rfl]; exact RSA.nop h rfl rfl
    rw [if_neg v4, if_neg v4]
    by_cases v3 : f_H_isWithin a3 1 12 = 0
    · rw [if_pos v3, if_pos v3, if_pos rfl]; exact RSA.nop h rfl rfl
    rw [if_neg v3, if_neg v3]
    by_cases v2 : f_H_isWithin a2 1 (f_Md_trueLength a3 a4) = 0
    · rw [if_pos v2, if_pos v2, if_pos rfl]; exact RSA.nop h rfl rfl
    rw [if_neg v2, if_neg v2, if_neg (show ¬ (1 : Int32) = 0 by decide)]
    obtain ⟨Y, rfl, Y1, Y2⟩ := ra (a := 1) (b := 9999) (wi_ne.mp v4) (by decide) (by decide)
    obtain ⟨M, rfl, M1, M2⟩ := ra (a := 1) (b := 12) (wi_ne.mp v3) (by decide) (by decide)
    have tlb := tl_bd M Y
    rw [tl_ok M2 (by omega)] at v2
    obtain ⟨D, rfl, D1, D2⟩ := ra (a := 1) (b := tl M Y) (wi_ne.mp v2) (by omega) (by decide)
    have isd : isD D M Y := ⟨⟨Y1, Y2⟩, ⟨M1, M2⟩, D1, D2⟩
    have hday : DAY (jN (dN D M Y)) (jN D) (jN M) (jN Y) := ⟨D, M, Y, isd, rfl, rfl, rfl, rfl⟩
    rw [num_ok isd, Option.bind_some, bi3]
    rcases h4 with hg | hg
    · have m0 : J 34 24 = 0 := by rw [← h3]; exact hg
      obtain ⟨A', A0, T, nl, nc, nw, pc, pw, g1, g2, g3, g4, g5⟩ := MOV_d h hg
      have eA : A' = A := (jN_inj (by have := g1.1.1.2.2.1; omega) (by omega)).mp (g1.2.1.symm.trans y1.2.1)
      subst eA
      have i06 := g2.2.2.2.2.2.2.1.1
      have j16 := g2.2.2.2.2.2.2.1.2.1
      have k4 : a1 = 0 ∨ a1 = 1 ∨ a1 = 2 ∨ a1 = 3 := by
        obtain ⟨t, rfl, t1, t2⟩ := ra (a := 0) (b := 3) (wi_ne.mp v1) (by decide) (by decide)
        have : t = 0 ∨ t = 1 ∨ t = 2 ∨ t = 3 := by omega
        rcases this with rfl | rfl | rfl | rfl
        · exact Or.inl rfl
        · exact Or.inr (Or.inl rfl)
        · exact Or.inr (Or.inr (Or.inl rfl))
        · exact Or.inr (Or.inr (Or.inr rfl))
      obtain ⟨I1, hI1⟩ : ∃ I1, I1 = uI (uI (uI (uI (uI (uZ I S.length 0) S.length 0 (jN a)) S.length 2 a1) S.length 3 (jN D)) S.length 4 (jN M)) S.length 5 (jN Y) := ⟨_, rfl⟩
      have o1 : ∀ a j, a ≠ S.length → I1 a j = I a j := fun a j q => by rw [hI1, uI_o (by omega), uI_o (by omega), uI_o (by omega), uI_o (by omega), uI_o (by omega), uZ_o q]
      have ini : f_Ca_init S.length (jN a) a1 (jN D) (jN M) (jN Y) (uZ I S.length 0) (uZ L S.length 0) = some (I1, uZ L S.length 0) := by rw [hI1]; rfl
      rw [if_pos hg, ini, Option.bind_some]
      simp only []
      have k06 : I1 0 6 = jN nw := by rw [o1 0 6 (by omega)]; exact i06
      by_cases hn : nw < 8
      · have c1 : jN nw < (8 : Int32) := (jN_lt (b := 8) (by omega) (by decide)).mpr hn
        have c3 : 0 ≤ jN nw ∧ jN nw < 8 := jN_in (n := 8) hn (by decide)
        have sl : (S ++ [.inl 1])[S.length]? = some (.inl 1) := by simp
        have f3 : I1 S.length 3 = jN D := by rw [hI1]; simp [uI]
        have f4 : I1 S.length 4 = jN M := by rw [hI1]; simp [uI]
        have f5 : I1 S.length 5 = jN Y := by rw [hI1]; simp [uI]
        obtain ⟨I2, q1, q2, q3⟩ := wS_one (S := S ++ [.inl 1]) (p := S.length) (I := I1) (L := uZ L S.length 0) (I1 := I1) (fun _ => rfl) (Or.inr (Or.inl ⟨sl, _, by rw [f3, f4, f5]; exact wkd_ok isd⟩))
        have p1 : I1 S.length 1 = 0 := by rw [hI1]; simp [uI, uZ]
        rw [u10 p1] at q1
        have rs : f_Ca_restart S.length I1 (uZ L S.length 0) = some (I2, uZ L S.length 0) := by
          rcases q1 with q | q | q
          · exact absurd (sl.symm.trans q.1) (by simp)
          · exact q.2
          · exact absurd (sl.symm.trans q.1) (by simp)
        obtain ⟨J2, x1, ⟨x2, x3, x4, x5, x6⟩, x7, x8, x9⟩ := work_ok (K := K) (s := 1) (a := jN a) (kd := a1) (m := 0) (d := jN (dN D M Y)) m0 j16 hn (Or.inr (Or.inl ⟨rfl, _, _, _, hday⟩))
        have n06 : I2 0 6 = jN nw := by rw [q3 0 6 (by omega)]; exact k06
        obtain ⟨r1, r2, r3⟩ := id q2
        rw [sl] at r3
        obtain ⟨_, ⟨t2, t3, t4, t5⟩, _⟩ : _ := (r3.resolve_left (fun q => s41 q.1)).resolve_right (fun q => s18 q.1.symm)
        have uo : ∀ j, (uI I2 0 6 (jN (nw + 1))) S.length j = I2 S.length j := fun j => uI_o (by omega)
        refine ⟨jN nw, S ++ [.inl 1], uR (uZ Rf S.length none) 11 nw (some S.length), uI I2 0 6 (jN (nw + 1)), uZ L S.length 0, J2, K, ?_, x1, ?_⟩
        · rw [f_H_hang_C, k06, if_pos c1, rs, Option.bind_some]
          simp only []
          rw [n06, if_pos c3, jN_1, jN_tc (by omega)]
          rfl
        · refine MOV_hang h hg hk x_1 (Or.inr (Or.inl rfl)) g1 g2 g3 g4 g5 hn (fun a j z1 z2 => ?_) ?_ (fun a j z1 z2 => ?_) (by simp [uI]) (fun a j z => uZ_o z) x7 x9 ?_ x8 ⟨⟨a, ha, ?_, x3⟩, Or.inr (Or.inl ⟨sl, x2, ⟨?_, by rw [x4]; exact k4⟩, ?_⟩)⟩
          · simp only [uR]; rw [if_neg z2, uZ_o z1]
          · simp [uR]
          · rw [uI_o z2, q3 a j z1, o1 a j z1]
          · exact wS_self (wS_ext q2 (fun j => uI_o (by omega)))
          · rw [uo, r1, hI1]; simp [uI]
          · rw [uo, t2, hI1, x4]; simp [uI]
          · rw [uo, uo, uo, t3, t4, t5, x6, f3, f4, f5]; exact hday
      · have e8 : nw = 8 := by have := g2.2.2.2.2.2.2.1.2.2.1; omega
        subst e8
        refine ⟨-3, S ++ [.inl 1], uZ Rf S.length none, I1, uZ L S.length 0, J, K, ?_, ?_, MOV_app h hg x_1 (fun a j q => uZ_o q) o1 (fun a j q => uZ_o q)⟩
        · rw [f_H_hang_C, k06, if_neg (by decide)]; rfl
        · rw [f_Md_work, if_pos m0, j16, if_pos (by decide)]
    · have n0 : ¬ I 0 8 = 0 := by rw [hg]; decide
      rw [if_neg n0]
      exact RSA.nop h rfl (by rw [f_Md_work, if_neg (by rw [← h3]; exact n0)])
  · obtain ⟨z1, z2⟩ := ar_n (L := L) (K := K) y1.2.1 j0 A24 ha
    exact RSA.nop (v := -1) h (by rw [f_H_calendar, if_pos z1]) (by rw [f_Md_calendar, z2, Option.bind_some, if_pos rfl])
end WKS

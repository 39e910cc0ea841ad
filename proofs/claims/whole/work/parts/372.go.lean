/-! a movement goes -/
section GOO
variable {S : List xSh} {Rf : Nat → Nat → Option Nat} {I J : Nat → Nat → Int32} {L K : Nat → Nat → Int64} {A A0 T nl nc nw k : Nat} {pc pw : Nat → Nat}
theorem cnt_ok (hS : SPR I J L K A T) (i0 : I 2 0 = jN A) (j0 : J 34 0 = jN A) : ∀ (m a : Nat) (c : Int32), a + m = A → ∃ v, (∀ N, m < N → f_Ge_countKnown_L4 N c (jN a) I L = some v) ∧ ∀ N, m < N → f_Md_go_L49 N c (jN a) J K = some (v, J, K) := by
  have hA := hS.1.1
  intro m
  induction m with
  | zero =>
    intro a c h
    have e : a = A := by omega
    subst e
    refine ⟨c, fun N hN => ?_, fun N hN => ?_⟩
    · obtain ⟨N, rfl⟩ : ∃ k, N = k + 1 := ⟨N - 1, by omega⟩
      rw [f_Ge_countKnown_L4, i0, if_pos (Int32.le_refl _)]
    · obtain ⟨N, rfl⟩ : ∃ k, N = k + 1 := ⟨N - 1, by omega⟩
      rw [f_Md_go_L49, j0, if_pos (Int32.le_refl _)]
  | succ m ih =>
    intro a c h
    have ha : a < A := by omega
    have c1 : ¬ jN A ≤ jN a := fun q => by have := (jN_le (by omega) (by omega)).mp q; omega
    have c2 : 0 ≤ jN a ∧ jN a < 24 := jN_in (n := 24) (by omega) (by decide)
    have f := sk_57 (hS.2.1 a ha)
    have kc := kn_C hS i0 ha
    by_cases z : L 4 a = 0
    · obtain ⟨v, v1, v2⟩ := ih (a + 1) c (by omega)
      rw [if_pos z] at kc
      refine ⟨v, fun N hN => ?_, fun N hN => ?_⟩
      · obtain ⟨N, rfl⟩ : ∃ k, N = k + 1 := ⟨N - 1, by omega⟩
        rw [f_Ge_countKnown_L4, i0, if_neg c1, kc, Option.bind_some, if_pos rfl, jN_1]
        exact v1 N (by omega)
      · obtain ⟨N, rfl⟩ : ∃ k, N = k + 1 := ⟨N - 1, by omega⟩
        rw [f_Md_go_L49, j0, if_neg c1, if_pos c2, jN_tc (by omega), if_pos (f.mpr z), jN_1, Int32.add_zero]
        exact v2 N (by omega)
    · obtain ⟨v, v1, v2⟩ := ih (a + 1) (c + 1) (by omega)
      rw [if_neg z] at kc
      refine ⟨v, fun N hN => ?_, fun N hN => ?_⟩
      · obtain ⟨N, rfl⟩ : ∃ k, N = k + 1 := ⟨N - 1, by omega⟩
        rw [f_Ge_countKnown_L4, i0, if_neg c1, kc, Option.bind_some, if_neg (by decide), jN_1]
        exact v1 N (by omega)
      · obtain ⟨N, rfl⟩ : ∃ k, N = k + 1 := ⟨N - 1, by omega⟩
        rw [f_Md_go_L49, j0, if_neg c1, if_pos c2, jN_tc (by omega), if_neg (fun q => z (f.mp q)), jN_1]
        exact v2 N (by omega)
theorem STJ_self {J0 : Nat → Nat → Int32} {K0 : Nat → Nat → Int64} (h : STJ A nc nw J J0 K K0) : STJ A nc nw J0 J0 K0 K0 := by
  obtain ⟨h1, h2, h3, h4, h5, h6⟩ := h
  exact ⟨fun _ _ _ => rfl, h2, h3, fun _ _ => ⟨rfl, fun _ => ⟨rfl, rfl⟩⟩, h5, fun w hw => wJ_ext (h6 w hw) (fun _ _ => rfl) (h1 42 w (by simp)) (h1 46 w (by simp))⟩
theorem op_go (h : MOV k S Rf I J L K) : RES (k + 1) S Rf (f_H_go I L) (f_Md_go J K) := by
  have h3 := h.2.2.1.1
  rcases h.2.2.1.2 with hg | hg
  · have m0 : J 34 24 = 0 := by rw [← h3]; exact hg
    obtain ⟨A, A0, T, nl, nc, nw, pc, pw, g1, g2, g3, g4, g5⟩ := MOV_d h hg
    have A24 := g1.1.1.2.2.1
    rw [f_H_go, if_pos hg, f_Md_go, if_pos m0]
    rcases g1.1.2.2 with ⟨e1, e2⟩ | ⟨e, he, e1, e2⟩
    · have e1' : I 2 2 = -1 := by simpa [uI] using e1
      rw [if_pos e1', e2, if_neg (by decide)]
      exact RES.nop h rfl rfl
    · have e1' : I 2 2 = jN e := by simpa [uI] using e1
      have A0A := g1.1.1.2.1
      have ge : (0 : Int32) ≤ jN e := jN_ge0 (by omega)
      have ne : ¬ jN e = -1 := fun q => by rw [q] at ge; exact absurd ge (by decide)
      obtain ⟨J', K', K'', a1, a2, a3, a4, a5, a6⟩ := sp_call (K := K) g1
      have e32 : K' 34 32 = K 34 32 := a5 34 32 (by decide) (by decide) (by decide) (by decide)
      rw [e1', if_neg ne, e2, if_pos ge, a1, Option.bind_some]
      simp only []
      rw [a2, Option.bind_some]
      simp only []
      by_cases hl : I 2 4 = 0
      · rw [if_pos hl, if_pos hl]
        obtain ⟨Jx, hJx⟩ : ∃ Jx, Jx = uI (uI J' 34 24 1) 34 42 0 := ⟨_, rfl⟩
        rw [← hJx]
        have oX : ∀ a j, a ≠ 57 → ¬ (a = 34 ∧ (j = 24 ∨ j = 42)) → Jx a j = J a j := fun a j q1 q2 => by rw [hJx, uI_o (by omega), uI_o (by omega)]; exact a4 a j q1
        have oI : ∀ a j, ¬ (a = 0 ∧ j = 8) → (uI I 0 8 1) a j = I a j := fun a j q => uI_o q
        have cx : COR S Rf A nc nw pc pw 0 0 0 (uI I 0 8 1) Jx L K'' := COR_ext g2 (fun a j q => oI a j (by omega)) (fun a j q => oX a j (by omega) (by omega)) (fun _ _ _ => rfl) (by rw [a6 34 32 (by decide) (by decide)]; exact e32)
        have sx : SPR (uI I 0 8 1) Jx L K'' A T := SPR_x a3 (oI 2 3 (by omega)) (by rw [hJx]; simp [uI]) (fun i => by rw [hJx]; simp [uI]) (fun _ _ _ => rfl) (fun a j q => a6 a j (by omega) (by omega))
        have mx := cor_mv.mp ⟨cx, sx⟩
        have si : STI S nc nw pc pw (uI I 0 8 1) (uI I 0 8 1) L L := STI_b g2.2.2.2.2.1 g2.2.2.2.2.2.2.2.2 g4 (fun j q => oI 1 j (by omega)) (oI 9 3 (by omega)) (oI 13 3 (by omega)) (fun a j q => oI a j (by omega)) rfl
        have hk := cx.2.2.2.2.2.2.1
        have hc := cx.2.2.2.2.2.1
        obtain ⟨J2, b1, b2, b3⟩ := ren_ok (A := A) (K := K'') ⟨hk.2.1, hk.2.2.1⟩ ⟨hc.2.1, hc.2.2.1⟩ (wOK_of hk).2
        have m2 := st_mv mx si b2
        obtain ⟨c2, s2⟩ := cor_mv.mpr m2
        have j34 : J2 34 0 = jN A := by rw [b3 34 0 (by omega) (by omega), oX 34 0 (by omega) (by omega)]; exact g1.1.1.2.2.2.2.2.1
        obtain ⟨v, v1, v2⟩ := cnt_ok s2 (by rw [oI 2 0 (by omega)]; exact g1.2.1) j34 A 0 0 (by omega)
        have v1' : f_Ge_countKnown (uI I 0 8 1) L = some v := v1 xF (xF_lt (by omega))
        have v2' : f_Md_go_L49 xF 0 0 J2 (uL K'' 34 32 0) = some (v, J2, uL K'' 34 32 0) := v2 xF (xF_lt (by omega))
        rw [v1', Option.bind_some, b1, Option.bind_some]
        simp only []
        rw [v2']
        have fJ : ∀ a j, ¬ (48 ≤ a ∧ a ≤ 52) → a ≠ 57 → ¬ (a = 34 ∧ ((24 ≤ j ∧ j ≤ 31) ∨ j = 40 ∨ j = 42 ∨ j = 45 ∨ j = 46 ∨ j = 47)) → J2 a j = J a j := fun a j q1 q2 q3 => by
          rw [b3 a j q1 (by omega)]; exact oX a j q2 (by omega)
        have z24 : J2 34 24 = 1 := by rw [b3 34 24 (by omega) (by omega), hJx]; simp [uI]
        refine ⟨v, _, L, J2, _, rfl, rfl, SHP_mono h.1 (by omega), fun j => by rw [fJ 56 j (by omega) (by omega) (by omega)]; exact h.2.1 j, ⟨by rw [z24]; simp [uI], Or.inr (by simp [uI])⟩, A, A0, T, nl, nc, nw, pc, pw, 0, 0, 0, ?_, c2, ⟨⟨?_, ?_⟩, ?_, ?_, by omega, ?_, fun j hj => by omega⟩, fun z => ?_, fun _ => ⟨s2, fun i hi J0 K0 h1 h2 I0 L0 h3 => ?_, fun J0 K0 h1 h2 => ?_⟩⟩
        · exact GRS_ext g1 (fun a j q => oI a j (by omega)) (fun j q => fJ 34 j (by omega) (by omega) (by omega)) (fun a j q1 q2 => fJ a j (by omega) (by omega) (by omega)) (fun _ _ _ => rfl)
        · rw [oI 15 0 (by omega)]; exact g3.1.1
        · rw [oI 15 1 (by omega)]; exact g3.1.2
        · rw [oI 15 3 (by omega)]; exact g3.2.1
        · rw [b3 34 42 (by omega) (by omega), hJx]; simp [uI]; rfl
        · rw [fJ 34 43 (by omega) (by omega) (by omega)]; exact g3.2.2.2.2.1
        · exact absurd (show (uI I 0 8 1) 0 8 = 0 from z) (by simp [uI])
        · have : i = 0 := by omega
          subst this
          exact ⟨I0, L0, J0, K0, 0, 0, rfl, rfl, h3, FI2.rf, FJ2.rf, fun _ _ _ => rfl, fun _ _ _ => rfl⟩
        · exact ⟨J0, K0, 0, 0, rfl, mv_mix m2 (STJ_self b2) h1 (wOK_of c2.2.2.2.2.2.2.1).2, FJ2.rf⟩
      · rw [if_neg hl, if_neg hl]
        obtain ⟨h1, h2, ⟨h3', h4⟩, B, B0, T', nl', nc', nw', pc', pw', r, n, s, f1, f2, f3, f4, f5⟩ := id h
        have m1 : MOV (k + 1) S Rf I J' L K' := MOV_q h g1 g2 g3 (fun _ => ⟨rfl, g4, g5⟩) (fun q => by rw [hg] at q; exact absurd q (by decide)) a3 (fun a j q _ => a4 a j q) e32
        exact ⟨-2, I, L, J', K'', rfl, rfl, MOV_ext m1 (Nat.le_refl _) (fun _ _ _ => rfl) (fun _ _ _ => rfl) (fun _ _ _ => rfl) (fun a j q => a6 a j (by omega) (by omega))⟩
  · have n0 : ¬ I 0 8 = 0 := by rw [hg]; decide
    exact RES.nop h (by rw [f_H_go, if_neg n0]) (by rw [f_Md_go, if_neg (by rw [← h3]; exact n0)])
end GOO

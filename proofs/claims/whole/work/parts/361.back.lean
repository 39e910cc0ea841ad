/-! the book: back -/
def bkI (I : Nat → Nat → Int32) (k : Nat) : bRow := (I 16 (4 * k), I 16 (4 * k + 1), I 16 (4 * k + 2), I 16 (4 * k + 3))
/-- the book, both -/
def BOK (r : Nat) (I J : Nat → Nat → Int32) : Prop := (I 15 0 = 4 ∧ I 15 1 = 2000) ∧ I 15 3 = jN r ∧ J 34 42 = jN r ∧ r ≤ 2000 ∧ J 34 43 = 0 ∧ ∀ j, j < 4 * r → I 16 j = J 55 j
section BCK
variable {S : List xSh} {Rf : Nat → Nat → Option Nat} {I J : Nat → Nat → Int32} {L K : Nat → Nat → Int64} {A T nc nw rr n s : Nat} {pc pw : Nat → Nat}
theorem bi3 {α β γ : Type} (x : Option (α × β × γ)) : (x.bind fun q => some (q.1, q.2.1, q.2.2)) = x := by cases x <;> rfl
theorem at15 {k c r : Nat} (h : I 15 0 = 4 ∧ I 15 1 = 2000) (h3 : I 15 3 = jN r) (hr : r ≤ 2000) (hk : k < r) (hc : c < 4) : f_Ro_at_15 (jN k) (jN c) I L = some (I 16 (4 * k + c)) := by
  have e : jN k * 4 + jN c = jN (4 * k + c) := by
    have := jN_mul k 4
    rw [show (4 : Int32) = jN 4 from rfl, this, jN_add, Nat.mul_comm]
  have c1 : ¬ jN k < 0 := fun q => by have := (jN_lt (b := 0) (by omega) (by decide)).mp q; omega
  have c2 : ¬ (2000 : Int32) ≤ jN k := fun q => by have := (jN_le (a := 2000) (by decide) (by omega)).mp q; omega
  have c3 : ¬ jN r ≤ jN k := fun q => by have := (jN_le (by omega) (by omega)).mp q; omega
  have c4 : ¬ jN c < 0 := fun q => by have := (jN_lt (b := 0) (by omega) (by decide)).mp q; omega
  have c5 : ¬ (4 : Int32) ≤ jN c := fun q => by have := (jN_le (a := 4) (by decide) (by omega)).mp q; omega
  have c6 : 0 ≤ jN (4 * k + c) ∧ jN (4 * k + c) < 8000 := jN_in (n := 8000) (by omega) (by decide)
  have hh : ¬ f_Ro_has_15 (jN k) (jN c) I L = 0 := by
    rw [f_Ro_has_15, h.1, h.2, h3, if_neg c1, if_neg c2, if_neg c3, if_neg c4, if_neg c5]
    decide
  rw [f_Ro_at_15, if_neg hh, h.1, e, if_pos c6, jN_tc (by omega)]
theorem rp_ok {k r : Nat} (h : I 15 0 = 4 ∧ I 15 1 = 2000) (h3 : I 15 3 = jN r) (hr : r ≤ 2000) (hk : k < r) : f_H_repeat S Rf (jN k) I L = stC S Rf (bkI I k) I L := by
  have a0 : f_Ro_at_15 (jN k) 0 I L = some (I 16 (4 * k)) := at15 (c := 0) h h3 hr hk (by decide)
  have a1 : f_Ro_at_15 (jN k) 1 I L = some (I 16 (4 * k + 1)) := at15 (c := 1) h h3 hr hk (by decide)
  have a2 : f_Ro_at_15 (jN k) 2 I L = some (I 16 (4 * k + 2)) := at15 (c := 2) h h3 hr hk (by decide)
  have a3 : f_Ro_at_15 (jN k) 3 I L = some (I 16 (4 * k + 3)) := at15 (c := 3) h h3 hr hk (by decide)
  rw [f_H_repeat, a0, a1, a2, a3]
  simp only [Option.bind_some, bi3, stC, bkI]
  rfl
theorem bk_C {r nn : Nat} {I0 In : Nat → Nat → Int32} {L0 Ln : Nat → Nat → Int64} (h : I0 15 0 = 4 ∧ I0 15 1 = 2000) (h3 : I0 15 3 = jN r) (hr : r ≤ 2000) (hn : nn ≤ r) (hv : ∀ k, k ≤ nn → ∃ I1 L1, RC S Rf (bkI I0) k I0 L0 = some (I1, L1) ∧ FI2 I0 I1) (hN : RC S Rf (bkI I0) nn I0 L0 = some (In, Ln)) : ∀ (m k : Nat) (I1 : Nat → Nat → Int32) (L1 : Nat → Nat → Int64), k + m = nn → RC S Rf (bkI I0) k I0 L0 = some (I1, L1) → FI2 I0 I1 → ∀ N, m < N → f_H_back_L33 S Rf N (jN nn) (jN k) I1 L1 = some (0, uI In 15 3 (jN nn), Ln) := by
  intro m
  induction m with
  | zero =>
    intro k I1 L1 h1 h2 _ N hN'
    obtain ⟨N, rfl⟩ : ∃ k, N = k + 1 := ⟨N - 1, by omega⟩
    have e : k = nn := by omega
    subst e
    rw [hN] at h2
    obtain ⟨rfl, rfl⟩ : In = I1 ∧ Ln = L1 := ⟨congrArg Prod.fst (Option.some.inj h2), congrArg Prod.snd (Option.some.inj h2)⟩
    rw [f_H_back_L33, if_pos (Int32.le_refl _)]
  | succ m ih =>
    intro k I1 L1 h1 h2 hf N hN'
    obtain ⟨N, rfl⟩ : ∃ k, N = k + 1 := ⟨N - 1, by omega⟩
    have f15 : ∀ j, I1 15 j = I0 15 j := fun j => hf 15 j (by decide) (by decide) (by decide) (by omega) (by omega) (by omega)
    have f16 : bkI I1 k = bkI I0 k := by
      have : ∀ j, I1 16 j = I0 16 j := fun j => hf 16 j (by decide) (by decide) (by decide) (by omega) (by omega) (by omega)
      simp only [bkI, this]
    have c1 : ¬ jN nn ≤ jN k := fun q => by have := (jN_le (by omega) (by omega)).mp q; omega
    obtain ⟨I2, L2, g1, g2⟩ := hv (k + 1) (by omega)
    have g1' := g1
    rw [RC, h2, Option.bind_some] at g1'
    rw [f_H_back_L33, if_neg c1, rp_ok (r := r) (by rw [f15, f15]; exact h) (by rw [f15]; exact h3) hr (by omega), f16, jN_1]
    simp only [] at g1'
    cases hq : stC S Rf (bkI I0 k) I1 L1 with
    | none => rw [hq] at g1'; exact absurd g1' (by simp)
    | some q =>
      rw [hq, Option.bind_some] at g1'
      obtain ⟨e1, e2⟩ : q.2.1 = I2 ∧ q.2.2 = L2 := ⟨congrArg Prod.fst (Option.some.inj g1'), congrArg Prod.snd (Option.some.inj g1')⟩
      rw [Option.bind_some, e1, e2]
      exact ih (k + 1) I2 L2 (by omega) g1 g2 N (by omega)
theorem l37_ok {k nn N : Nat} (hk : k < 2000) (c1 : ¬ jN nn ≤ jN k) : f_Md_back_L37 (N + 1) (jN nn) (jN k) J K = (stM (J 55 (4 * k), J 55 (4 * k + 1), J 55 (4 * k + 2), J 55 (4 * k + 3)) J K).bind fun q => f_Md_back_L37 N (jN nn) (jN (k + 1)) q.2.1 q.2.2 := by
  have e0 : 4 * jN k = jN (4 * k) := jN_mul 4 k
  have e1 : jN (4 * k) + 1 = jN (4 * k + 1) := jN_add _ 1
  have e2 : jN (4 * k) + 2 = jN (4 * k + 2) := jN_add _ 2
  have e3 : jN (4 * k) + 3 = jN (4 * k + 3) := jN_add _ 3
  have d0 : 0 ≤ jN (4 * k) ∧ jN (4 * k) < 8000 := jN_in (n := 8000) (by omega) (by decide)
  have d1 : 0 ≤ jN (4 * k + 1) ∧ jN (4 * k + 1) < 8000 := jN_in (n := 8000) (by omega) (by decide)
  have d2 : 0 ≤ jN (4 * k + 2) ∧ jN (4 * k + 2) < 8000 := jN_in (n := 8000) (by omega) (by decide)
  have d3 : 0 ≤ jN (4 * k + 3) ∧ jN (4 * k + 3) < 8000 := jN_in (n := 8000) (by omega) (by decide)
  rw [f_Md_back_L37, if_neg c1, e0, e1, e2, e3, if_pos d1]
  simp only [bnd, if_pos d2, if_pos d0, if_pos d3]
  rw [jN_tc (by omega), jN_tc (by omega), jN_tc (by omega), jN_tc (by omega), jN_1]
  simp only [stM]
  by_cases z0 : J 55 (4 * k) = 0
  · rw [if_pos z0, if_pos z0]
  · rw [if_neg z0, if_neg z0]
    by_cases z1 : J 55 (4 * k) = 1
    · rw [if_pos z1, if_pos z1]
    · rw [if_neg z1, if_neg z1]
      by_cases z2 : J 55 (4 * k) = 2
      · rw [if_pos z2, if_pos z2]
      · rw [if_neg z2, if_neg z2]
        by_cases z3 : J 55 (4 * k) = 3
        · rw [if_pos z3, if_pos z3]
        · rw [if_neg z3, if_neg z3]
          by_cases z4 : J 55 (4 * k) = 4
          · rw [if_pos z4, if_pos z4]
          · rw [if_neg z4, if_neg z4]
theorem bk_M {r nn : Nat} {bk : Nat → bRow} {J0 Jn : Nat → Nat → Int32} {K0 Kn : Nat → Nat → Int64} (hr : r ≤ 2000) (hn : nn ≤ r) (hb : ∀ k, k < r → bk k = (J0 55 (4 * k), J0 55 (4 * k + 1), J0 55 (4 * k + 2), J0 55 (4 * k + 3))) (hv : ∀ k, k ≤ nn → ∃ J1 K1, RM bk k J0 K0 = some (J1, K1) ∧ FJ2 J0 J1) (hN : RM bk nn J0 K0 = some (Jn, Kn)) : ∀ (m k : Nat) (J1 : Nat → Nat → Int32) (K1 : Nat → Nat → Int64), k + m = nn → RM bk k J0 K0 = some (J1, K1) → FJ2 J0 J1 → ∀ N, m < N → f_Md_back_L37 N (jN nn) (jN k) J1 K1 = some (0, uI (uI Jn 34 43 0) 34 42 (jN nn), Kn) := by
  intro m
  induction m with
  | zero =>
    intro k I1 L1 h1 h2 _ N hN'
    obtain ⟨N, rfl⟩ : ∃ k, N = k + 1 := ⟨N - 1, by omega⟩
    have e : k = nn := by omega
    subst e
    rw [hN] at h2
    obtain ⟨rfl, rfl⟩ : Jn = I1 ∧ Kn = L1 := ⟨congrArg Prod.fst (Option.some.inj h2), congrArg Prod.snd (Option.some.inj h2)⟩
    rw [f_Md_back_L37, if_pos (Int32.le_refl _)]
  | succ m ih =>
    intro k J1 K1 h1 h2 hf N hN'
    obtain ⟨N, rfl⟩ : ∃ k, N = k + 1 := ⟨N - 1, by omega⟩
    have f55 : ∀ j, J1 55 j = J0 55 j := fun j => hf 55 j (by decide) (by decide) (by decide) (by decide) (by decide) (by decide) (by decide) (by simp)
    have c1 : ¬ jN nn ≤ jN k := fun q => by have := (jN_le (by omega) (by omega)).mp q; omega
    obtain ⟨I2, L2, g1, g2⟩ := hv (k + 1) (by omega)
    have g1' := g1
    rw [RM, h2, Option.bind_some] at g1'
    rw [l37_ok (by omega) c1, f55, f55, f55, f55, ← hb k (by omega)]
    simp only [] at g1'
    cases hq : stM (bk k) J1 K1 with
    | none => rw [hq] at g1'; exact absurd g1' (by simp)
    | some q =>
      rw [hq, Option.bind_some] at g1'
      obtain ⟨e1, e2⟩ : q.2.1 = I2 ∧ q.2.2 = L2 := ⟨congrArg Prod.fst (Option.some.inj g1'), congrArg Prod.snd (Option.some.inj g1')⟩
      rw [Option.bind_some, e1, e2]
      exact ih (k + 1) I2 L2 (by omega) g1 g2 N (by omega)
theorem wOK_of (h : WK S Rf A nw pw I J) : wOK S nw pw I ∧ jOK nw J := by
  refine ⟨fun w hw => ?_, fun w hw => ?_⟩
  · obtain ⟨_, _, h | h | h⟩ := h.2.2.2 w hw
    · exact Or.inl h.1
    · obtain ⟨D, M, Y, hD, v1, v2, v3, v4⟩ := h.2.2.2.2.2.2.2.2
      exact Or.inr (Or.inl ⟨h.1, _, by rw [v1, v2, v3]; exact wkd_ok hD⟩)
    · exact Or.inr (Or.inr h.1)
  · obtain ⟨_, _, h | h | h⟩ := h.2.2.2 w hw
    · exact Or.inl h.2.1
    · exact Or.inr (Or.inl ⟨h.2.1, _, _, _, h.2.2.2.2.2.2.2.2⟩)
    · exact Or.inr (Or.inr h.2.1)
/-- of the movement, all but the speeds of the reference -/
theorem MV_J {I' J' : Nat → Nat → Int32} {L' K' : Nat → Nat → Int64} (h : MV S Rf A T nc nw pc pw rr n s I J L K) (e1 : ∀ a j, a < 15 ∨ (75 ≤ a ∧ a < 1000) → I' a j = I a j) (e2 : ∀ a j, (a = 34 ∧ j ≤ 40) ∨ (41 ≤ a ∧ a ≤ 54) ∨ a = 57 → J' a j = J a j) (e3 : ∀ a j, a < 6 → L' a j = L a j) (e4 : ∀ a j, (a = 34 ∧ j = 32) ∨ a = 58 ∨ a = 59 → K' a j = K a j) : MV S Rf A T nc nw pc pw rr n s I' J' L' K' := by
  obtain ⟨h1, h2, h3, h4, h5, h6, h7, h8, h9, h10⟩ := h
  refine ⟨?_, ?_, ?_, ?_, ?_, h6, ?_, ?_, ?_, h10⟩
  · exact DY_ext h1 (fun j => e1 1 j (by omega)) (fun j => e1 9 j (by omega)) (fun j => e1 10 j (by omega)) (fun j _ _ => e2 34 j (by omega)) (fun j => e2 53 j (by omega))
  · obtain ⟨⟨w1, w2, w3, w4, w5⟩, w6⟩ := h2
    refine ⟨⟨w1, by rw [e1 1 12 (by omega)]; exact w2, by rw [e2 34 25 (by omega)]; exact w3, by rw [e1 1 5 (by omega), e2 34 14 (by omega)]; exact w4, by rw [e3 1 7 (by omega), e4 34 32 (by simp)]; exact w5⟩, ?_⟩
    unfold tv at w6 ⊢
    simp only [e1 1 5 (by omega), e3 1 7 (by omega), e3 4 _ (by omega), e3 3 _ (by omega), e3 5 _ (by omega)]
    exact w6
  · obtain ⟨⟨s1, s2, s3, s4, s5⟩, s6, s7⟩ := h3
    have f57 : ∀ j, J' 57 j = J 57 j := fun j => e2 57 j (by omega)
    have f58 : ∀ j, K' 58 j = K 58 j := fun j => e4 58 j (by omega)
    have f59 : ∀ j, K' 59 j = K 59 j := fun j => e4 59 j (by omega)
    unfold SPR sk
    unfold sk at s6
    simp only [e1 2 3 (by omega), e2 34 9 (by omega), e3 4 _ (by omega), e3 3 _ (by omega), e3 5 _ (by omega), f57, f58, f59]
    exact ⟨⟨s1, s2, s3, s4, s5⟩, s6, s7⟩
  · exact CB_ext h4 (fun j _ _ => e1 1 j (by omega)) (fun j _ _ => e2 34 j (by omega))
  · intro j hj
    rw [e1 8 j (by omega), e2 41 j (by omega)]; exact h5 j hj
  · exact CK_ext h7 (e1 0 7 (by omega)) (fun c hc j => e1 _ j (Or.inr ⟨(h6.1 c hc).2.2, (h10.1 c hc).1⟩)) (e2 34 22 (by omega)) (fun a i q => e2 a i (by omega))
  · exact ⟨by rw [e1 0 6 (by omega)]; exact h8.1, by rw [e2 34 16 (by omega)]; exact h8.2.1, h8.2.2.1, fun w hw => WR_ext (h8.2.2.2 w hw) (fun j => e1 _ j (Or.inr ⟨(h6.2.1 w hw).2.1, (h10.2 w hw).1⟩)) (fun i _ => e2 48 _ (by omega)) (fun a q1 q2 => e2 a w (by omega))⟩
  · exact STK_ext h9 (e1 13 3 (by omega)) (e1 13 0 (by omega)) (e1 13 1 (by omega)) (e2 34 40 (by omega)) (fun j => e1 14 j (by omega)) (fun j => e2 54 j (by omega))
theorem back_ok {r nn : Nat} (h : MV S Rf A T nc nw pc pw r n s I J L K) (hg : ¬ J 34 24 = 0) (hi : I 0 8 = J 34 24) (hb : BOK r I J) (hv : VAL S Rf A T nc nw pc pw (bkI I) r J K) (hn : nn ≤ r) : ∃ I' L' J' K' n' s', f_H_back S Rf (jN nn) I L = some (0, I', L') ∧ f_Md_back (jN nn) J K = some (0, J', K') ∧ MV S Rf A T nc nw pc pw nn n' s' I' J' L' K' ∧ BOK nn I' J' ∧ VAL S Rf A T nc nw pc pw (bkI I') nn J' K' ∧ LNK S Rf A T nc nw pc pw (bkI I') nn I' J' L' K' ∧ (∀ a j, a < 75 → a ≠ 10 → a ≠ 14 → ¬ (a = 1 ∧ 8 ≤ j ∧ j ≤ 14) → ¬ (a = 9 ∧ j = 3) → ¬ (a = 13 ∧ j = 3) → ¬ (a = 15 ∧ j = 3) → I' a j = I a j) ∧ (∀ a j, ¬ (48 ≤ a ∧ a ≤ 54) → ¬ (a = 34 ∧ ((25 ≤ j ∧ j ≤ 31) ∨ j = 40 ∨ j = 42 ∨ j = 45 ∨ j = 46 ∨ j = 47)) → J' a j = J a j) ∧ LF L L' ∧ KF K K' := by
  obtain ⟨b1, b2, b3, b4, b5, b6⟩ := id hb
  have hk := h.2.2.2.2.2.2.2.1
  have hc := h.2.2.2.2.2.2.1
  have ho := h.2.2.2.2.2.1
  obtain ⟨w1, w2⟩ := wOK_of hk
  obtain ⟨I0, a1, a2, a3⟩ := rst_ok (L := L) ho ⟨hk.1, hk.2.2.1⟩ ⟨hc.1, hc.2.2.1⟩ w1
  obtain ⟨J0, c1, c2, c3⟩ := ren_ok (A := A) (K := K) ⟨hk.2.1, hk.2.2.1⟩ ⟨hc.2.1, hc.2.2.1⟩ w2
  have c2' : STJ A nc nw J (uI J0 34 43 1) K (uL K 34 32 0) := by
    obtain ⟨t1, t2, t3, t4, t5, t6⟩ := c2
    refine ⟨fun a j q => by rw [← t1 a j q]; exact uI_o (by omega), ?_, t3, fun a ha => ⟨by rw [← (t4 a ha).1]; simp [uI], (t4 a ha).2⟩, fun c hc' => ?_, fun w hw => wJ_ext (t6 w hw) (fun i _ => by simp [uI]) rfl rfl⟩
    · simp [uI]; exact t2
    · have := t5 c hc'
      unfold cJ at this ⊢
      simp [uI]
      exact this
  have again : ¬ (uI J0 34 43 1) 34 43 = 0 := by simp [uI]
  have mv0 := st_mv h a2 c2'
  have i15 : ∀ j, I0 15 j = I 15 j := fun j => a3 15 j (by decide) (by omega) (by omega) (by omega)
  have i16 : ∀ j, I0 16 j = I 16 j := fun j => a3 16 j (by decide) (by omega) (by omega) (by omega)
  have bkE : bkI I0 = bkI I := by funext k; simp only [bkI, i16]
  have j55 : ∀ j, (uI J0 34 43 1) 55 j = J 55 j := fun j => by
    rw [← c3 55 j (by omega) (by omega)]; simp [uI]
  have all := fun k hk => hv k hk _ _ c2' again _ _ mv0
  obtain ⟨In, Ln, Jn, Kn, n', s', e1, e2, e3, e4, e5, e6, e7⟩ := all nn hn
  have hC := bk_C (S := S) (Rf := Rf) (r := r) (nn := nn) (I0 := I0) (L0 := uL L 1 7 0) (In := In) (Ln := Ln) (by rw [i15, i15]; exact b1) (by rw [i15]; exact b2) b4 hn (fun k hk => by
    obtain ⟨I1, L1, _, _, _, _, q1, _, _, q4, _⟩ := all k (by omega)
    exact ⟨I1, L1, by rw [bkE]; exact q1, q4⟩) (by rw [bkE]; exact e1) nn 0 I0 (uL L 1 7 0) (by omega) rfl FI2.rf xF (xF_lt (by omega))
  have hM := bk_M (r := r) (nn := nn) (bk := bkI I) (J0 := uI J0 34 43 1) (K0 := uL K 34 32 0) (Jn := Jn) (Kn := Kn) b4 hn (fun k hk => by
    simp only [bkI, j55]
    rw [b6 _ (by omega), b6 _ (by omega), b6 _ (by omega), b6 _ (by omega)]) (fun k hk => by
    obtain ⟨_, _, J1, K1, _, _, _, q2, _, _, q5, _⟩ := all k (by omega)
    exact ⟨J1, K1, q2, q5⟩) e2 nn 0 (uI J0 34 43 1) (uL K 34 32 0) (by omega) rfl FJ2.rf xF (xF_lt (by omega))
  have fI : ∀ a j, a < 75 → a ≠ 10 → a ≠ 14 → ¬ (a = 1 ∧ 8 ≤ j ∧ j ≤ 14) → ¬ (a = 9 ∧ j = 3) → ¬ (a = 13 ∧ j = 3) → ¬ (a = 15 ∧ j = 3) → (uI In 15 3 (jN nn)) a j = I a j := fun a j q1 q2 q3 q4 q5 q6 q7 => by
    rw [uI_o q7, e4 a j q1 q2 q3 q4 q5 q6]
    exact a3 a j q1 q4 q5 q6
  have fJ : ∀ a j, ¬ (48 ≤ a ∧ a ≤ 54) → ¬ (a = 34 ∧ ((25 ≤ j ∧ j ≤ 31) ∨ j = 40 ∨ j = 42 ∨ j = 45 ∨ j = 46 ∨ j = 47)) → (uI (uI Jn 34 43 0) 34 42 (jN nn)) a j = J a j := fun a j q1 q2 => by
    rw [uI_o (by omega)]
    by_cases z : a = 34 ∧ j = 43
    · obtain ⟨rfl, rfl⟩ := z
      rw [b5]; simp [uI]
    · rw [uI_o z, e5 a j (by omega) (by omega) (by omega) (by omega) (by omega) (by omega) (by omega) (by omega), uI_o z]
      exact c3 a j (by omega) (by omega)
  have fL : LF L Ln := fun a j q => by rw [e6 a j q]; exact uL_o q
  have fK : KF K Kn := fun a j q => by rw [e7 a j q]; exact uL_o q
  have cf : CFJ A J (uI (uI Jn 34 43 0) 34 42 (jN nn)) K Kn := CFJ.of (fun a j q => fJ a j (by omega) (by omega)) (fun a j q => fK a j (by omega))
  have bk' : ∀ k, bkI (uI In 15 3 (jN nn)) k = bkI I k := fun k => by
    have : ∀ j, (uI In 15 3 (jN nn)) 16 j = I 16 j := fun j => fI 16 j (by decide) (by decide) (by decide) (by omega) (by omega) (by omega) (by omega)
    simp only [bkI, this]
  refine ⟨uI In 15 3 (jN nn), Ln, uI (uI Jn 34 43 0) 34 42 (jN nn), Kn, n', s', ?_, ?_, ?_, ⟨⟨?_, ?_⟩, ?_, ?_, by omega, ?_, ?_⟩, val_cf hv cf hn (fun i _ => bk' i), fun J1 K1 h1 h2 => ?_, fI, fJ, fL, fK⟩
  · have w : ¬ f_H_isWithin (jN nn) 0 (jN r) = 0 := wi_ne.mpr ⟨jN_ge0 (by omega), (jN_le (by omega) (by omega)).mpr hn⟩
    rw [f_H_back, b2, if_neg w, hi, if_neg hg, a1, Option.bind_some]
    exact hC
  · have e : f_Md_within (jN nn).toInt64 0 (jN r).toInt64 = f_H_isWithin (jN nn) 0 (jN r) := w_eq rfl rfl
    have w : ¬ f_H_isWithin (jN nn) 0 (jN r) = 0 := wi_ne.mpr ⟨jN_ge0 (by omega), (jN_le (by omega) (by omega)).mpr hn⟩
    rw [f_Md_back, b3, e]
    simp only [bnd]
    rw [if_neg w, if_neg hg, c1, Option.bind_some]
    exact hM
  · exact MV_J e3 (fun a j q => uI_o (by omega)) (fun a j q => by rw [uI_o (by omega), uI_o (by omega)]) (fun _ _ _ => rfl) (fun _ _ _ => rfl)
  · rw [fI 15 0 (by decide) (by decide) (by decide) (by omega) (by omega) (by omega) (by omega)]; exact b1.1
  · rw [fI 15 1 (by decide) (by decide) (by decide) (by omega) (by omega) (by omega) (by omega)]; exact b1.2
  · simp [uI]
  · simp [uI]
  · simp [uI]
  · intro j hj
    rw [fI 16 j (by decide) (by decide) (by decide) (by omega) (by omega) (by omega) (by omega), fJ 55 j (by omega) (by omega)]
    exact b6 j (by omega)
  · have s1 := stj_cf cf h1
    obtain ⟨I2, L2, J2, K2, n2, s2, q1, q2, q3, _, q5, _⟩ := hv nn hn J1 K1 s1 h2 I0 (uL L 1 7 0) (mv_mix mv0 c2' s1 w2)
    rw [e1] at q1
    obtain ⟨rfl, rfl⟩ : In = I2 ∧ Ln = L2 := ⟨congrArg Prod.fst (Option.some.inj q1), congrArg Prod.snd (Option.some.inj q1)⟩
    exact ⟨J2, K2, n2, s2, by rw [RM_eq nn (fun i _ => bk' i)]; exact q2, MV_J q3 (fun a j q => uI_o (by omega)) (fun _ _ _ => rfl) (fun _ _ _ => rfl) (fun _ _ _ => rfl), q5⟩
end BCK

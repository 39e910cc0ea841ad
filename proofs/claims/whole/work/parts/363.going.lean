/-! a movement that goes: its calls, both -/
def RES (k : Nat) (S : List xSh) (Rf : Nat → Nat → Option Nat) (x y : Option (Int32 × (Nat → Nat → Int32) × (Nat → Nat → Int64))) : Prop := ∃ v I' L' J' K', x = some (v, I', L') ∧ y = some (v, J', K') ∧ MOV k S Rf I' J' L' K'
section GOI
variable {S : List xSh} {Rf : Nat → Nat → Option Nat} {I J : Nat → Nat → Int32} {L K : Nat → Nat → Int64} {A A0 T nl nc nw k r n s : Nat} {pc pw : Nat → Nat}
theorem MOV_mono {k' : Nat} (h : MOV k S Rf I J L K) (hk : k ≤ k') : MOV k' S Rf I J L K := MOV_ext h hk (fun _ _ _ => rfl) (fun _ _ _ => rfl) (fun _ _ _ => rfl) (fun _ _ _ => rfl)
theorem RES.nop {x y : Option (Int32 × (Nat → Nat → Int32) × (Nat → Nat → Int64))} {v : Int32} (h : MOV k S Rf I J L K) (e1 : x = some (v, I, L)) (e2 : y = some (v, J, K)) : RES (k + 1) S Rf x y := ⟨v, I, L, J, K, e1, e2, MOV_mono h (by omega)⟩
theorem en_no {q0 q1 q2 q3 : Int32} (h : BOK 2000 I J) : f_H_enter q0 q1 q2 q3 I L = some (0, I, L) ∧ ¬ f_Md_isBookFull J K = 0 := by
  obtain ⟨b1, b2, b3, b4, b5, b6⟩ := h
  refine ⟨?_, ?_⟩
  · rw [f_H_enter, b2, if_neg (by decide)]
  · rw [f_Md_isBookFull, b3, if_pos (by decide), if_pos b5]; decide
theorem en_ok {q0 q1 q2 q3 : Int32} (h : BOK r I J) (hr : r < 2000) : ∃ I1, f_H_enter q0 q1 q2 q3 I L = some (1, I1, L) ∧ I1 15 3 = jN (r + 1) ∧ bkI I1 r = (q0, q1, q2, q3) ∧ (∀ j, j < 4 * r → I1 16 j = I 16 j) ∧ ∀ a j, a ≠ 16 → ¬ (a = 15 ∧ j = 3) → I1 a j = I a j := by
  obtain ⟨⟨b1, b1'⟩, b2, b3, b4, b5, b6⟩ := h
  have c0 : jN r < (2000 : Int32) := (jN_lt (b := 2000) (by omega) (by decide)).mpr hr
  have c1 : ¬ (2000 : Int32) < jN (r + 1) := fun q => by have := (jN_lt (a := 2000) (by decide) (by omega)).mp q; omega
  have e1 : jN (r + 1) - 1 = jN r := jN_sub (a := r + 1) (b := 1) (by omega)
  have c2 : ¬ jN r < 0 := fun q => by have := (jN_lt (b := 0) (by omega) (by decide)).mp q; omega
  have wr : ∀ (X : Nat → Nat → Int32) (c : Nat) (v : Int32), X 15 0 = 4 → c < 4 → f_Ro_write_15 (jN r) (jN c) v X L = some (uI X 16 (4 * r + c) v, L) := by
    intro X c v hX hc
    have e : jN r * 4 + jN c = jN (4 * r + c) := by
      have := jN_mul r 4
      rw [show (4 : Int32) = jN 4 from rfl, this, jN_add, Nat.mul_comm]
    have d1 : ¬ jN c < 0 := fun q => by have := (jN_lt (b := 0) (by omega) (by decide)).mp q; omega
    have d2 : ¬ (4 : Int32) ≤ jN c := fun q => by have := (jN_le (a := 4) (by decide) (by omega)).mp q; omega
    have d3 : ¬ (8000 : Int32) ≤ jN (4 * r + c) := fun q => by have := (jN_le (a := 8000) (by decide) (by omega)).mp q; omega
    have d4 : 0 ≤ jN (4 * r + c) ∧ jN (4 * r + c) < 8000 := jN_in (n := 8000) (by omega) (by decide)
    rw [f_Ro_write_15, hX, e]
    simp only [bnd]
    rw [if_neg c2, if_neg d1, if_neg d2, if_neg d3, if_pos d4, jN_tc (by omega)]
  have w0 := wr (uI I 15 3 (jN (r + 1))) 0 q0 (by simp [uI, b1]) (by decide)
  have w1 := wr (uI (uI I 15 3 (jN (r + 1))) 16 (4 * r + 0) q0) 1 q1 (by simp [uI, b1]) (by decide)
  have w2 := wr (uI (uI (uI I 15 3 (jN (r + 1))) 16 (4 * r + 0) q0) 16 (4 * r + 1) q1) 2 q2 (by simp [uI, b1]) (by decide)
  have w3 := wr (uI (uI (uI (uI I 15 3 (jN (r + 1))) 16 (4 * r + 0) q0) 16 (4 * r + 1) q1) 16 (4 * r + 2) q2) 3 q3 (by simp [uI, b1]) (by decide)
  refine ⟨uI (uI (uI (uI (uI I 15 3 (jN (r + 1))) 16 (4 * r + 0) q0) 16 (4 * r + 1) q1) 16 (4 * r + 2) q2) 16 (4 * r + 3) q3, ?_, by simp [uI], by simp [bkI, uI], fun j hj => ?_, fun a j q1 q2 => ?_⟩
  · rw [f_H_enter, b2, if_pos c0, f_Ro_open_15, b2, jN_1]
    simp only [bnd]
    rw [b1', if_neg c1, e1, Option.bind_some]
    simp only []
    rw [show (0 : Int32) = jN 0 from rfl, w0, Option.bind_some]
    simp only []
    rw [show (1 : Int32) = jN 1 from rfl, w1, Option.bind_some]
    simp only []
    rw [show (2 : Int32) = jN 2 from rfl, w2, Option.bind_some]
    simp only []
    rw [show (3 : Int32) = jN 3 from rfl, w3, Option.bind_some]
  · simp only [uI]
    rw [if_neg (by omega), if_neg (by omega), if_neg (by omega), if_neg (by omega), if_neg (by omega)]
  · simp only [uI]
    rw [if_neg (by omega), if_neg (by omega), if_neg (by omega), if_neg (by omega), if_neg q2]
theorem LNK_bk {bk bk' : Nat → bRow} (h : LNK S Rf A T nc nw pc pw bk r I J L K) (e : ∀ i, i < r → bk' i = bk i) : LNK S Rf A T nc nw pc pw bk' r I J L K := by
  intro J0 K0 h1 h2
  obtain ⟨J1, K1, n, s, q1, q2⟩ := h J0 K0 h1 h2
  exact ⟨J1, K1, n, s, by rw [RM_eq r e]; exact q1, q2⟩
/-- a row of the book is carried out -/
theorem row_ok {q : bRow} (hs : SHP k S Rf) (h56 : ∀ j, J 56 j = 0) (h08 : I 0 8 = J 34 24) (hg : I 0 8 = 1) (g1 : GRS A A0 T nl I J L) (h : MV S Rf A T nc nw pc pw r n s I J L K) (hb : BOK r I J) (hv : VAL S Rf A T nc nw pc pw (bkI I) r J K) (hl : LNK S Rf A T nc nw pc pw (bkI I) r I J L K) (hr : r < 2000) (ho : OKI S A nc nw pc pw q I L) : ∃ I1, f_H_enter q.1 q.2.1 q.2.2.1 q.2.2.2 I L = some (1, I1, L) ∧ RES (k + 1) S Rf (stC S Rf q I1 L) (stM q J K) := by
  obtain ⟨I1, a1, a2, a3, a4, a5⟩ := en_ok (L := L) (q0 := q.1) (q1 := q.2.1) (q2 := q.2.2.1) (q3 := q.2.2.2) hb hr
  refine ⟨I1, a1, ?_⟩
  have m1 : MV S Rf A T nc nw pc pw r n s I1 J L K := MV_J h (fun a j q => a5 a j (by omega) (by omega)) (fun _ _ _ => rfl) (fun _ _ _ => rfl) (fun _ _ _ => rfl)
  have hg' : ¬ J 34 24 = 0 := by rw [← h08, hg]; decide
  have o1 := ok_tr h m1 ho
  have bk0 : BKOK J := fun _ => ⟨r, hr, hb.2.2.1⟩
  obtain ⟨v, n', s', I', J', J'', L', K', c1, c2, c3, c4, c5, c6, c7, c8⟩ := cr_all m1 (by omega) hg' bk0 o1
  have fI : ∀ a j, a < 75 → a ≠ 10 → a ≠ 14 → a ≠ 16 → ¬ (a = 1 ∧ 8 ≤ j ∧ j ≤ 14) → ¬ (a = 9 ∧ j = 3) → ¬ (a = 13 ∧ j = 3) → ¬ (a = 15 ∧ j = 3) → I' a j = I a j := fun a j q1 q2 q3 q4 q5 q6 q7 q8 => by
    rw [c5 a j q1 q2 q3 q5 q6 q7]; exact a5 a j q4 q8
  have gJ : ∀ a j, ¬ (48 ≤ a ∧ a ≤ 54) → ¬ (a = 34 ∧ ((25 ≤ j ∧ j ≤ 31) ∨ j = 40 ∨ j = 45 ∨ j = 46 ∨ j = 47)) → J' a j = J a j := fun a j q1 q2 => c6 a j (by omega) (by omega) (by omega) (by omega) (by omega) (by omega) (by omega) q2
  have fJ : ∀ a j, ¬ (48 ≤ a ∧ a ≤ 55) → ¬ (a = 34 ∧ ((25 ≤ j ∧ j ≤ 31) ∨ j = 40 ∨ j = 42 ∨ j = 45 ∨ j = 46 ∨ j = 47)) → J'' a j = J a j := fun a j q1 q2 => by
    rw [c3.1 a j (by omega) (by omega)]; exact gJ a j (by omega) (by omega)
  have i16 : ∀ j, I' 16 j = I1 16 j := fun j => c5 16 j (by decide) (by decide) (by decide) (by omega) (by omega) (by omega)
  have cf : CFJ A J J'' K K' := CFJ.of (fun a j q => fJ a j (by omega) (by omega)) (fun a j q => c8 a j (by omega))
  have bkr : bkI I' r = q := by rw [bk_ext i16, a3]
  have bke : ∀ i, i < r → bkI I' i = bkI I i := fun i hi => by
    rw [bk_ext i16]
    simp only [bkI]
    rw [a4 _ (by omega), a4 _ (by omega), a4 _ (by omega), a4 _ (by omega)]
  have hl1 : LNK S Rf A T nc nw pc pw (bkI I') r I1 J L K := LNK_bk (LNK_ext hl (fun a j q => a5 a j (by omega) (by omega)) (CFJ.of (fun _ _ _ => rfl) (fun _ _ _ => rfl)) (fun _ _ _ => rfl)) bke
  have hv1 : VAL S Rf A T nc nw pc pw (bkI I') r J K := val_cf hv (CFJ.of (fun _ _ _ => rfl) (fun _ _ _ => rfl)) (Nat.le_refl _) bke
  obtain ⟨v1, v2⟩ := val_step hr hg' hv1 hl1 (by rw [bkr]; exact o1) (by rw [bkr]; exact c1)
  have mv2 : MV S Rf A T nc nw pc pw (r + 1) n' s' I' J'' L' K' := MV_J c4 (fun _ _ _ => rfl) (fun a j q => c3.1 a j (by omega) (by omega)) (fun _ _ _ => rfl) (fun _ _ _ => rfl)
  obtain ⟨x1, x2⟩ := cor_mv.mpr mv2
  obtain ⟨b1, b2, b3, b4, b5, b6⟩ := hb
  have z43 : J' 34 43 = 0 := by rw [gJ 34 43 (by omega) (by omega)]; exact b5
  have z42 : J' 34 42 = jN r := by rw [gJ 34 42 (by omega) (by omega)]; exact b3
  obtain ⟨w1, ⟨w2, w3, w4, w5⟩, w6⟩ := c3.2.2 z43 r hr z42
  refine ⟨v, I', L', J'', K', c1, c2, SHP_mono hs (by omega), fun j => by rw [fJ 56 j (by omega) (by omega)]; exact h56 j, ⟨?_, ?_⟩, A, A0, T, nl, nc, nw, pc, pw, r + 1, n', s', ?_, x1, ⟨⟨?_, ?_⟩, ?_, w1, by omega, ?_, ?_⟩, fun z => ?_, fun _ => ⟨x2, val_cf v1 cf (Nat.le_refl _) (fun _ _ => rfl), LNK_ext v2 (fun _ _ _ => rfl) cf (fun _ _ _ => rfl)⟩⟩
  · rw [fI 0 8 (by omega) (by omega) (by omega) (by omega) (by omega) (by omega) (by omega) (by omega), fJ 34 24 (by omega) (by omega)]; exact h08
  · rw [fI 0 8 (by omega) (by omega) (by omega) (by omega) (by omega) (by omega) (by omega) (by omega)]; exact Or.inr hg
  · exact GRS_ext g1 (fun a j q => fI a j (by omega) (by omega) (by omega) (by omega) (by omega) (by omega) (by omega) (by omega)) (fun j q => fJ 34 j (by omega) (by omega)) (fun a j q1 q2 => fJ a j (by omega) (by omega)) (fun a j q => c7 a j (by omega))
  · rw [fI 15 0 (by omega) (by omega) (by omega) (by omega) (by omega) (by omega) (by omega) (by omega)]; exact b1.1
  · rw [fI 15 1 (by omega) (by omega) (by omega) (by omega) (by omega) (by omega) (by omega) (by omega)]; exact b1.2
  · rw [c5 15 3 (by decide) (by decide) (by decide) (by omega) (by omega) (by omega)]; exact a2
  · rw [c3.1 34 43 (by decide) (by omega)]; exact z43
  · intro j hj
    rw [i16]
    by_cases z : j < 4 * r
    · rw [a4 j z, w6 j z, gJ 55 j (by omega) (by omega)]; exact b6 j z
    · have e3 := a3
      simp only [bkI] at e3
      have : j = 4 * r ∨ j = 4 * r + 1 ∨ j = 4 * r + 2 ∨ j = 4 * r + 3 := by omega
      rcases this with rfl | rfl | rfl | rfl
      · rw [w2]; exact congrArg (fun q => q.1) e3
      · rw [w3]; exact congrArg (fun q => q.2.1) e3
      · rw [w4]; exact congrArg (fun q => q.2.2.1) e3
      · rw [w5]; exact congrArg (fun q => q.2.2.2) e3
  · rw [fI 0 8 (by omega) (by omega) (by omega) (by omega) (by omega) (by omega) (by omega) (by omega), hg] at z
    exact absurd z (by decide)
theorem op_shock {a0 : Int32} (h : MOV k S Rf I J L K) : RES (k + 1) S Rf (f_H_shock a0 I L) (f_Md_shock a0 J K) := by
  obtain ⟨h1, h2, ⟨h3, h4⟩, A, A0, T, nl, nc, nw, pc, pw, r, n, s, g1, g2, g3, g4, g5⟩ := id h
  have e : f_Md_within a0.toInt64 (-1000000) 1000000 = f_H_isWithin a0 (-1000000) 1000000 := w_eq rfl rfl
  by_cases w : f_H_isWithin a0 (-1000000) 1000000 = 0
  · exact RES.nop h (by rw [f_H_shock]; simp only [bnd]; rw [if_pos w]) (by rw [f_Md_shock, e]; simp only [bnd]; rw [if_pos w])
  · rcases h4 with hg | hg
    · exact RES.nop h (by rw [f_H_shock]; simp only [bnd]; rw [if_neg w, if_pos hg]) (by rw [f_Md_shock, e]; simp only [bnd]; rw [if_neg w, if_pos (by rw [← h3]; exact hg)])
    · obtain ⟨q1, q2, q3⟩ := g5 hg
      have n0 : ¬ I 0 8 = 0 := by rw [hg]; decide
      have m0 : ¬ J 34 24 = 0 := by rw [← h3]; exact n0
      by_cases hr : r < 2000
      · obtain ⟨I1, x1, x2⟩ := row_ok (q := (1, a0, 0, 0)) h1 h2 h3 hg g1 (cor_mv.mp ⟨g2, q1⟩) g3 q2 q3 hr (Or.inr (Or.inl ⟨a0, wi_ne.mp w, rfl⟩))
        have e2 : f_H_shock a0 I L = stC S Rf (1, a0, 0, 0) I1 L := by
          rw [f_H_shock]
          simp only [bnd]
          rw [if_neg w, if_neg n0, x1, Option.bind_some, if_neg (show ¬ (1 : Int32) = 0 by decide), bi3]
          simp [stC]
        rw [e2]
        simpa [stM] using x2
      · have : r = 2000 := by have := g3.2.2.2.1; omega
        subst this
        obtain ⟨y1, y2⟩ := en_no (L := L) (K := K) (q0 := 1) (q1 := a0) (q2 := 0) (q3 := 0) g3
        exact RES.nop h (by rw [f_H_shock]; simp only [bnd]; rw [if_neg w, if_neg n0, y1, Option.bind_some, if_pos rfl]) (by rw [f_Md_shock, e]; simp only [bnd]; rw [if_neg w, if_neg m0, if_neg y2])
theorem op_run {a0 : Int32} (h : MOV k S Rf I J L K) : RES (k + 1) S Rf (f_H_run S Rf a0 I L) (f_Md_run a0 J K) := by
  obtain ⟨h1, h2, ⟨h3, h4⟩, A, A0, T, nl, nc, nw, pc, pw, r, n, s, g1, g2, g3, g4, g5⟩ := id h
  have e : f_Md_within a0.toInt64 0 20000 = f_H_isWithin a0 0 20000 := w_eq rfl rfl
  by_cases w : f_H_isWithin a0 0 20000 = 0
  · exact RES.nop h (by rw [f_H_run]; simp only [bnd]; rw [if_pos w]) (by rw [f_Md_run, e]; simp only [bnd]; rw [if_pos w])
  · rcases h4 with hg | hg
    · exact RES.nop h (by rw [f_H_run]; simp only [bnd]; rw [if_neg w, if_pos hg]) (by rw [f_Md_run, e]; simp only [bnd]; rw [if_neg w, if_pos (by rw [← h3]; exact hg)])
    · obtain ⟨q1, q2, q3⟩ := g5 hg
      have n0 : ¬ I 0 8 = 0 := by rw [hg]; decide
      have m0 : ¬ J 34 24 = 0 := by rw [← h3]; exact n0
      have s200 := g2.1.1.2
      have i11 := g2.1.2.2.1.1
      have j26 := g2.1.2.2.1.2
      obtain ⟨w1, w2⟩ := wi_ne.mp w
      obtain ⟨m, hm, rfl⟩ := jN_ex (n := 20000) w1 w2 (by decide)
      by_cases hf : s + m ≤ 200000
      · have c : ¬ (200000 : Int32) < jN s + jN m := fun z => by
          rw [jN_add] at z
          have := (jN_lt (a := 200000) (by decide) (by omega)).mp z
          omega
        by_cases hr : r < 2000
        · obtain ⟨I1, x1, x2⟩ := row_ok (q := (0, jN m, 0, 0)) h1 h2 h3 hg g1 (cor_mv.mp ⟨g2, q1⟩) g3 q2 q3 hr (Or.inl ⟨m, s, ⟨hm, hf, i11⟩, rfl⟩)
          have e2 : f_H_run S Rf (jN m) I L = stC S Rf (0, jN m, 0, 0) I1 L := by
            rw [f_H_run]
            simp only [bnd]
            rw [if_neg w, if_neg n0, i11, if_neg c, x1, Option.bind_some, if_neg (show ¬ (1 : Int32) = 0 by decide), bi3]
            simp [stC]
          rw [e2]
          simpa [stM] using x2
        · have : r = 2000 := by have := g3.2.2.2.1; omega
          subst this
          obtain ⟨y1, y2⟩ := en_no (L := L) (K := K) (q0 := 0) (q1 := jN m) (q2 := 0) (q3 := 0) g3
          exact RES.nop h (by rw [f_H_run]; simp only [bnd]; rw [if_neg w, if_neg n0, i11, if_neg c, y1, Option.bind_some, if_pos rfl]) (by rw [f_Md_run, e]; simp only [bnd]; rw [if_neg w, if_neg m0, j26, if_neg c, if_neg y2])
      · have c : (200000 : Int32) < jN s + jN m := by
          rw [jN_add]
          exact (jN_lt (a := 200000) (by decide) (by omega)).mpr (by omega)
        exact RES.nop h (by rw [f_H_run]; simp only [bnd]; rw [if_neg w, if_neg n0, i11, if_pos c]) (by rw [f_Md_run, e]; simp only [bnd]; rw [if_neg w, if_neg m0, j26, if_pos c])
theorem kn_C {a : Nat} (h : SPR I J L K A T) (h0 : I 2 0 = jN A) (ha : a < A) : f_Ge_isKnown (jN a) I L = some (if L 4 a = 0 then 0 else 1) := by
  have hA := h.1.1
  have c3 : 0 ≤ jN a ∧ jN a < 24 := jN_in (n := 24) (by omega) (by decide)
  have c5 : ¬ f_Ge_hasArbor (jN a) I L = 0 := by rw [has_1 h0 hA ha]; decide
  rw [f_Ge_isKnown, if_neg c5, if_pos c3, jN_tc (by omega)]
  by_cases z : L 4 a = 0
  · rw [z, if_pos (by decide), if_pos rfl]
  · obtain ⟨_, _, _, _, s5⟩ := sk_get (h.2.1 a ha) z
    have : ¬ L 4 a ≤ 0 := fun q => by have := lg_le.mp q; rw [lg_0] at this; omega
    rw [if_neg this, if_neg z]
theorem op_wind {a0 : Int32} (h : MOV k S Rf I J L K) : RES (k + 1) S Rf (f_H_wind a0 I L) (f_Md_wind a0 J K) := by
  obtain ⟨h1, h2, ⟨h3, h4⟩, A, A0, T, nl, nc, nw, pc, pw, r, n, s, g1, g2, g3, g4, g5⟩ := id h
  have e : f_Md_within a0.toInt64 0 100000 = f_H_isWithin a0 0 100000 := w_eq rfl rfl
  by_cases w : f_H_isWithin a0 0 100000 = 0
  · exact RES.nop h (by rw [f_H_wind]; simp only [bnd]; rw [if_pos w]) (by rw [f_Md_wind, e]; simp only [bnd]; rw [if_pos w])
  · rcases h4 with hg | hg
    · exact RES.nop h (by rw [f_H_wind]; simp only [bnd]; rw [if_neg w, if_pos hg]) (by rw [f_Md_wind, e]; simp only [bnd]; rw [if_neg w, if_pos (by rw [← h3]; exact hg)])
    · obtain ⟨q1, q2, q3⟩ := g5 hg
      have n0 : ¬ I 0 8 = 0 := by rw [hg]; decide
      have m0 : ¬ J 34 24 = 0 := by rw [← h3]; exact n0
      obtain ⟨w1, w2⟩ := wi_ne.mp w
      obtain ⟨m, hm, rfl⟩ := jN_ex (n := 100000) w1 w2 (by decide)
      obtain ⟨⟨u1, u2, u3, u4, u5⟩, u6⟩ := id g2.2.1
      have no : ∀ y, f_Ge_isKnown (I 1 5) I L = some 0 → f_Md_hasBarrel J K = some 0 → y = RES (k + 1) S Rf (f_H_wind (jN m) I L) (f_Md_wind (jN m) J K) → y := by
        intro y t1 t2 t3
        rw [t3]
        exact RES.nop h (by rw [f_H_wind]; simp only [bnd]; rw [if_neg w, if_neg n0, t1, Option.bind_some, if_pos rfl]) (by rw [f_Md_wind, e]; simp only [bnd]; rw [if_neg w, if_neg m0, t2, Option.bind_some, if_pos rfl])
      rcases u6 with ⟨z, _⟩ | ⟨b, hb, z, _, _⟩
      · exact no _ (by rw [z, f_Ge_isKnown, if_pos has_m]) (by rw [f_Md_hasBarrel, ← u4, z, kn_m, Option.bind_some, if_pos (Or.inl rfl)]) rfl
      · have kc := kn_C q1 g1.2.1 hb
        by_cases z4 : L 4 b = 0
        · rw [if_pos z4] at kc
          exact no _ (by rw [z]; exact kc) (by rw [f_Md_hasBarrel, ← u4, z, kn_no q1 hb z4, Option.bind_some, if_pos (Or.inl rfl)]) rfl
        · rw [if_neg z4] at kc
          have hbar : f_Md_hasBarrel J K = some 1 := by rw [f_Md_hasBarrel, ← u4, z, kn_yes q1 hb z4, Option.bind_some, if_pos (Or.inr rfl)]
          by_cases hr : r < 2000
          · obtain ⟨I1, x1, x2⟩ := row_ok (q := (2, jN m, 0, 0)) h1 h2 h3 hg g1 (cor_mv.mp ⟨g2, q1⟩) g3 q2 q3 hr (Or.inr (Or.inr (Or.inl ⟨m, b, ⟨hm, hb, z, z4⟩, rfl⟩)))
            have e2 : f_H_wind (jN m) I L = stC S Rf (2, jN m, 0, 0) I1 L := by
              rw [f_H_wind]
              simp only [bnd]
              rw [if_neg w, if_neg n0, z, kc, Option.bind_some, if_neg (by decide), x1, Option.bind_some, if_neg (show ¬ (1 : Int32) = 0 by decide), bi3]
              simp [stC]
            rw [e2]
            simpa [stM] using x2
          · have : r = 2000 := by have := g3.2.2.2.1; omega
            subst this
            obtain ⟨y1, y2⟩ := en_no (L := L) (K := K) (q0 := 2) (q1 := jN m) (q2 := 0) (q3 := 0) g3
            exact RES.nop h (by rw [f_H_wind]; simp only [bnd]; rw [if_neg w, if_neg n0, z, kc, Option.bind_some, if_neg (by decide), y1, Option.bind_some, if_pos rfl]) (by rw [f_Md_wind, e]; simp only [bnd]; rw [if_neg w, if_neg m0, hbar, Option.bind_some, if_neg (by decide), if_neg y2])
end GOI

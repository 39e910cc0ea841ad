/-! questions, both -/
def QRS {α : Type} (k : Nat) (S : List xSh) (Rf : Nat → Nat → Option Nat) (I : Nat → Nat → Int32) (L : Nat → Nat → Int64) (x : Option α) (y : Option (α × (Nat → Nat → Int32) × (Nat → Nat → Int64))) : Prop := ∃ v J' K', x = some v ∧ y = some (v, J', K') ∧ MOV k S Rf I J' L K'
section ASK
variable {S : List xSh} {Rf : Nat → Nat → Option Nat} {I J J' : Nat → Nat → Int32} {L K K' : Nat → Nat → Int64} {A A0 T nl nc nw k r n s : Nat} {pc pw : Nat → Nat}
theorem QRS.nop {α : Type} {x : Option α} {y : Option (α × (Nat → Nat → Int32) × (Nat → Nat → Int64))} {v : α} (h : MOV k S Rf I J L K) (e1 : x = some v) (e2 : y = some (v, J, K)) : QRS (k + 1) S Rf I L x y := ⟨v, J, K, e1, e2, MOV_mono h (by omega)⟩
theorem mrgQ {α : Type} {x : Option α} {y : (Nat → Nat → Int32) → (Nat → Nat → Int64) → Option (α × (Nat → Nat → Int32) × (Nat → Nat → Int64))} {k' : Nat} (h : INV k S Rf I L) (frM : ∀ J K q, y J K = some q → FRm J q.2.1 K q.2.2) (op : ∀ J K, MOV k S Rf I J L K → QRS k' S Rf I L x (y J K)) : wp x (fun q => wp (y I L) (fun q' => q = q'.1 ∧ INV k' S Rf q'.2.1 q'.2.2)) := by
  obtain ⟨hh, hm⟩ := h
  obtain ⟨v, J', K', e1, e2, e3⟩ := op I L hm
  have f2 := frM _ _ _ e2
  simp only [] at f2
  refine ⟨v, e1, _, e2, rfl, ?_, ?_⟩
  · exact HOU_ext hh (fun a j q => f2.1 a j (by omega)) (fun a j q => f2.2 a j (by omega))
  · exact MOV_ext e3 (Nat.le_refl _) (fun a j q => f2.1 a j (by omega)) (fun _ _ _ => rfl) (fun a j q => f2.2 a j (by omega)) (fun _ _ _ => rfl)
theorem cf_spr (h : SPR I J L K A T) (h' : SPR I J' L K' A T) (e : ∀ a j, (a = 34 ∧ (j = 9 ∨ j = 10 ∨ j = 11 ∨ j = 12 ∨ j = 13 ∨ j = 14 ∨ j = 16 ∨ j = 22 ∨ j = 24)) ∨ (41 ≤ a ∧ a ≤ 47) → J' a j = J a j) : CFJ A J J' K K' := by
  refine ⟨e, fun a ha => ?_⟩
  have s1 := h.2.1 a ha
  have s2 := h'.2.1 a ha
  by_cases z : L 4 a = 0
  · have z1 := (sk_57 s1).mpr z
    exact ⟨by rw [z1]; exact (sk_57 s2).mpr z, fun q => absurd z1 q⟩
  · rcases s1 with q | q
    · exact absurd q.2.1 z
    · rcases s2 with p | p
      · exact absurd p.2.1 z
      · exact ⟨by rw [p.1, q.1], fun _ => ⟨by rw [← p.2.1, ← q.2.1], by rw [← p.2.2.1, ← q.2.2.1]⟩⟩
theorem MOV_q (h : MOV k S Rf I J L K) (g1 : GRS A A0 T nl I J L) (g2 : COR S Rf A nc nw pc pw r n s I J L K) (g3 : BOK r I J) (g4 : I 0 8 = 0 → r = 0 ∧ STI S nc nw pc pw I I L L ∧ STJ A nc nw J J K K) (g5 : I 0 8 = 1 → SPR I J L K A T ∧ VAL S Rf A T nc nw pc pw (bkI I) r J K ∧ LNK S Rf A T nc nw pc pw (bkI I) r I J L K) (hS : SPR I J' L K' A T) (e1 : ∀ a j, a ≠ 57 → ¬ (a = 34 ∧ (j = 45 ∨ j = 46 ∨ j = 47)) → J' a j = J a j) (e2 : K' 34 32 = K 34 32) : MOV (k + 1) S Rf I J' L K' := by
  refine ⟨SHP_mono h.1 (by omega), fun j => by rw [e1 56 j (by omega) (by omega)]; exact h.2.1 j, ⟨by rw [e1 34 24 (by omega) (by omega)]; exact h.2.2.1.1, h.2.2.1.2⟩, A, A0, T, nl, nc, nw, pc, pw, r, n, s, GRS_ext g1 (fun _ _ _ => rfl) (fun j q => e1 34 j (by omega) (by omega)) (fun a j q1 q2 => e1 a j (by omega) (by omega)) (fun _ _ _ => rfl), COR_ext g2 (fun _ _ _ => rfl) (fun a j q => e1 a j (by omega) (by omega)) (fun _ _ _ => rfl) e2, BOK_ext g3 (fun _ _ _ => rfl) (fun j q => e1 34 j (by omega) (by omega)) (fun j => e1 55 j (by omega) (by omega)), fun q => ?_, fun q => ?_⟩
  · obtain ⟨q1, q2, q3⟩ := g4 q
    exact ⟨q1, q2, STJ_ext q3 (fun j q1 q2 => e1 34 j (by omega) (by omega)) (fun a j q => e1 a j (by omega) (by omega)) e2⟩
  · obtain ⟨q1, q2, q3⟩ := g5 q
    have cf := cf_spr q1 hS (fun a j q => e1 a j (by omega) (by omega))
    exact ⟨hS, val_cf q2 cf (Nat.le_refl _) (fun _ _ => rfl), LNK_ext q3 (fun _ _ _ => rfl) cf (fun _ _ _ => rfl)⟩
theorem op_state {a0 : Int32} (h : MOV k S Rf I J L K) : QRS (k + 1) S Rf I L (f_H_state a0 I L) (f_Md_state a0 J K) := by
  obtain ⟨h1, h2, ⟨h3, h4⟩, A, A0, T, nl, nc, nw, pc, pw, r, n, s, g1, g2, g3, g4, g5⟩ := id h
  obtain ⟨J', K', K'', a1, a2, a3, a4, a5, a6⟩ := sp_call (K := K) g1
  have e32 : K' 34 32 = K 34 32 := a5 34 32 (by decide) (by decide) (by decide) (by decide)
  have m1 : MOV (k + 1) S Rf I J' L K' := MOV_q h g1 g2 g3 g4 g5 a3 (fun a j q _ => a4 a j q) e32
  have c1 : COR S Rf A nc nw pc pw r n s I J' L K' := COR_ext g2 (fun _ _ _ => rfl) (fun a j q => a4 a j (by omega)) (fun _ _ _ => rfl) e32
  obtain ⟨⟨x1, x2⟩, ⟨b1, b2, b3⟩, ⟨c1', c2⟩, ⟨d1, d2, d3⟩, ⟨e1, e2, e3⟩, ⟨f1, f2⟩, k1, k2, k3, k4⟩ := id c1.1
  rw [f_Md_state, a1, Option.bind_some]
  simp only []
  rw [f_H_state]
  by_cases z0 : a0 = 0
  · rw [if_pos z0, if_pos z0]
    exact ⟨_, J', K', rfl, by rw [b1, b2], m1⟩
  rw [if_neg z0, if_neg z0]
  by_cases z1 : a0 = 1
  · rw [if_pos z1, if_pos z1]
    exact ⟨_, J', K', rfl, by rw [c1', c2], m1⟩
  rw [if_neg z1, if_neg z1]
  by_cases z2 : a0 = 2
  · rw [if_pos z2, if_pos z2]
    exact ⟨_, J', K', rfl, by rw [d1], m1⟩
  rw [if_neg z2, if_neg z2]
  by_cases z3 : a0 = 3
  · rw [if_pos z3, if_pos z3]
    exact ⟨_, J', K', rfl, by rw [e1], m1⟩
  rw [if_neg z3, if_neg z3]
  by_cases z4 : a0 = 4
  · rw [if_pos z4, if_pos z4]
    exact ⟨_, J', K', rfl, by rw [f1], m1⟩
  rw [if_neg z4, if_neg z4]
  by_cases z5 : a0 = 5
  · rw [if_pos z5, if_pos z5]
    obtain ⟨t, t1, t2⟩ := tq_ok a3 c1.2.1 c1.2.2.2.1
    rw [t1, t2, Option.bind_some, Option.bind_some]
    exact ⟨_, J', K', rfl, rfl, m1⟩
  rw [if_neg z5, if_neg z5]
  by_cases z6 : a0 = 6
  · rw [if_pos z6, if_pos z6]
    obtain ⟨d, t1, t2, _⟩ := ld_ok a3 c1.2.1
    rw [t1, t2, Option.bind_some, Option.bind_some]
    exact ⟨_, J', K', rfl, rfl, m1⟩
  rw [if_neg z6, if_neg z6]
  by_cases z7 : a0 = 7
  · rw [if_pos z7, if_pos z7]
    exact ⟨_, J', K', rfl, by rw [k1], m1⟩
  rw [if_neg z7, if_neg z7]
  by_cases z8 : a0 = 8
  · rw [if_pos z8, if_pos z8]
    exact ⟨_, J', K', rfl, by rw [k2], m1⟩
  rw [if_neg z8, if_neg z8]
  by_cases z9 : a0 = 9
  · rw [if_pos z9, if_pos z9, a2, Option.bind_some]
    have m2 : MOV (k + 1) S Rf I J' L K'' := MOV_ext m1 (Nat.le_refl _) (fun _ _ _ => rfl) (fun _ _ _ => rfl) (fun _ _ _ => rfl) (fun a j q => a6 a j (by omega) (by omega))
    simp only []
    by_cases q : I 2 4 = 0
    · rw [if_pos q, if_pos q]
      exact ⟨_, J', K'', rfl, rfl, m2⟩
    · rw [if_neg q, if_neg q]
      exact ⟨_, J', K'', rfl, rfl, m2⟩
  rw [if_neg z9, if_neg z9]
  exact ⟨_, J', K', rfl, rfl, m1⟩
theorem ar_y {a : Nat} (h0 : I 2 0 = jN A) (h1 : J 34 0 = jN A) (hA : A ≤ 24) (ha : a < A) : f_Ge_hasArbor (jN a) I L = 1 ∧ f_Md_isArbor (jN a) J K = some 1 := by
  have e : f_Md_within (jN a).toInt64 0 (jN A - 1).toInt64 = f_H_isWithin (jN a) 0 (jN A - 1) := w_eq rfl rfl
  have y := win_y (c := a) (n := A) (by omega) ha
  have o1 : f_H_isWithin (jN a) 0 (jN A - 1) = 1 := (wi_b _ _ _).resolve_left y
  refine ⟨has_1 h0 hA ha, ?_⟩
  rw [f_Md_isArbor, h1, e, o1]
  simp [bnd]
theorem ar_n {a : Int32} (h0 : I 2 0 = jN A) (h1 : J 34 0 = jN A) (hA : A ≤ 24) (ha : ¬ ∃ c, c < A ∧ a = jN c) : f_Ge_hasArbor a I L = 0 ∧ f_Md_isArbor a J K = some 0 := by
  have e : f_Md_within a.toInt64 0 (jN A - 1).toInt64 = f_H_isWithin a 0 (jN A - 1) := w_eq rfl rfl
  have z := (win_n (a := a) (n := A) (by omega)).mpr ha
  refine ⟨?_, ?_⟩
  · rw [f_Ge_hasArbor, h0]
    by_cases c1 : a < 0
    · rw [if_pos c1]
    · rw [if_neg c1]
      by_cases c2 : jN A ≤ a
      · rw [if_pos c2]
      · obtain ⟨m, hm, rfl⟩ := jN_ex (n := A) (Int32.not_lt.mp c1) (Int32.le_of_lt (Int32.not_le.mp c2)) (by omega)
        have := (jN_lt (by omega) (by omega)).mp (Int32.not_le.mp c2)
        exact absurd ⟨m, this, rfl⟩ ha
  · rw [f_Md_isArbor, h1, e, z]
    simp [bnd]
theorem op_speed {a0 a1 : Int32} (h : MOV k S Rf I J L K) : QRS (k + 1) S Rf I L (f_H_speed a0 a1 I L) (f_Md_speed a0 a1 J K) := by
  obtain ⟨h1, h2, ⟨h3, h4⟩, A, A0, T, nl, nc, nw, pc, pw, r, n, s, g1, g2, g3, g4, g5⟩ := id h
  have A24 := g1.1.1.2.2.1
  have i0 := g1.2.1
  have j0 := g1.1.1.2.2.2.2.2.1
  have ew : f_Md_within a1.toInt64 0 2 = f_H_isWithin a1 0 2 := w_eq rfl rfl
  by_cases ha : ∃ c, c < A ∧ a0 = jN c
  · obtain ⟨a, ha, rfl⟩ := ha
    obtain ⟨y1, y2⟩ := ar_y (L := L) (K := K) i0 j0 A24 ha
    have c3 : 0 ≤ jN a ∧ jN a < 24 := jN_in (n := 24) (by omega) (by decide)
    rw [f_H_speed, if_neg (by rw [y1]; decide), f_Md_speed, y2, Option.bind_some, if_neg (show ¬ (1 : Int32) = 0 by decide), ew]
    simp only [bnd]
    by_cases w : f_H_isWithin a1 0 2 = 0
    · have n0 : ¬ a1 = 0 := fun q => by rw [q] at w; exact absurd w (by decide)
      have n1 : ¬ a1 = 1 := fun q => by rw [q] at w; exact absurd w (by decide)
      have n2 : ¬ a1 = 2 := fun q => by rw [q] at w; exact absurd w (by decide)
      rw [if_pos w, if_neg n0, if_neg n1, if_neg n2]
      exact QRS.nop h rfl rfl
    · obtain ⟨J', K', K'', a1', a2, a3, a4, a5, a6⟩ := sp_call (K := K) g1
      have e32 : K' 34 32 = K 34 32 := a5 34 32 (by decide) (by decide) (by decide) (by decide)
      have m1 : MOV (k + 1) S Rf I J' L K' := MOV_q h g1 g2 g3 g4 g5 a3 (fun a j q _ => a4 a j q) e32
      rw [if_neg w, a1', Option.bind_some]
      simp only []
      simp only [if_pos c3, jN_tc (show a < 2147483648 by omega)]
      have i12 : I 1 12 = J' 34 25 := by rw [a4 34 25 (by decide), g2.1.2.1.1, g2.1.2.1.2.1]
      by_cases z : L 4 a = 0
      · have z57 := (sk_57 (a3.2.1 a ha)).mpr z
        have z3 : L 3 a = 0 := by
          rcases a3.2.1 a ha with q | q
          · exact q.2.2
          · rw [q.1] at z57; exact absurd z57 (by decide)
        rw [if_pos z57, z3, z, tu_no a3 ha z, Option.bind_some]
        rcases b3_of w with rfl | rfl | rfl
        · rw [if_pos rfl]; exact ⟨_, J', K', rfl, rfl, m1⟩
        · rw [if_neg (by decide), if_pos rfl]; exact ⟨_, J', K', rfl, rfl, m1⟩
        · rw [if_neg (by decide), if_neg (by decide), if_pos rfl]; exact ⟨_, J', K', rfl, rfl, m1⟩
      · have z57 : ¬ J' 57 a = 0 := fun q => z ((sk_57 (a3.2.1 a ha)).mp q)
        obtain ⟨s1, s2, _⟩ := sk_get (a3.2.1 a ha) z
        rw [if_neg z57, tu_yes a3 ha z, Option.bind_some, ta_yes a3 ha z, Option.bind_some, ← s1, ← s2, ← i12, one64]
        rcases b3_of w with rfl | rfl | rfl
        · rw [if_pos rfl, if_pos rfl]; exact ⟨_, J', K', rfl, rfl, m1⟩
        · rw [if_neg (by decide), if_pos rfl, if_neg (by decide), if_pos rfl]; exact ⟨_, J', K', rfl, rfl, m1⟩
        · rw [if_neg (by decide), if_neg (by decide), if_pos rfl, if_neg (by decide), if_neg (by decide)]; exact ⟨_, J', K', rfl, rfl, m1⟩
  · obtain ⟨y1, y2⟩ := ar_n (L := L) (K := K) i0 j0 A24 ha
    exact QRS.nop (v := -9999999) h (by rw [f_H_speed, if_pos y1]) (by rw [f_Md_speed, y2, Option.bind_some, if_pos rfl])
theorem op_count {a0 : Int32} (h : MOV k S Rf I J L K) : f_H_count a0 I L = f_Md_count a0 J K := by
  obtain ⟨h1, h2, ⟨h3, h4⟩, A, A0, T, nl, nc, nw, pc, pw, r, n, s, g1, g2, g3, g4, g5⟩ := id h
  have i1 : I 2 1 = jN nl := by have := g1.1.1.2.2.2.1; simpa [uI] using this
  obtain ⟨k', _, u1, u2, _⟩ := g2.2.2.2.2.2.2.2.1
  rw [f_H_count, f_Md_count, g1.2.1, g1.1.1.2.2.2.2.2.1, i1, g1.1.1.2.2.2.2.2.2, g2.2.2.2.2.2.2.1.1, g2.2.2.2.2.2.2.1.2.1, g2.2.2.2.2.2.1.1, g2.2.2.2.2.2.1.2.1, g3.2.1, g3.2.2.1, u1, u2, h3]
theorem jmin_n {n m : Nat} (hn : n < 2147483648) (hm : m < 2147483648) : jmin (jN n) (jN m) = jN (min n m) := by
  unfold jmin
  by_cases c : jN m < jN n
  · have := (jN_lt hm hn).mp c
    rw [if_pos c, Nat.min_eq_right (by omega)]
  · have : ¬ m < n := fun q => c ((jN_lt hm hn).mpr q)
    rw [if_neg c, Nat.min_eq_left (by omega)]
theorem op_tick {a0 a1 : Int32} (h : MOV k S Rf I J L K) : ∃ v, f_H_tick a0 a1 I L = some v ∧ f_Md_tick a0 a1 J K = some v := by
  obtain ⟨h1, h2, ⟨h3, h4⟩, A, A0, T, nl, nc, nw, pc, pw, r, n, s, g1, g2, g3, g4, g5⟩ := id h
  obtain ⟨⟨x1, x2⟩, ⟨b1, b2, b3⟩, _, _, _, _, _, _, ⟨k1, k2⟩, k4⟩ := g2.1
  have e2 : f_Md_within a1.toInt64 0 1 = f_H_isWithin a1 0 1 := w_eq rfl rfl
  have jm : jmin (jN n) 3000 = jN (min n 3000) := jmin_n (m := 3000) (by omega) (by decide)
  have e1 : f_Md_within a0.toInt64 0 (jN (min n 3000) - 1).toInt64 = f_H_isWithin a0 0 (jN (min n 3000) - 1) := w_eq rfl rfl
  by_cases hi : ∃ i, i < min n 3000 ∧ a0 = jN i
  · obtain ⟨i, hi, rfl⟩ := hi
    have y : ¬ f_H_isWithin (jN i) 0 (jN (min n 3000) - 1) = 0 := by
      rw [wi_ne]
      refine ⟨jN_ge0 (by omega), ?_⟩
      rw [show (1 : Int32) = jN 1 from rfl, jN_sub (by omega)]
      exact (jN_le (by omega) (by omega)).mpr (by omega)
    have c1 : ¬ jN i < 0 := fun q => by have := (jN_lt (b := 0) (by omega) (by decide)).mp q; omega
    have c2 : ¬ (3000 : Int32) ≤ jN i := fun q => by have := (jN_le (a := 3000) (by decide) (by omega)).mp q; omega
    have c3 : ¬ jN n ≤ jN i := fun q => by have := (jN_le (by omega) (by omega)).mp q; omega
    by_cases w : f_H_isWithin a1 0 1 = 0
    · refine ⟨-1, ?_, ?_⟩
      · have : f_Ro_has_9 (jN i) a1 I L = 0 := by
          rw [f_Ro_has_9, if_neg c1, k2, if_neg c2, b3, if_neg c3, k1]
          by_cases q : a1 < 0
          · rw [if_pos q]
          · rw [if_neg q]
            by_cases q2 : 2 ≤ a1
            · rw [if_pos q2]
            · have := wi_0.mp w
              exact absurd ⟨Int32.not_lt.mp q, by grind⟩ this
        rw [f_H_tick, if_pos this]
      · rw [f_Md_tick, b2, jm, e1, e2]
        simp only [bnd]
        rw [if_neg y, if_pos w]
    · obtain ⟨w1, w2⟩ := wi_ne.mp w
      obtain ⟨c, hc, rfl⟩ := jN_ex (n := 1) w1 w2 (by decide)
      have e3 : jN i * 2 + jN c = jN (2 * i + c) := by
        have := jN_mul i 2
        rw [show (2 : Int32) = jN 2 from rfl, this, jN_add, Nat.mul_comm]
      have e4 : 2 * jN i + jN c = jN (2 * i + c) := by
        have := jN_mul 2 i
        rw [show (2 : Int32) = jN 2 from rfl, this, jN_add]
      have d1 : ¬ jN c < 0 := fun q => by have := (jN_lt (b := 0) (by omega) (by decide)).mp q; omega
      have d2 : ¬ (2 : Int32) ≤ jN c := fun q => by have := (jN_le (a := 2) (by decide) (by omega)).mp q; omega
      have d3 : 0 ≤ jN (2 * i + c) ∧ jN (2 * i + c) < 6000 := jN_in (n := 6000) (by omega) (by decide)
      have : ¬ f_Ro_has_9 (jN i) (jN c) I L = 0 := by
        rw [f_Ro_has_9, if_neg c1, k2, if_neg c2, b3, if_neg c3, k1, if_neg d1, if_neg d2]; decide
      refine ⟨I 10 (2 * i + c), ?_, ?_⟩
      · rw [f_H_tick, if_neg this, f_Ro_at_9, if_neg this, k1, e3, if_pos d3, jN_tc (by omega), Option.bind_some]
      · rw [f_Md_tick, b2, jm, e1, e2]
        simp only [bnd]
        rw [if_neg y, if_neg w, e4, if_pos d3, jN_tc (by omega), k4 _ (by omega) (by omega)]
  · refine ⟨-1, ?_, ?_⟩
    · have : f_Ro_has_9 a0 a1 I L = 0 := by
        rw [f_Ro_has_9, k2, b3]
        by_cases c1 : a0 < 0
        · rw [if_pos c1]
        rw [if_neg c1]
        by_cases c2 : 3000 ≤ a0
        · rw [if_pos c2]
        rw [if_neg c2]
        by_cases c3 : jN n ≤ a0
        · rw [if_pos c3]
        obtain ⟨m, hm, rfl⟩ := jN_ex (n := n) (Int32.not_lt.mp c1) (Int32.le_of_lt (Int32.not_le.mp c3)) (by omega)
        have q1 := (jN_lt (by omega) (by omega)).mp (Int32.not_le.mp c3)
        have q2 := (jN_lt (b := 3000) (by omega) (by decide)).mp (Int32.not_le.mp c2)
        exact absurd ⟨m, by omega, rfl⟩ hi
      rw [f_H_tick, if_pos this]
    · have z : f_H_isWithin a0 0 (jN (min n 3000) - 1) = 0 := by
        rw [wi_0]
        rintro ⟨q1, q2⟩
        by_cases n0 : min n 3000 = 0
        · rw [n0] at q2
          exact absurd (Int32.le_trans q1 q2) (by decide)
        · rw [show (1 : Int32) = jN 1 from rfl, jN_sub (by omega)] at q2
          obtain ⟨m, hm, rfl⟩ := jN_ex q1 q2 (by omega)
          exact hi ⟨m, by omega, rfl⟩
      rw [f_Md_tick, b2, jm, e1]
      simp only [bnd]
      rw [if_pos z]
theorem op_struck {a0 a1 : Int32} (h : MOV k S Rf I J L K) : ∃ v, f_H_struck a0 a1 I L = some v ∧ f_Md_struck a0 a1 J K = some v := by
  obtain ⟨h1, h2, ⟨h3, h4⟩, A, A0, T, nl, nc, nw, pc, pw, r, nn, s, g1, g2, g3, g4, g5⟩ := id h
  have nb := g2.2.1.1.1
  have rb := g3.2.2.2.1
  obtain ⟨n, x1, b3, b2, k1, k2, k4⟩ := g2.2.2.2.2.2.2.2.1
  have e2 : f_Md_within a1.toInt64 0 2 = f_H_isWithin a1 0 2 := w_eq rfl rfl
  have jm : jmin (jN n) 1000 = jN (min n 1000) := jmin_n (m := 1000) (by omega) (by decide)
  have e1 : f_Md_within a0.toInt64 0 (jN (min n 1000) - 1).toInt64 = f_H_isWithin a0 0 (jN (min n 1000) - 1) := w_eq rfl rfl
  by_cases hi : ∃ i, i < min n 1000 ∧ a0 = jN i
  · obtain ⟨i, hi, rfl⟩ := hi
    have y : ¬ f_H_isWithin (jN i) 0 (jN (min n 1000) - 1) = 0 := by
      rw [wi_ne]
      refine ⟨jN_ge0 (by omega), ?_⟩
      rw [show (1 : Int32) = jN 1 from rfl, jN_sub (by omega)]
      exact (jN_le (by omega) (by omega)).mpr (by omega)
    have c1 : ¬ jN i < 0 := fun q => by have := (jN_lt (b := 0) (by omega) (by decide)).mp q; omega
    have c2 : ¬ (1000 : Int32) ≤ jN i := fun q => by have := (jN_le (a := 1000) (by decide) (by omega)).mp q; omega
    have c3 : ¬ jN n ≤ jN i := fun q => by have := (jN_le (by omega) (by omega)).mp q; omega
    by_cases w : f_H_isWithin a1 0 2 = 0
    · refine ⟨-1, ?_, ?_⟩
      · have : f_Ro_has_13 (jN i) a1 I L = 0 := by
          rw [f_Ro_has_13, if_neg c1, k2, if_neg c2, b3, if_neg c3, k1]
          by_cases q : a1 < 0
          · rw [if_pos q]
          · rw [if_neg q]
            by_cases q2 : 3 ≤ a1
            · rw [if_pos q2]
            · have := wi_0.mp w
              exact absurd ⟨Int32.not_lt.mp q, by grind⟩ this
        rw [f_H_struck, if_pos this]
      · rw [f_Md_struck, b2, jm, e1, e2]
        simp only [bnd]
        rw [if_neg y, if_pos w]
    · obtain ⟨w1, w2⟩ := wi_ne.mp w
      obtain ⟨c, hc, rfl⟩ := jN_ex (n := 2) w1 w2 (by decide)
      have e3 : jN i * 3 + jN c = jN (3 * i + c) := by
        have := jN_mul i 3
        rw [show (3 : Int32) = jN 3 from rfl, this, jN_add, Nat.mul_comm]
      have e4 : 3 * jN i + jN c = jN (3 * i + c) := by
        have := jN_mul 3 i
        rw [show (3 : Int32) = jN 3 from rfl, this, jN_add]
      have d1 : ¬ jN c < 0 := fun q => by have := (jN_lt (b := 0) (by omega) (by decide)).mp q; omega
      have d2 : ¬ (3 : Int32) ≤ jN c := fun q => by have := (jN_le (a := 3) (by decide) (by omega)).mp q; omega
      have d3 : 0 ≤ jN (3 * i + c) ∧ jN (3 * i + c) < 3000 := jN_in (n := 3000) (by omega) (by decide)
      have : ¬ f_Ro_has_13 (jN i) (jN c) I L = 0 := by
        rw [f_Ro_has_13, if_neg c1, k2, if_neg c2, b3, if_neg c3, k1, if_neg d1, if_neg d2]; decide
      refine ⟨I 14 (3 * i + c), ?_, ?_⟩
      · rw [f_H_struck, if_neg this, f_Ro_at_13, if_neg this, k1, e3, if_pos d3, jN_tc (by omega), Option.bind_some]
      · rw [f_Md_struck, b2, jm, e1, e2]
        simp only [bnd]
        rw [if_neg y, if_neg w, e4, if_pos d3, jN_tc (by omega), k4 _ (by omega) (by omega)]
  · refine ⟨-1, ?_, ?_⟩
    · have : f_Ro_has_13 a0 a1 I L = 0 := by
        rw [f_Ro_has_13, k2, b3]
        by_cases c1 : a0 < 0
        · rw [if_pos c1]
        rw [if_neg c1]
        by_cases c2 : 1000 ≤ a0
        · rw [if_pos c2]
        rw [if_neg c2]
        by_cases c3 : jN n ≤ a0
        · rw [if_pos c3]
        obtain ⟨m, hm, rfl⟩ := jN_ex (n := n) (Int32.not_lt.mp c1) (Int32.le_of_lt (Int32.not_le.mp c3)) (by omega)
        have q1 := (jN_lt (by omega) (by omega)).mp (Int32.not_le.mp c3)
        have q2 := (jN_lt (b := 1000) (by omega) (by decide)).mp (Int32.not_le.mp c2)
        exact absurd ⟨m, by omega, rfl⟩ hi
      rw [f_H_struck, if_pos this]
    · have z : f_H_isWithin a0 0 (jN (min n 1000) - 1) = 0 := by
        rw [wi_0]
        rintro ⟨q1, q2⟩
        by_cases n0 : min n 1000 = 0
        · rw [n0] at q2
          exact absurd (Int32.le_trans q1 q2) (by decide)
        · rw [show (1 : Int32) = jN 1 from rfl, jN_sub (by omega)] at q2
          obtain ⟨m, hm, rfl⟩ := jN_ex q1 q2 (by omega)
          exact hi ⟨m, by omega, rfl⟩
      rw [f_Md_struck, b2, jm, e1]
      simp only [bnd]
      rw [if_pos z]
end ASK

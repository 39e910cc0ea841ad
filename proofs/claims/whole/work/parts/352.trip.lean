/-! the movement: a work is tripped, both -/
section TRP
variable {S : List xSh} {Rf : Nat → Nat → Option Nat} {I J : Nat → Nat → Int32} {L K : Nat → Nat → Int64} {p w n kb A : Nat}
theorem n12 {a : Nat} (h : 1 ≤ a ∧ a ≤ 12) : irem (jN a) 12 + 1 = f_St_nextOfTwelve (jN a) ∧ ∃ j, f_St_nextOfTwelve (jN a) = jN j ∧ 1 ≤ j ∧ j ≤ 12 := by
  obtain ⟨h1, j, h2, h3⟩ := cyc (k := a) (b := 12) h.1 h.2 (by decide)
  have e : irem (jN a) 12 + 1 = f_St_nextOfTwelve (jN a) := h1
  exact ⟨e, j, by rw [← e]; exact h2, h3⟩
theorem snd_ok (hp : 75 ≤ p) (hw : w < 8) (hi : I 1 12 = jN n) (hn : J 34 25 = jN n) (h : wSt Rf p w I J) (hs : STK kb I J) (hkb : kb < 3000000) : ∃ x I' J', f_H_tellStrike_S (jN w) p I L = some (x, I', L) ∧ f_Md_strikes (jN w) J K = some (x, J', K) ∧ wSt Rf p w I' J' ∧ STK (kb + 1) I' J' ∧ (∀ a j, ¬ (a = p ∧ j = 6) → a ≠ 14 → ¬ (a = 13 ∧ j = 3) → I' a j = I a j) ∧ ∀ a j, ¬ (a = 48 ∧ j = 10 * w + 1) → a ≠ 54 → ¬ (a = 34 ∧ j = 40) → J' a j = J a j := by
  obtain ⟨h1, h2, h3, h4, ⟨h5, h6, h7⟩, a, b, ha, hb, h8, h9⟩ := id h
  have c0 : 0 ≤ jN (10 * w) ∧ jN (10 * w) < 80 := r80 (i := 0) hw (by decide)
  have t0 : (jN (10 * w)).toNatClampNeg = 10 * w := t80 (i := 0) hw (by decide)
  have e1 : jN (10 * w) + 1 = jN (10 * w + 1) := i10 w 1
  have c8 : 0 ≤ jN w ∧ jN w < 8 := jN_in (n := 8) hw (by decide)
  have tw := jN_tc (k := w) (by omega)
  have hp14 : p ≠ 14 := by omega
  have hp13 : p ≠ 13 := by omega
  have hp1 : p ≠ 1 := by omega
  by_cases k : I p 2 = 1
  · obtain ⟨q1, j, q2, q3⟩ := n12 hb
    obtain ⟨I', J', s1, s2, s3, s4, s5⟩ := snd0 (I := uI I p 6 (f_St_nextOfTwelve (I p 6))) (J := uI J 48 (10 * w + 1) (f_St_nextOfTwelve (I p 6))) (L := L) (K := K) (n := n) (kb := kb) (x := I p 6) hw (by simp [uI, hp1.symm, hi]) (by simp [uI, hn]) (STK_ext hs (by simp [uI, hp13.symm]) (by simp [uI, hp13.symm]) (by simp [uI, hp13.symm]) (by simp [uI]) (fun j => by simp [uI, hp14.symm]) (fun j => by simp [uI])) hkb
    have fI : ∀ a j, ¬ (a = p ∧ j = 6) → a ≠ 14 → ¬ (a = 13 ∧ j = 3) → I' a j = I a j := fun a j g1 g2 g3 => by
      rw [s4 a j g2 g3]; simp only [uI]; rw [if_neg g1]
    have fJ : ∀ a j, ¬ (a = 48 ∧ j = 10 * w + 1) → a ≠ 54 → ¬ (a = 34 ∧ j = 40) → J' a j = J a j := fun a j g1 g2 g3 => by
      rw [s5 a j g2 g3]; simp only [uI]; rw [if_neg g1]
    have n6 : I' p 6 = f_St_nextOfTwelve (I p 6) := by rw [s4 p 6 hp14 (by omega)]; simp [uI]
    have m6 : J' 48 (10 * w + 1) = f_St_nextOfTwelve (I p 6) := by rw [s5 48 _ (by decide) (by omega)]; simp [uI]
    have gI : ∀ i, i ≠ 6 → I' p i = I p i := fun i hi => fI p i (fun q => hi q.2) hp14 (by omega)
    refine ⟨I p 6, I', J', ?_, ?_, ⟨?_, ?_, ?_, ?_, ⟨?_, ?_, ?_⟩, a, j, ha, q3, ?_, ?_⟩, s3, fI, fJ⟩
    · rw [tlS_of, f_St_sound, if_neg (by rw [k]; decide)]
      exact s1
    · rw [f_Md_strikes, x10]
      simp only [bnd]
      rw [if_pos c0, if_pos c8, tw, ← h2, if_pos k, e1, if_pos (r80 hw (by decide)), t80 hw (by decide), if_pos (r80 hw (by decide)), ← h6]
      have : irem (I p 6) 12 + 1 = f_St_nextOfTwelve (I p 6) := by rw [h9]; exact q1
      rw [this]
      exact s2
    · rw [fJ 42 w (by simp) (by decide) (by simp)]; exact h1
    · rw [gI 2 (by decide), fJ 44 w (by simp) (by decide) (by simp)]; exact h2
    · rw [gI 2 (by decide)]; exact h3
    · rw [gI 7 (by decide)]; exact h4
    · rw [gI 5 (by decide), fJ 48 (10 * w) (by simp) (by decide) (by simp)]; exact h5
    · rw [n6, m6]
    · rw [gI 7 (by decide), fJ 48 (10 * w + 2) (by simp) (by decide) (by simp)]; exact h7
    · rw [gI 5 (by decide)]; exact h8
    · rw [n6, h9]; exact q2
  · obtain ⟨I', J', s1, s2, s3, s4, s5⟩ := snd0 (I := I) (J := J) (L := L) (K := K) (n := n) (kb := kb) (x := I p 5) hw hi hn hs hkb
    have gI : ∀ i, I' p i = I p i := fun i => s4 p i hp14 (by omega)
    have gJ : ∀ a i, a ≠ 54 → a ≠ 34 → J' a i = J a i := fun a i q1 q2 => s5 a i q1 (fun q => q2 q.1)
    refine ⟨I p 5, I', J', ?_, ?_, ⟨?_, ?_, ?_, ?_, ⟨?_, ?_, ?_⟩, a, b, ha, hb, ?_, ?_⟩, s3, fun a j _ g2 g3 => s4 a j g2 g3, fun a j _ g2 g3 => s5 a j g2 g3⟩
    · rw [tlS_of, f_St_sound, if_pos (h3.resolve_right k)]
      exact s1
    · rw [f_Md_strikes, x10]
      simp only [bnd]
      rw [if_pos c0, if_pos c8, tw, ← h2, if_neg k, t0, ← h5]
      exact s2
    · rw [gJ 42 w (by decide) (by decide)]; exact h1
    · rw [gI, gJ 44 w (by decide) (by decide)]; exact h2
    · rw [gI]; exact h3
    · rw [gI]; exact h4
    · rw [gI, gJ 48 _ (by decide) (by decide)]; exact h5
    · rw [gI, gJ 48 _ (by decide) (by decide)]; exact h6
    · rw [gI, gJ 48 _ (by decide) (by decide)]; exact h7
    · rw [gI]; exact h8
    · rw [gI]; exact h9
/-- a trip's beginning in the reference -/
theorem tr_head (hw : w < 8) : f_Md_tripped (jN w) J K = (if J 42 w = 0 then (if ¬ J 45 w = 0 then some (uI (uI J 48 (10 * w + 6) (J 48 (10 * w + 6) + 1)) 48 (10 * w) (irem (J 48 (10 * w) + 1) (J 45 w)), K) else none) else if J 42 w = 1 then f_Md_nextDay (jN w) (uI J 48 (10 * w + 6) (J 48 (10 * w + 6) + 1)) K else if J 48 (10 * w + 2) = 0 then ((f_Md_strikes (jN w) (uI (uI J 48 (10 * w + 6) (J 48 (10 * w + 6) + 1)) 48 (10 * w) (irem (J 48 (10 * w)) 12 + 1)) K).bind fun q24 => some (q24.2.1, q24.2.2)) else some (uI (uI J 48 (10 * w + 6) (J 48 (10 * w + 6) + 1)) 48 (10 * w) (irem (J 48 (10 * w)) 12 + 1), K)) := by
  have c0 : 0 ≤ jN (10 * w) ∧ jN (10 * w) < 80 := r80 (i := 0) hw (by decide)
  have t0 : (jN (10 * w)).toNatClampNeg = 10 * w := t80 (i := 0) hw (by decide)
  have e6 : jN (10 * w) + 6 = jN (10 * w + 6) := i10 w 6
  have e2 : jN (10 * w) + 2 = jN (10 * w + 2) := i10 w 2
  have r6 := r80 (w := w) (i := 6) hw (by decide)
  have t6 := t80 (w := w) (i := 6) hw (by decide)
  have r2 := r80 (w := w) (i := 2) hw (by decide)
  have t2 := t80 (w := w) (i := 2) hw (by decide)
  have c8 : 0 ≤ jN w ∧ jN w < 8 := jN_in (n := 8) hw (by decide)
  have tw := jN_tc (k := w) (by omega)
  have fin : ∀ x : Option ((Nat → Nat → Int32) × (Nat → Nat → Int64)), (x.bind fun q42 => some (q42.1, q42.2)) = x := by intro x; cases x <;> rfl
  have v0 : ∀ y, (uI J 48 (10 * w + 6) y) 48 (10 * w) = J 48 (10 * w) := fun y => by simp [uI]
  have v2 : ∀ y z, (uI (uI J 48 (10 * w + 6) y) 48 (10 * w) z) 48 (10 * w + 2) = J 48 (10 * w + 2) := fun y z => by simp [uI]
  rw [f_Md_tripped, x10]
  simp only [bnd]
  rw [e6, if_pos r6, t6, if_pos r6, if_pos c8, tw, if_pos c0, t0, v0, if_pos c8, if_pos c0, if_pos c8, fin, if_pos c0, e2, if_pos r2, t2, v2]
  all_goals simp only [if_pos c0]
/-- a strike's trip -/
def St1 (w p : Nat) (I : Nat → Nat → Int32) (L : Nat → Nat → Int64) : Option ((Nat → Nat → Int32) × (Nat → Nat → Int64)) := (f_St_advance p I L).bind fun q => if f_St_isSilent p q.1 q.2 = 0 then (f_H_tellStrike_S (jN w) p q.1 q.2).bind fun r => some (r.2.1, r.2.2) else some (q.1, q.2)
theorem St1_b {β : Type} (w p : Nat) (I : Nat → Nat → Int32) (L : Nat → Nat → Int64) (F : (Nat → Nat → Int32) → (Nat → Nat → Int64) → Option β) : ((f_St_advance p I L).bind fun q32 => (if f_St_isSilent p q32.1 q32.2 = (0 : Int32) then ((f_H_tellStrike_S (jN w) p q32.1 q32.2).bind fun q35 => F q35.2.1 q35.2.2) else F q32.1 q32.2)) = (St1 w p I L).bind fun q => F q.1 q.2 := by
  unfold St1
  cases f_St_advance p I L with
  | none => rfl
  | some q =>
    simp only [Option.bind_some]
    by_cases c : f_St_isSilent p q.1 q.2 = 0
    · rw [if_pos c, if_pos c]
      cases f_H_tellStrike_S (jN w) p q.1 q.2 <;> rfl
    · rw [if_neg c, if_neg c]
      rfl
/-- both at a trip -/
def T1 (S : List xSh) (Rf : Nat → Nat → Option Nat) (A p w n kb : Nat) (I J : Nat → Nat → Int32) (L K : Nat → Nat → Int64) : Prop := ∃ I' J', ((S[p]? = some (.inl 4) ∧ f_Di_advance p (uI I p 1 (I p 1 + 1)) L = some (I', L)) ∨ (S[p]? = some (.inl 1) ∧ f_Ca_advance p (uI I p 1 (I p 1 + 1)) L = some (I', L)) ∨ (S[p]? = some (.inl 8) ∧ St1 w p (uI I p 1 (I p 1 + 1)) L = some (I', L))) ∧ f_Md_tripped (jN w) J K = some (J', K) ∧ WR S Rf A p w I' J' ∧ STK (kb + 1) I' J' ∧ FI p I I' ∧ FJ w J J'
theorem tr_di (hp : 75 ≤ p) (hw : w < 8) (h0 : ∃ a, a < A ∧ I p 0 = jN a ∧ J 43 w = jN a) (h1 : I p 1 = J 48 (10 * w + 6)) (hS : S[p]? = some (.inl 4)) (h : wDi p w I J) (hs : STK kb I J) : T1 S Rf A p w n kb I J L K := by
  obtain ⟨g1, a, b, ⟨b1, b2, b3⟩, g2, g3, g4, g5⟩ := h
  obtain ⟨q1, j, q2, q3⟩ := cyc0 (k := a) (b := b) b1 (by omega)
  have hp14 : p ≠ 14 := by omega
  have hp13 : p ≠ 13 := by omega
  have nz : ¬ J 45 w = 0 := fun q => by rw [g3] at q; have := (jN_inj (b := 0) (by omega) (by decide)).mp q; omega
  have hm : f_Md_tripped (jN w) J K = some (uI (uI J 48 (10 * w + 6) (J 48 (10 * w + 6) + 1)) 48 (10 * w) (jN j), K) := by
    rw [tr_head hw, if_pos g1, if_pos nz, g5, g3, q2]
  have hc : f_Di_advance p (uI I p 1 (I p 1 + 1)) L = some (uI (uI I p 1 (I p 1 + 1)) p 3 (jN j), L) := by
    have u2 : (uI I p 1 (I p 1 + 1)) p 2 = jN b := by simp [uI, g2]
    have u3 : (uI I p 1 (I p 1 + 1)) p 3 = jN a := by simp [uI, g4]
    rw [f_Di_advance, u2, u3, ← q2, q1]
    by_cases c : jN b - 1 ≤ jN a
    · rw [if_pos c, if_pos c]
    · rw [if_neg c, if_neg c]
  refine ⟨_, _, Or.inl ⟨hS, hc⟩, hm, ⟨?_, ?_, Or.inl ⟨hS, ?_, j, b, ⟨q3, b2, b3⟩, ?_, ?_, ?_, ?_⟩⟩, STK_w (STK_ext hs (by simp [uI, hp13.symm]) (by simp [uI, hp13.symm]) (by simp [uI, hp13.symm]) (by simp [uI]) (fun j => by simp [uI, hp14.symm]) (fun j => by simp [uI])) (by omega), fun x y z1 z2 z3 => by simp [uI, z1], fun x y z1 z2 z3 => ?_⟩
  · obtain ⟨k, k1, k2, k3⟩ := h0
    exact ⟨k, k1, by simp [uI, k2], by simp [uI, k3]⟩
  · simp [uI, h1]
  · simp [uI, g1]
  · simp [uI, g2]
  · simp [uI, g3]
  · simp [uI]
  · simp [uI]
  · simp only [uI]
    rw [if_neg (fun q => z1 ⟨q.1, by omega⟩), if_neg (fun q => z1 ⟨q.1, by omega⟩)]
theorem tr_st (hp : 75 ≤ p) (hw : w < 8) (h0 : ∃ a, a < A ∧ I p 0 = jN a ∧ J 43 w = jN a) (h1 : I p 1 = J 48 (10 * w + 6)) (hS : S[p]? = some (.inl 8)) (h : wSt Rf p w I J) (hi : I 1 12 = jN n) (hn : J 34 25 = jN n) (hs : STK kb I J) (hkb : kb < 3000000) : T1 S Rf A p w n kb I J L K := by
  obtain ⟨g1, g2, g3, g4, ⟨g5, g6, g7⟩, a, b, ha, hb, g8, g9⟩ := id h
  obtain ⟨q1, j, q2, q3⟩ := n12 ha
  have hp14 : p ≠ 14 := by omega
  have hp13 : p ≠ 13 := by omega
  have hp1 : p ≠ 1 := by omega
  have n0 : ¬ J 42 w = 0 := by rw [g1]; decide
  have n1 : ¬ J 42 w = 1 := by rw [g1]; decide
  have u5 : (uI I p 1 (I p 1 + 1)) p 5 = I p 5 := by simp [uI]
  have u7 : ∀ z, (uI (uI I p 1 (I p 1 + 1)) p 5 z) p 7 = I p 7 := fun z => by simp [uI]
  have nx : irem (J 48 (10 * w)) 12 + 1 = jN j := by rw [← g5, g8, q1, q2]
  have cx : f_St_nextOfTwelve (I p 5) = jN j := by rw [g8, q2]
  have hw1 : wSt Rf p w (uI (uI I p 1 (I p 1 + 1)) p 5 (jN j)) (uI (uI J 48 (10 * w + 6) (J 48 (10 * w + 6) + 1)) 48 (10 * w) (jN j)) := by
    refine ⟨by simp [uI, g1], by simp [uI, g2], by simpa [uI] using g3, by simpa [uI] using g4, ⟨by simp [uI], by simp [uI, g6], by simp [uI, g7]⟩, j, b, q3, hb, by simp [uI], by simp [uI, g9]⟩
  have hs1 : STK kb (uI (uI I p 1 (I p 1 + 1)) p 5 (jN j)) (uI (uI J 48 (10 * w + 6) (J 48 (10 * w + 6) + 1)) 48 (10 * w) (jN j)) := STK_ext hs (by simp [uI, hp13.symm]) (by simp [uI, hp13.symm]) (by simp [uI, hp13.symm]) (by simp [uI]) (fun j => by simp [uI, hp14.symm]) (fun j => by simp [uI])
  by_cases z : I p 7 = 0
  · obtain ⟨x, I', J', s1, s2, s3, s4, s5, s6⟩ := snd_ok (L := L) (K := K) (n := n) hp hw (by simp [uI, hp1.symm, hi]) (by simp [uI, hn]) hw1 hs1 hkb
    refine ⟨I', J', Or.inr (Or.inr ⟨hS, ?_⟩), ?_, ⟨?_, ?_, Or.inr (Or.inr ⟨hS, s3⟩)⟩, s4, fun x y z1 z2 z3 => ?_, fun x y z1 z2 z3 => ?_⟩
    · rw [St1, f_St_advance, u5, cx]
      simp only [bnd, Option.bind_some]
      rw [f_St_isSilent, u7, if_neg (show ¬ I p 7 = 1 by rw [z]; decide), if_pos rfl, s1, Option.bind_some]
    · rw [tr_head hw, if_neg n0, if_neg n1, ← g7, if_pos z, nx, s2, Option.bind_some]
    · obtain ⟨k, k1, k2, k3⟩ := h0
      refine ⟨k, k1, ?_, ?_⟩
      · rw [s5 p 0 (by simp) hp14 (by simp)]; simp [uI, k2]
      · rw [s6 43 w (by simp) (by decide) (by simp)]; simp [uI, k3]
    · rw [s5 p 1 (by simp) hp14 (by simp), s6 48 _ (by simp) (by decide) (by simp)]; simp [uI, h1]
    · rw [s5 x y (fun q => z1 q.1) z2 z3]
      simp [uI, z1]
    · rw [s6 x y (fun q => z1 ⟨q.1, by omega⟩) z2 (fun q => z3 ⟨q.1, Or.inl q.2⟩)]
      simp only [uI]
      rw [if_neg (fun q => z1 ⟨q.1, by omega⟩), if_neg (fun q => z1 ⟨q.1, by omega⟩)]
  · refine ⟨_, _, Or.inr (Or.inr ⟨hS, ?_⟩), ?_, ⟨?_, ?_, Or.inr (Or.inr ⟨hS, hw1⟩)⟩, STK_w hs1 (by omega), fun x y z1 z2 z3 => ?_, fun x y z1 z2 z3 => ?_⟩
    · rw [St1, f_St_advance, u5, cx]
      simp only [bnd, Option.bind_some]
      rw [f_St_isSilent, u7, if_pos (g4.resolve_left z), if_neg (by decide)]
    · rw [tr_head hw, if_neg n0, if_neg n1, ← g7, if_neg z, nx]
    · obtain ⟨k, k1, k2, k3⟩ := h0
      exact ⟨k, k1, by simp [uI, k2], by simp [uI, k3]⟩
    · simp [uI, h1]
    · simp [uI, z1]
    · simp only [uI]
      rw [if_neg (fun q => z1 ⟨q.1, by omega⟩), if_neg (fun q => z1 ⟨q.1, by omega⟩)]
theorem tr_ca (hp : 75 ≤ p) (hw : w < 8) (h0 : ∃ a, a < A ∧ I p 0 = jN a ∧ J 43 w = jN a) (h1 : I p 1 = J 48 (10 * w + 6)) (hS : S[p]? = some (.inl 1)) (h : wCa p w I J) (hs : STK kb I J) : T1 S Rf A p w n kb I J L K := by
  obtain ⟨g1, ⟨g2, g3⟩, ⟨g4, g5, g6, g7⟩, ⟨M, Y, V, hM, hY, hV, g8, g9, g10⟩, g11, g12, g13, g14⟩ := id h
  have hp14 : p ≠ 14 := by omega
  have hp13 : p ≠ 13 := by omega
  have n0 : ¬ J 42 w = 0 := by rw [g1]; decide
  have uI_ : ∀ i, i ≠ 1 → (uI I p 1 (I p 1 + 1)) p i = I p i := fun i hi => by simp [uI, hi]
  have uJ : ∀ i, i ≠ 6 → (uI J 48 (10 * w + 6) (J 48 (10 * w + 6) + 1)) 48 (10 * w + i) = J 48 (10 * w + i) := fun i hi => by simp [uI, hi]
  have uJ0 : (uI J 48 (10 * w + 6) (J 48 (10 * w + 6) + 1)) 48 (10 * w) = J 48 (10 * w) := by simp [uI]
  have uJ' : ∀ a i, a ≠ 48 → (uI J 48 (10 * w + 6) (J 48 (10 * w + 6) + 1)) a i = J a i := fun a i ha => by simp [uI, ha]
  obtain ⟨I', c1, c2, c3, c4, c5⟩ := caA (I := uI I p 1 (I p 1 + 1)) (L := L) (p := p)
  obtain ⟨J', m1, m2, m3, m4, m5⟩ := mdN (J := uI J 48 (10 * w + 6) (J 48 (10 * w + 6) + 1)) (K := K) (w := w) (td := I p 10) (tm := I p 11) (ty := I p 12) (M := M) (Y := Y) (V := V) hw (by rw [uJ 1 (by decide), ← g5]; exact ⟨g8, hM⟩) (by rw [uJ 2 (by decide), ← g6]; exact ⟨g9, hY⟩) (by rw [uJ 3 (by decide), ← g7]; exact ⟨g10, hV⟩) (by rw [uJ 4 (by decide)]; exact g11) (by rw [uJ' 44 w (by decide)]; exact g3) (by
    rw [uJ' 44 w (by decide), uJ 7 (by decide), uJ0, uJ 1 (by decide), uJ 2 (by decide), ← g4, ← g5, ← g6]
    exact g13)
  rw [uI_ 2 (by decide), uI_ 6 (by decide), uI_ 7 (by decide), uI_ 8 (by decide), uI_ 9 (by decide)] at c2
  rw [uI_ 10 (by decide), uI_ 11 (by decide), uI_ 12 (by decide)] at c3
  rw [uI_ 13 (by decide)] at c4
  rw [uJ' 44 w (by decide), uJ0, uJ 1 (by decide), uJ 2 (by decide), uJ 3 (by decide), ← g4, ← g5, ← g6, ← g7, ← g2] at m2
  rw [uJ 5 (by decide), ← g12] at m4
  obtain ⟨c21, c22, c23, c24⟩ := c2
  obtain ⟨c31, c32, c33⟩ := c3
  obtain ⟨m21, m22, m23, m24⟩ := m2
  have kI : ∀ i, i < 6 → I' p i = (uI I p 1 (I p 1 + 1)) p i := fun i hi => c5 p i (by omega)
  have kJ : ∀ a i, a ≠ 48 → a ≠ 34 → J' a i = J a i := fun a i q1 q2 => by rw [m5 a i (by omega) (fun q => absurd q q2), uJ' a i q1]
  have fI : FI p I I' := fun x y z1 z2 z3 => by rw [c5 x y (fun q => z1 q.1)]; simp [uI, z1]
  have fJ : FJ w J J' := fun x y z1 z2 z3 => by
    rw [m5 x y (fun q => z1 ⟨q.1, by omega⟩) (fun q => ⟨fun r => z3 ⟨q, by omega⟩, fun r => z3 ⟨q, by omega⟩, fun r => z3 ⟨q, by omega⟩⟩)]
    simp only [uI]
    rw [if_neg (fun q => z1 ⟨q.1, by omega⟩)]
  refine ⟨I', J', Or.inr (Or.inl ⟨hS, c1⟩), ?_, ⟨?_, ?_, Or.inr (Or.inl ⟨hS, ?_, ⟨?_, ?_⟩, ⟨?_, ?_, ?_, ?_⟩, ?_, ?_, ?_, ?_, ?_⟩)⟩, ?_, fI, fJ⟩
  · rw [tr_head hw, if_neg n0, if_pos g1]; exact m1
  · obtain ⟨k, k1, k2, k3⟩ := h0
    exact ⟨k, k1, by rw [kI 0 (by decide)]; simp [uI, k2], by rw [kJ 43 w (by decide) (by decide)]; exact k3⟩
  · rw [kI 1 (by decide), m5 48 _ (by omega) (fun q => absurd q (by decide))]; simp [uI, h1]
  · rw [kJ 42 w (by decide) (by decide)]; exact g1
  · rw [kI 2 (by decide), kJ 44 w (by decide) (by decide), uI_ 2 (by decide)]; exact g2
  · rw [kJ 44 w (by decide) (by decide)]; exact g3
  · rw [c21, m21]
  · rw [c22, m22]
  · rw [c23, m23]
  · rw [c24, m24]
  · -- ranges
    have rM : ∃ M', (1 ≤ M' ∧ M' ≤ 12) ∧ I' p 7 = jN M' := by
      rw [c22]; unfold sm
      by_cases c : f_Ca_length (I p 2) (I p 7) (I p 8) ≤ I p 6
      · rw [if_pos c, g8]
        obtain ⟨_, j, j1, j2⟩ := cyc (k := M) (b := 12) hM.1 hM.2 (by decide)
        have := (cyc (k := M) (b := 12) hM.1 hM.2 (by decide)).1
        rw [this] at j1
        exact ⟨j, j2, j1⟩
      · rw [if_neg c]; exact ⟨M, hM, g8⟩
    have rY : ∃ Y', (1 ≤ Y' ∧ Y' ≤ 9999) ∧ I' p 8 = jN Y' := by
      rw [c23]; unfold sy
      by_cases c : f_Ca_length (I p 2) (I p 7) (I p 8) ≤ I p 6
      · rw [if_pos c, f_Ca_yearBehind, g9]
        by_cases d : f_Ca_nextMonth (I p 7) = 1
        · rw [if_pos d]
          obtain ⟨e, j, j1, j2⟩ := cyc (k := Y) (b := 9999) hY.1 hY.2 (by decide)
          rw [e] at j1
          exact ⟨j, j2, j1⟩
        · rw [if_neg d]; exact ⟨Y, hY, rfl⟩
      · rw [if_neg c]; exact ⟨Y, hY, g9⟩
    have rV : ∃ V', V' ≤ 6 ∧ I' p 9 = jN V' := by
      rw [c24, g10]
      obtain ⟨e, j, j1, j2⟩ := cyc0 (k := V) (b := 7) (by omega) (by decide)
      rw [e] at j1
      exact ⟨j, by omega, j1⟩
    obtain ⟨M', a1, a2⟩ := rM
    obtain ⟨Y', b1, b2⟩ := rY
    obtain ⟨V', d1, d2⟩ := rV
    exact ⟨M', Y', V', a1, b1, d1, a2, b2, d2⟩
  · rw [c31, c32, c33]; exact m3
  · rw [c4, m4, c21, c22, c31, c32, m21, m22]
  · intro k3 z
    rw [kJ 44 w (by decide) (by decide)] at k3
    have z' : J 48 (10 * w + 7) = 0 := by
      rw [← z, m5 48 (10 * w + 7) (by omega) (fun q => absurd q (by decide)), uJ 7 (by decide)]
    obtain ⟨e1, e2, e3⟩ := g13 k3 z'
    rw [c21, c22, c23, c31, c32, c33, g2, k3, e1, e2, e3]
    exact ⟨rfl, rfl, rfl⟩
  · rw [kJ 46 w (by decide) (by decide), kI 3 (by decide), kI 4 (by decide), kI 5 (by decide), uI_ 3 (by decide), uI_ 4 (by decide), uI_ 5 (by decide)]
    exact g14
  · refine STK_w (STK_ext hs ?_ ?_ ?_ ?_ (fun j => ?_) (fun j => ?_)) (by omega)
    · rw [c5 13 3 (by omega)]; simp [uI, hp13.symm]
    · rw [c5 13 0 (by omega)]; simp [uI, hp13.symm]
    · rw [c5 13 1 (by omega)]; simp [uI, hp13.symm]
    · rw [m5 34 40 (by simp) (by decide)]; simp [uI]
    · rw [c5 14 j (by omega)]; simp [uI, hp14.symm]
    · exact kJ 54 j (by decide) (by decide)
theorem trip_one (hp : 75 ≤ p) (hw : w < 8) (h : WR S Rf A p w I J) (hi : I 1 12 = jN n) (hn : J 34 25 = jN n) (hs : STK kb I J) (hkb : kb < 3000000) : T1 S Rf A p w n kb I J L K := by
  obtain ⟨h0, h1, h2 | h2 | h2⟩ := h
  · exact tr_di hp hw h0 h1 h2.1 h2.2 hs
  · exact tr_ca hp hw h0 h1 h2.1 h2.2 hs
  · exact tr_st hp hw h0 h1 h2.1 h2.2 hi hn hs hkb
end TRP

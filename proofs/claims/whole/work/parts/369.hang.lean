/-! a movement that is built: works -/
/-- what both know of a work from its beginning -/
def WCF (S : List xSh) (A p w : Nat) (I J : Nat → Nat → Int32) : Prop := (∃ a, a < A ∧ I p 0 = jN a ∧ J 43 w = jN a) ∧ ((S[p]? = some (.inl 4) ∧ J 42 w = 0 ∧ ∃ b, (2 ≤ b ∧ b ≤ 1000) ∧ I p 2 = jN b ∧ J 45 w = jN b) ∨ (S[p]? = some (.inl 1) ∧ J 42 w = 1 ∧ (I p 2 = J 44 w ∧ (J 44 w = 0 ∨ J 44 w = 1 ∨ J 44 w = 2 ∨ J 44 w = 3)) ∧ DAY (J 46 w) (I p 3) (I p 4) (I p 5)) ∨ (S[p]? = some (.inl 8) ∧ J 42 w = 2 ∧ I p 2 = J 44 w ∧ (I p 2 = 0 ∨ I p 2 = 1)))
def RSA (k : Nat) (x : Option (Int32 × xH)) (y : Option (Int32 × (Nat → Nat → Int32) × (Nat → Nat → Int64))) : Prop := ∃ v S' Rf' I' L' J' K', x = some (v, S', I', L', Rf') ∧ y = some (v, J', K') ∧ MOV k S' Rf' I' J' L' K'
section HNG
variable {S S' : List xSh} {Rf Rf' : Nat → Nat → Option Nat} {I J I' J' : Nat → Nat → Int32} {L K L' K' : Nat → Nat → Int64} {A A0 T nl nc nw k r n s : Nat} {pc pw : Nat → Nat}
theorem RSA.nop {x : Option (Int32 × xH)} {y : Option (Int32 × (Nat → Nat → Int32) × (Nat → Nat → Int64))} {v : Int32} (h : MOV k S Rf I J L K) (e1 : x = some (v, S, I, L, Rf)) (e2 : y = some (v, J, K)) : RSA (k + 1) x y := ⟨v, S, Rf, I, L, J, K, e1, e2, MOV_mono h (by omega)⟩
theorem mrgA {x : Option (Int32 × xH)} {y : (Nat → Nat → Int32) → (Nat → Nat → Int64) → Option (Int32 × (Nat → Nat → Int32) × (Nat → Nat → Int64))} {k' : Nat} (h : INV k S Rf I L) (frH : ∀ q, x = some q → FRh I q.2.2.1 L q.2.2.2.1) (frM : ∀ J K q, y J K = some q → FRm J q.2.1 K q.2.2) (op : ∀ J K, MOV k S Rf I J L K → RSA k' x (y J K)) : wp x (fun q => wp (y q.2.2.1 q.2.2.2.1) (fun q' => q.1 = q'.1 ∧ INV k' q.2.1 q.2.2.2.2 q'.2.1 q'.2.2)) := by
  obtain ⟨hh, hm⟩ := h
  obtain ⟨v, S1, Rf1, I', L', _, _, e1, _, _⟩ := op I L hm
  have f1 := frH _ e1
  simp only [] at f1
  obtain ⟨v2, S2, Rf2, I2, L2, J', K', e2, e3, e4⟩ := op I' L' (MOV_ext hm (Nat.le_refl _) (fun _ _ _ => rfl) (fun a j q => f1.1 a j (by omega) (by omega)) (fun _ _ _ => rfl) (fun a j q => f1.2 a j (by omega) (by omega)))
  rw [e1] at e2
  have e := Option.some.inj e2
  obtain ⟨rfl, rfl, rfl, rfl, rfl⟩ : v = v2 ∧ S1 = S2 ∧ I' = I2 ∧ L' = L2 ∧ Rf1 = Rf2 := ⟨congrArg (fun q => q.1) e, congrArg (fun q => q.2.1) e, congrArg (fun q => q.2.2.1) e, congrArg (fun q => q.2.2.2.1) e, congrArg (fun q => q.2.2.2.2) e⟩
  have f2 := frM _ _ _ e3
  simp only [] at f2
  refine ⟨_, e1, _, e3, rfl, ?_, ?_⟩
  · refine HOU_ext hh (fun a j q => ?_) (fun a j q => ?_)
    · simp only []
      rw [f2.1 a j (by omega), f1.1 a j (by omega) (by omega)]
    · simp only []
      rw [f2.2 a j (by omega), f1.2 a j (by omega) (by omega)]
  · exact MOV_ext e4 (Nat.le_refl _) (fun a j q => f2.1 a j (by omega)) (fun _ _ _ => rfl) (fun a j q => f2.2 a j (by omega)) (fun _ _ _ => rfl)
theorem WR_fresh {p w : Nat} (c : WCF S A p w I J) (h : wS S p I I) (h' : wJ w J J) : WR S Rf A p w I J := by
  obtain ⟨c1, c2⟩ := c
  obtain ⟨_, p2, p3⟩ := h
  obtain ⟨q1, q2, q3, q4, q5, q6⟩ := h'
  refine ⟨c1, by rw [p2, q2], ?_⟩
  rcases c2 with ⟨z, y1, b, y2, y3, y4⟩ | ⟨z, y1, y2, y3⟩ | ⟨z, y1, y2, y3⟩
  · left
    rw [z] at p3
    obtain ⟨_, _, p4⟩ : _ := p3.resolve_right (fun q => by rcases q with q | q; exact s41 q.1.symm; exact s48 q.1.symm)
    exact ⟨z, y1, 0, b, ⟨by omega, y2⟩, y3, y4, by rw [p4]; rfl, by rw [q4 y1]; rfl⟩
  · right; left
    rw [z] at p3
    have p3' := p3.resolve_left (fun q => s41 q.1)
    obtain ⟨_, _, ⟨r6, r7, r8, r9⟩, ⟨r10, r11, r12⟩, r13⟩ : _ := p3'.resolve_right (fun q => s18 q.1.symm)
    obtain ⟨t4, t5, t6⟩ := q5 y1
    obtain ⟨u0, u1, u2⟩ := t5 _ _ _ y3
    obtain ⟨D, M, Y, hD, v1, v2, v3, v4⟩ := id y3
    have wd : I p 9 = irem (J 46 w) 7 := by
      have e := wkd_ok hD
      rw [v1, v2, v3, e] at r9
      rw [v4]
      exact (Option.some.inj r9).symm
    have big := dN_big hD
    refine ⟨z, y1, y2, ⟨by rw [r6, u0], by rw [r7, u1], by rw [r8, u2], by rw [wd, t6]⟩, ⟨M, Y, dN D M Y % 7, hD.2.1, hD.1, by omega, by rw [r7]; exact v2, by rw [r8]; exact v3, ?_⟩, by rw [t4, r10, r11, r12]; exact y3, by rw [r13, q1], fun _ _ => ⟨by rw [r6, r10], by rw [r7, r11], by rw [r8, r12]⟩, y3⟩
    rw [wd, v4]
    exact jN_rem (b := 7) (by omega) (by decide)
  · right; right
    rw [z] at p3
    obtain ⟨_, r2, r3, r5, r6, r7⟩ : _ := (p3.resolve_left (fun q => s48 q.1)).resolve_left (fun q => s18 q.1)
    obtain ⟨t1, t2, t3⟩ := q6 y1
    exact ⟨z, y1, y2, y3, Or.inl r7, ⟨by rw [r5, t1], by rw [r6, t2], by rw [r7, t3]⟩, 12, 1, by omega, by omega, by rw [r5]; rfl, by rw [r6]; rfl⟩
theorem wS_self {p : Nat} (h : wS S p I I') : wS S p I' I' := by
  obtain ⟨h1, h2, h3⟩ := h
  refine ⟨rfl, h2, ?_⟩
  rcases h3 with ⟨z, a, b⟩ | ⟨z, ⟨a1, a2, a3, a4⟩, ⟨b1, b2, b3, b4⟩, ⟨c1, c2, c3⟩, d⟩ | ⟨z, a, b, c⟩
  · exact Or.inl ⟨z, rfl, b⟩
  · exact Or.inr (Or.inl ⟨z, ⟨rfl, rfl, rfl, rfl⟩, ⟨by rw [b1, a2], by rw [b2, a3], by rw [b3, a4], by rw [a2, a3, a4]; exact b4⟩, ⟨by rw [c1, a2], by rw [c2, a3], by rw [c3, a4]⟩, d⟩)
  · exact Or.inr (Or.inr ⟨z, rfl, rfl, c⟩)
/-- the reference's new work -/
theorem work_ok {s a kd m d : Int32} (m0 : J 34 24 = 0) (j16 : J 34 16 = jN nw) (hn : nw < 8) (hd : s = 0 ∨ (s = 1 ∧ ∃ x y z, DAY d x y z) ∨ s = 2) : ∃ J2, f_Md_work s a kd m d J K = some (jN nw, J2, K) ∧ (J2 42 nw = s ∧ J2 43 nw = a ∧ J2 44 nw = kd ∧ J2 45 nw = m ∧ J2 46 nw = d) ∧ J2 34 16 = jN (nw + 1) ∧ wJ nw J2 J2 ∧ ∀ b j, ¬ (42 ≤ b ∧ b ≤ 46 ∧ j = nw) → ¬ (b = 48 ∧ 10 * nw ≤ j ∧ j < 10 * nw + 10) → ¬ (b = 34 ∧ (j = 16 ∨ j = 45 ∨ j = 46 ∨ j = 47)) → J2 b j = J b j := by
  have c2 : ¬ jN nw = 8 := fun q => by have := (jN_inj (b := 8) (by omega) (by decide)).mp q; omega
  have c3 : 0 ≤ jN nw ∧ jN nw < 8 := jN_in (n := 8) hn (by decide)
  have e1 : jN (nw + 1) - 1 = jN nw := jN_sub (a := nw + 1) (b := 1) (by omega)
  obtain ⟨X, hX⟩ : ∃ X, X = uI (uI (uI (uI (uI J 42 nw s) 43 nw a) 44 nw kd) 45 nw m) 46 nw d := ⟨_, rfl⟩
  have x : X 42 nw = s ∧ X 43 nw = a ∧ X 44 nw = kd ∧ X 45 nw = m ∧ X 46 nw = d := by
    rw [hX]; exact ⟨by simp [uI], by simp [uI], by simp [uI], by simp [uI], by simp [uI]⟩
  have xo : ∀ b j, ¬ (42 ≤ b ∧ b ≤ 46 ∧ j = nw) → X b j = J b j := fun b j q => by
    rw [hX, uI_o (by omega), uI_o (by omega), uI_o (by omega), uI_o (by omega), uI_o (by omega)]
  obtain ⟨J1, a1, a2, a3⟩ := first_ok (J := X) (K := K) (w := nw) hn (by rw [x.1, x.2.2.2.2]; exact hd)
  have o1 : ∀ b, 42 ≤ b → b ≤ 46 → J1 b nw = X b nw := fun b q1 q2 => a3 b nw (by omega) (by omega)
  refine ⟨uI J1 34 16 (jN (nw + 1)), ?_, ⟨?_, ?_, ?_, ?_, ?_⟩, by simp [uI], ?_, fun b j q1 q2 q3 => ?_⟩
  · rw [f_Md_work, if_pos m0, j16, if_neg c2, if_pos c3, if_pos c3, if_pos c3, if_pos c3, if_pos c3, jN_tc (by omega), ← hX, a1, Option.bind_some]
    have : J1 34 16 = jN nw := by rw [a3 34 16 (by omega) (by omega), xo 34 16 (by omega)]; exact j16
    simp only [bnd]
    rw [this, jN_1, e1]
  · rw [uI_o (by omega), o1 42 (by omega) (by omega)]; exact x.1
  · rw [uI_o (by omega), o1 43 (by omega) (by omega)]; exact x.2.1
  · rw [uI_o (by omega), o1 44 (by omega) (by omega)]; exact x.2.2.1
  · rw [uI_o (by omega), o1 45 (by omega) (by omega)]; exact x.2.2.2.1
  · rw [uI_o (by omega), o1 46 (by omega) (by omega)]; exact x.2.2.2.2
  · exact wJ_ext a2 (fun i _ => uI_o (by omega)) (by rw [uI_o (by omega)]; exact o1 42 (by omega) (by omega)) (by rw [uI_o (by omega)]; exact o1 46 (by omega) (by omega))
  · rw [uI_o (by omega), a3 b j q2 (by omega), xo b j q1]
/-- a new work, in both: p its cell -/
theorem MOV_hang {ci p : Nat} {I3 J2 : Nat → Nat → Int32} {Rf2 : Nat → Nat → Option Nat} (h : MOV k S Rf I J L K) (hg : I 0 8 = 0) (hp : 78 + 3 * nw ≤ p ∧ p < 81 + 3 * nw) (sl : S[p]? = some (.inl ci)) (hc : ci = 4 ∨ ci = 1 ∨ ci = 8) (g1 : GRS A A0 T nl I J L) (g2 : COR S Rf A nc nw pc pw 0 0 0 I J L K) (g3 : BOK 0 I J) (g4 : STI S nc nw pc pw I I L L) (g5 : STJ A nc nw J J K K) (hn : nw < 8) (hR : ∀ a j, ¬ (a = 11 ∧ j = nw) → Rf2 a j = Rf a j) (hR1 : Rf2 11 nw = some p) (hI : ∀ a j, a ≠ p → ¬ (a = 0 ∧ j = 6) → I3 a j = I a j) (hI1 : I3 0 6 = jN (nw + 1)) (hJ1 : J2 34 16 = jN (nw + 1)) (hJ : ∀ b j, ¬ (42 ≤ b ∧ b ≤ 46 ∧ j = nw) → ¬ (b = 48 ∧ 10 * nw ≤ j ∧ j < 10 * nw + 10) → ¬ (b = 34 ∧ (j = 16 ∨ j = 45 ∨ j = 46 ∨ j = 47)) → J2 b j = J b j) (hws : wS S p I3 I3) (hj : wJ nw J2 J2) (hcf : WCF S A p nw I3 J2) : MOV (k + 1) S Rf2 I3 J2 L K := by
  have h3 := h.2.2.1.1
  have m0 : J 34 24 = 0 := by rw [← h3]; exact hg
  have ho := g2.2.2.2.2.1
  obtain ⟨x1, x2, x3, x4, x5, x6, x7, x8, x9⟩ := g2
  have hnc := x6.2.2.1
  have e2 : ∀ a j, a < 75 → ¬ (a = 0 ∧ j = 6) → I3 a j = I a j := fun a j q1 q2 => hI a j (by omega) q2
  have ec : ∀ c, c < nc → ∀ j, I3 (pc c) j = I (pc c) j := fun c hc j => hI _ j (by have := x9.1 c hc; omega) (by have := x9.1 c hc; omega)
  have ew : ∀ w, w < nw → ∀ j, I3 (pw w) j = I (pw w) j := fun w hw j => hI _ j (by have := x9.2 w hw; omega) (by have := x9.2 w hw; omega)
  let pw' : Nat → Nat := fun w => if w = nw then p else pw w
  have pn : pw' nw = p := by simp [pw']
  have po : ∀ w, w < nw → pw' w = pw w := fun w hw => by
    have : w ≠ nw := by omega
    simp [pw', this]
  have c2 : COR S Rf2 A nc (nw + 1) pc pw' 0 0 0 I3 J2 L K := by
    refine ⟨DY_x x1 (fun j _ => e2 1 j (by omega) (by omega)) (fun a j q => e2 a j (by omega) (by omega)) (fun j _ _ => hJ 34 j (by omega) (by omega) (by omega)) (fun j => hJ 53 j (by omega) (by omega) (by omega)), ?_, CB_ext x3 (fun j _ _ => e2 1 j (by omega) (by omega)) (fun j _ _ => hJ 34 j (by omega) (by omega) (by omega)), fun j hj => by rw [e2 8 j (by omega) (by omega), hJ 41 j (by omega) (by omega) (by omega)]; exact x4 j hj, ⟨fun c hc => ⟨by rw [hR 12 c (by omega)]; exact (x5.1 c hc).1, (x5.1 c hc).2⟩, fun w hw => ?_, x5.2.2.1, fun a b ha hb e => ?_⟩, ?_, ⟨hI1, hJ1, by omega, fun w hw => ?_⟩, STK_ext x8 (e2 13 3 (by omega) (by omega)) (e2 13 0 (by omega) (by omega)) (e2 13 1 (by omega) (by omega)) (hJ 34 40 (by omega) (by omega) (by omega)) (fun j => e2 14 j (by omega) (by omega)) (fun j => hJ 54 j (by omega) (by omega) (by omega)), ⟨x9.1, fun w hw => ?_⟩⟩
    · obtain ⟨⟨w1, w2, w3, w4, w5⟩, w6⟩ := x2
      exact ⟨⟨w1, by rw [e2 1 12 (by omega) (by omega)]; exact w2, by rw [hJ 34 25 (by omega) (by omega) (by omega)]; exact w3, by rw [e2 1 5 (by omega) (by omega), hJ 34 14 (by omega) (by omega) (by omega)]; exact w4, w5⟩, by rw [e2 1 5 (by omega) (by omega)]; exact w6⟩
    · by_cases e : w = nw
      · subst e
        rw [pn]
        refine ⟨hR1, by omega, ?_⟩
        rw [sl]
        rcases hc with rfl | rfl | rfl <;> simp
      · rw [po w (by omega), hR 11 w (by omega)]; exact x5.2.1 w (by omega)
    · by_cases e1 : a = nw
      · by_cases e3 : b = nw
        · omega
        · rw [e1, pn, po b (by omega)] at e
          have := x9.2 b (by omega)
          omega
      · by_cases e3 : b = nw
        · rw [e3, pn, po a (by omega)] at e
          have := x9.2 a (by omega)
          omega
        · rw [po a (by omega), po b (by omega)] at e
          exact x5.2.2.2 a b (by omega) (by omega) e
    · exact CK_ext x6 (e2 0 7 (by omega) (by omega)) (fun c hc j => ec c hc j) (hJ 34 22 (by omega) (by omega) (by omega)) (fun a i q => hJ a i (by omega) (by omega) (by omega))
    · by_cases e : w = nw
      · subst e
        rw [pn]
        exact WR_fresh hcf hws hj
      · rw [po w (by omega)]
        exact WR_ext (I' := I3) (J' := J2) (x7.2.2.2 w (by omega)) (fun j => ew w (by omega) j) (fun i hi => hJ 48 _ (by omega) (by omega) (by omega)) (fun a q1 q2 => hJ a w (by omega) (by omega) (by omega))
    · by_cases e : w = nw
      · subst e; rw [pn]; omega
      · rw [po w (by omega)]; exact x9.2 w (by omega)
  have s2 : STI S nc (nw + 1) pc pw' I3 I3 L L := by
    obtain ⟨t1, t2, t3, t4, t5, t6⟩ := g4
    refine ⟨fun _ _ _ => rfl, ?_, t3, fun _ _ _ => rfl, fun c hc => ?_, fun w hw' => ?_⟩
    · rw [e2 1 8 (by omega) (by omega), e2 1 9 (by omega) (by omega), e2 1 10 (by omega) (by omega), e2 1 11 (by omega) (by omega), e2 1 12 (by omega) (by omega), e2 1 13 (by omega) (by omega), e2 1 14 (by omega) (by omega), e2 9 3 (by omega) (by omega), e2 13 3 (by omega) (by omega)]
      exact t2
    · have := t5 c hc
      unfold cS at this ⊢
      simp only [ec c hc]
      simpa using this
    · by_cases e : w = nw
      · subst e; rw [pn]; exact hws
      · rw [po w (by omega)]
        have := t6 w (by omega)
        unfold wS at this ⊢
        simp only [ew w (show w < nw by omega)]
        simpa using this
  have j2 : STJ A nc (nw + 1) J2 J2 K K := by
    obtain ⟨t1, t2, t3, t4, t5, t6⟩ := g5
    refine ⟨fun _ _ _ => rfl, ?_, t3, fun _ _ => ⟨rfl, fun _ => ⟨rfl, rfl⟩⟩, fun c hc => ?_, fun w hw' => ?_⟩
    · rw [hJ 34 25 (by omega) (by omega) (by omega), hJ 34 26 (by omega) (by omega) (by omega), hJ 34 27 (by omega) (by omega) (by omega), hJ 34 28 (by omega) (by omega) (by omega), hJ 34 29 (by omega) (by omega) (by omega), hJ 34 30 (by omega) (by omega) (by omega), hJ 34 31 (by omega) (by omega) (by omega), hJ 34 40 (by omega) (by omega) (by omega)]
      exact t2
    · have := t5 c hc
      unfold cJ at this ⊢
      rw [hJ 49 c (by omega) (by omega) (by omega), hJ 50 c (by omega) (by omega) (by omega), hJ 51 c (by omega) (by omega) (by omega), hJ 52 c (by omega) (by omega) (by omega)]
      exact this
    · by_cases e : w = nw
      · subst e; exact hj
      · exact wJ_ext (t6 w (by omega)) (fun i hi => hJ 48 _ (by omega) (by omega) (by omega)) (hJ 42 w (by omega) (by omega) (by omega)) (hJ 46 w (by omega) (by omega) (by omega))
  have shp : SHP (k + 1) S Rf2 := ⟨h.1.1, fun i hi => by rw [hR 75 i (by omega), hR 76 i (by omega), hR 77 i (by omega)]; exact h.1.2.1 i hi, fun c hc => by rw [hR 12 c (by omega)]; exact h.1.2.2 c hc⟩
  exact MOV_b shp (fun j => by rw [hJ 56 j (by omega) (by omega) (by omega)]; exact h.2.1 j) (by rw [hI 0 8 (by omega) (by omega)]; exact hg) (by rw [hJ 34 24 (by omega) (by omega) (by omega)]; exact m0) (GRS_ext g1 (fun a j q => hI a j (by omega) (by omega)) (fun j q => hJ 34 j (by omega) (by omega) (by omega)) (fun a j q1 q2 => hJ a j (by omega) (by omega) (by omega)) (fun _ _ _ => rfl)) c2 (BOK_ext g3 (fun a j q => hI a j (by omega) (by omega)) (fun j q => hJ 34 j (by omega) (by omega) (by omega)) (fun j => hJ 55 j (by omega) (by omega) (by omega))) s2 j2
end HNG

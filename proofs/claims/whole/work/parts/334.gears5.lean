/-! the movement's gears: one link in a round, both -/
section GEE
variable {I J : Nat → Nat → Int32} {L K : Nat → Nat → Int64} {l A0 : Nat}
/-- a link's places -/
def PL (I J : Nat → Nat → Int32) (L K : Nat → Nat → Int64) (A0 l many : Nat) (arb : Nat → Nat) : Prop := (many = 2 ∨ many = 3) ∧ (∀ i, i < many → arb i < A0 ∧ I 6 (l * 3 + i) = jN (arb i) ∧ ∀ K', f_Md_arborOf (jN l) (jN i) J K' = some (jN (arb i))) ∧ (many = 2 → I 6 (l * 3 + 2) = -1 ∧ ¬ J 35 l = 2 ∧ J 35 l < 2) ∧ (many = 3 → J 35 l = 2) ∧ ∀ p, p < many → (∀ i, i < many → i ≠ p → sk L J K (arb i) ∧ ¬ L 4 (arb i) = 0) → STo I J L K l p
theorem lk_pl (h0 : I 2 0 = jN A0) (hA : A0 ≤ 24) (hl : l < 40) (h : LK I J A0 l) : ∃ many arb, PL I J L K A0 l many arb := by
  obtain ⟨a, b, m, n, g1, g2, g3⟩ := h
  obtain ⟨i1, i2, i3, i4, i5, i6, i7⟩ := id g2
  have ma0 : ∀ K', f_Md_arborOf (jN l) (jN 0) J K' = some (jN a) := fun K' => by rw [ao_0 hl, i2]
  have ma1 : ∀ K', f_Md_arborOf (jN l) (jN 1) J K' = some (jN b) := fun K' => by rw [ao_1 hl, i6]
  have mesh : ((J 35 l = 0 ∧ I 7 (l * 3 + 1) = jN n ∧ I 6 (l * 3 + 2) = -1) ∨ (J 35 l = 1 ∧ I 7 (l * 3 + 1) = -jN n ∧ I 6 (l * 3 + 2) = -1)) → ∃ many arb, PL I J L K A0 l many arb := by
    intro g
    refine ⟨2, fun i => if i = 0 then a else b, Or.inl rfl, fun i hi => ?_, fun _ => ⟨?_, ?_, ?_⟩, fun q => by omega, fun p hp hk => ?_⟩
    · have : i = 0 ∨ i = 1 := by omega
      rcases this with rfl | rfl
      · exact ⟨g1.1, i1, ma0⟩
      · exact ⟨g1.2.1, i5, ma1⟩
    · rcases g with g | g <;> exact g.2.2
    · rcases g with g | g <;> rw [g.1] <;> decide
    · rcases g with g | g <;> rw [g.1] <;> decide
    · have key : sk L J K (if p = 0 then b else a) ∧ ¬ L 4 (if p = 0 then b else a) = 0 := by
        have : p = 0 ∨ p = 1 := by omega
        rcases this with rfl | rfl
        · exact hk 1 (by decide) (by decide)
        · exact hk 0 (by decide) (by decide)
      exact st_mesh h0 hA hl g1 g2 g hp key.1 key.2
  rcases g3 with g | g | ⟨k1, k2, c, ⟨c1, c2, c3⟩, k3⟩
  · exact mesh (Or.inl g)
  · exact mesh (Or.inr g)
  · have ma2 : ∀ K', f_Md_arborOf (jN l) (jN 2) J K' = some (jN c) := fun K' => by rw [ao_2 hl, k3.2.1]
    refine ⟨3, fun i => if i = 0 then a else if i = 1 then b else c, Or.inr rfl, fun i hi => ?_, fun q => by omega, fun _ => k1, fun p hp hk => ?_⟩
    · have : i = 0 ∨ i = 1 ∨ i = 2 := by omega
      rcases this with rfl | rfl | rfl
      · exact ⟨g1.1, i1, ma0⟩
      · exact ⟨g1.2.1, i5, ma1⟩
      · exact ⟨c1, k3.1, ma2⟩
    · exact st_epi h0 hA hl g1 g2 k1 k2 c1 k3 hp (fun q => hk 0 (by decide) (fun e => q e.symm)) (fun q => hk 1 (by decide) (fun e => q e.symm)) (fun q => hk 2 (by decide) (fun e => q e.symm))
/-- exactly one unknown -/
def U1 (L : Nat → Nat → Int64) (many : Nat) (arb : Nat → Nat) (p : Nat) : Prop := p < many ∧ L 4 (arb p) = 0 ∧ ∀ i, i < many → i ≠ p → ¬ L 4 (arb i) = 0
variable {many : Nat} {arb : Nat → Nat}
theorem cu_val (h0 : I 2 0 = jN A0) (hA : A0 ≤ 24) (hl : l < 40) (h : PL I J L K A0 l many arb) : ∃ c : Int32, f_Ge_countUnknown (jN l) I L = some c ∧ (c = 1 ↔ ∃ p, U1 L many arb p) ∧ (c = 0 ↔ ∀ i, i < many → ¬ L 4 (arb i) = 0) := by
  obtain ⟨h1, h2, h3, h4, _⟩ := h
  obtain ⟨N, hN⟩ := xF_10
  have z : (0 : Int32) = jN 0 := rfl
  have n1 : ¬ ((0 : Int32) = 1) := by decide
  have n2 : ((0 : Int32) + 1 = 1) := by decide
  have n3 : ¬ ((0 : Int32) + 1 + 1 = 1) := by decide
  have n4 : ¬ ((0 : Int32) + 1 + 1 + 1 = 1) := by decide
  have m1 : ¬ ((0 : Int32) + 1 = 0) := by decide
  have m2 : ¬ ((0 : Int32) + 1 + 1 = 0) := by decide
  have m3 : ¬ ((0 : Int32) + 1 + 1 + 1 = 0) := by decide
  rcases h1 with rfl | rfl
  · obtain ⟨p0, q0, _⟩ := h2 0 (by decide)
    obtain ⟨p1, q1, _⟩ := h2 1 (by decide)
    have ev : f_Ge_countUnknown (jN l) I L = some (if L 4 (arb 1) = 0 then (if L 4 (arb 0) = 0 then 0 + 1 else 0) + 1 else (if L 4 (arb 0) = 0 then 0 + 1 else 0)) := by
      rw [f_Ge_countUnknown, hN, show N + 10 = N + 6 + 1 + 1 + 1 + 1 by omega]
      have := cu_step (N := N + 6 + 1 + 1 + 1) (c := 0) (L := L) h0 hA p0 hl (by decide) q0
      rw [show f_Ge_countUnknown_L4 (N + 6 + 1 + 1 + 1 + 1) (jN l) 0 0 I L = f_Ge_countUnknown_L4 (N + 6 + 1 + 1 + 1 + 1) (jN l) 0 (jN 0) I L from rfl, this, cu_step h0 hA p1 hl (by decide) q1, cu_none hl (by decide) (h3 rfl).1, cu_end]
    refine ⟨_, ev, ?_, ?_⟩
    · constructor
      · intro hc
        by_cases a0 : L 4 (arb 0) = 0 <;> by_cases a1 : L 4 (arb 1) = 0 <;> simp only [a0, a1, if_true, if_false] at hc
        · exact absurd hc n3
        · exact ⟨0, by decide, a0, fun i hi hn => by have : i = 1 := by omega
                                                     subst this; exact a1⟩
        · exact ⟨1, by decide, a1, fun i hi hn => by have : i = 0 := by omega
                                                     subst this; exact a0⟩
        · exact absurd hc n1
      · rintro ⟨p, hp, hz, ho⟩
        have : p = 0 ∨ p = 1 := by omega
        rcases this with rfl | rfl
        · rw [if_neg (ho 1 (by decide) (by decide)), if_pos hz]; rfl
        · rw [if_pos hz, if_neg (ho 0 (by decide) (by decide))]; rfl
    · constructor
      · intro hc
        by_cases a0 : L 4 (arb 0) = 0 <;> by_cases a1 : L 4 (arb 1) = 0 <;> simp only [a0, a1, if_true, if_false] at hc
        · exact absurd hc m2
        · exact absurd hc m1
        · exact absurd hc m1
        · intro i hi
          have : i = 0 ∨ i = 1 := by omega
          rcases this with rfl | rfl
          · exact a0
          · exact a1
      · intro ho
        rw [if_neg (ho 1 (by decide)), if_neg (ho 0 (by decide))]
  · obtain ⟨p0, q0, _⟩ := h2 0 (by decide)
    obtain ⟨p1, q1, _⟩ := h2 1 (by decide)
    obtain ⟨p2, q2, _⟩ := h2 2 (by decide)
    have ev : f_Ge_countUnknown (jN l) I L = some (if L 4 (arb 2) = 0 then (if L 4 (arb 1) = 0 then (if L 4 (arb 0) = 0 then 0 + 1 else 0) + 1 else (if L 4 (arb 0) = 0 then 0 + 1 else 0)) + 1 else (if L 4 (arb 1) = 0 then (if L 4 (arb 0) = 0 then 0 + 1 else 0) + 1 else (if L 4 (arb 0) = 0 then 0 + 1 else 0))) := by
      rw [f_Ge_countUnknown, hN, show N + 10 = N + 6 + 1 + 1 + 1 + 1 by omega]
      have := cu_step (N := N + 6 + 1 + 1 + 1) (c := 0) (L := L) h0 hA p0 hl (by decide) q0
      rw [show f_Ge_countUnknown_L4 (N + 6 + 1 + 1 + 1 + 1) (jN l) 0 0 I L = f_Ge_countUnknown_L4 (N + 6 + 1 + 1 + 1 + 1) (jN l) 0 (jN 0) I L from rfl, this, cu_step h0 hA p1 hl (by decide) q1, cu_step h0 hA p2 hl (by decide) q2, cu_end]
    refine ⟨_, ev, ?_, ?_⟩
    · constructor
      · intro hc
        by_cases a0 : L 4 (arb 0) = 0 <;> by_cases a1 : L 4 (arb 1) = 0 <;> by_cases a2 : L 4 (arb 2) = 0 <;> simp only [a0, a1, a2, if_true, if_false] at hc
        · exact absurd hc n4
        · exact absurd hc n3
        · exact absurd hc n3
        · exact ⟨0, by decide, a0, fun i hi hn => by
            have : i = 1 ∨ i = 2 := by omega
            rcases this with rfl | rfl
            · exact a1
            · exact a2⟩
        · exact absurd hc n3
        · exact ⟨1, by decide, a1, fun i hi hn => by
            have : i = 0 ∨ i = 2 := by omega
            rcases this with rfl | rfl
            · exact a0
            · exact a2⟩
        · exact ⟨2, by decide, a2, fun i hi hn => by
            have : i = 0 ∨ i = 1 := by omega
            rcases this with rfl | rfl
            · exact a0
            · exact a1⟩
        · exact absurd hc n1
      · rintro ⟨p, hp, hz, ho⟩
        have : p = 0 ∨ p = 1 ∨ p = 2 := by omega
        rcases this with rfl | rfl | rfl
        · rw [if_neg (ho 2 (by decide) (by decide)), if_neg (ho 1 (by decide) (by decide)), if_pos hz]; rfl
        · rw [if_neg (ho 2 (by decide) (by decide)), if_pos hz, if_neg (ho 0 (by decide) (by decide))]; rfl
        · rw [if_pos hz, if_neg (ho 1 (by decide) (by decide)), if_neg (ho 0 (by decide) (by decide))]; rfl
    · constructor
      · intro hc
        by_cases a0 : L 4 (arb 0) = 0 <;> by_cases a1 : L 4 (arb 1) = 0 <;> by_cases a2 : L 4 (arb 2) = 0 <;> simp only [a0, a1, a2, if_true, if_false] at hc
        · exact absurd hc m3
        · exact absurd hc m2
        · exact absurd hc m2
        · exact absurd hc m1
        · exact absurd hc m2
        · exact absurd hc m1
        · exact absurd hc m1
        · intro i hi
          have : i = 0 ∨ i = 1 ∨ i = 2 := by omega
          rcases this with rfl | rfl | rfl
          · exact a0
          · exact a1
          · exact a2
      · intro ho
        rw [if_neg (ho 2 (by decide)), if_neg (ho 1 (by decide)), if_neg (ho 0 (by decide))]
end GEE

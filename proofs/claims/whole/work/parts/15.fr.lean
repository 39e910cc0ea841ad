/-! frames: which places a function leaves as they were; an array by its number a, an object's field by 1000 + 100 a + j -/
def dynS (S : List xSh) (a : Nat) : Prop := S[a]? = some (.inl 1) ∨ S[a]? = some (.inl 3) ∨ S[a]? = some (.inl 4) ∨ S[a]? = some (.inl 8)
def FR (S : List xSh) (u v : List Nat) (I I' : Nat → Nat → Int32) (L L' : Nat → Nat → Int64) : Prop := (∀ a j, a < S.length → a ∉ u → (j < 100 → 1000 + 100 * a + j ∉ u) → ¬ dynS S a → I' a j = I a j) ∧ ∀ a j, a < S.length → a ∉ v → (j < 100 → 1000 + 100 * a + j ∉ v) → L' a j = L a j
section XFR
variable {S S' : List xSh} {Rf Rf' : Nat → Nat → Option Nat} {u v u' v' : List Nat} {I I' I'' : Nat → Nat → Int32} {L L' L'' : Nat → Nat → Int64} {a j w : Nat}
theorem FR.rf : FR S u v I I L L := ⟨fun _ _ _ _ _ _ => rfl, fun _ _ _ _ _ => rfl⟩
theorem FR.ai {x : Int32} (h : FR S u v I I' L L') (ha : a ∈ u) : FR S u v I (uI I' a j x) L L' := ⟨fun b k h1 h2 h3 h4 => (uI_o (fun e => h2 (by rw [e.1]; exact ha))).trans (h.1 b k h1 h2 h3 h4), h.2⟩
theorem FR.fi {x : Int32} (h : FR S u v I I' L L') (ha : 1000 + 100 * a + j ∈ u ∧ j < 100) : FR S u v I (uI I' a j x) L L' := ⟨fun b k h1 h2 h3 h4 => (uI_o (fun e => h3 (by rw [e.2]; exact ha.2) (by rw [e.1, e.2]; exact ha.1))).trans (h.1 b k h1 h2 h3 h4), h.2⟩
theorem FR.al {x : Int64} (h : FR S u v I I' L L') (ha : a ∈ v) : FR S u v I I' L (uL L' a j x) := ⟨h.1, fun b k h1 h2 h3 => (uL_o (fun e => h2 (by rw [e.1]; exact ha))).trans (h.2 b k h1 h2 h3)⟩
theorem FR.fl {x : Int64} (h : FR S u v I I' L L') (ha : 1000 + 100 * a + j ∈ v ∧ j < 100) : FR S u v I I' L (uL L' a j x) := ⟨h.1, fun b k h1 h2 h3 => (uL_o (fun e => h3 (by rw [e.2]; exact ha.2) (by rw [e.1, e.2]; exact ha.1))).trans (h.2 b k h1 h2 h3)⟩
theorem FR.dy {x : Int32} {ci : Nat} (h : FR S u v I I' L L') (hw : S[w]? = some (.inl ci)) (hc : ci ∈ [1, 3, 4, 8]) : FR S u v I (uI I' w j x) L L' := ⟨fun b k h1 h2 h3 h4 => (uI_o (fun e => by
    obtain ⟨rfl, -⟩ := e
    simp only [List.mem_cons, List.mem_nil_iff, or_false] at hc
    exact h4 (by unfold dynS; rw [hw]; rcases hc with rfl | rfl | rfl | rfl <;> simp))).trans (h.1 b k h1 h2 h3 h4), h.2⟩
theorem FR.nw {x : Int32} (h : FR S u v I I' L L') (hw : S.length ≤ w) : FR S u v I (uI I' w j x) L L' := ⟨fun b k h1 h2 h3 h4 => (uI_o (fun e => by have := e.1; omega)).trans (h.1 b k h1 h2 h3 h4), h.2⟩
theorem FR.z (h : FR S u v I I' L L') (hw : S.length ≤ w) : FR S u v I (uZ I' w 0) L (uZ L' w 0) := ⟨fun b k h1 h2 h3 h4 => (if_neg (by omega)).trans (h.1 b k h1 h2 h3 h4), fun b k h1 h2 h3 => (if_neg (by omega)).trans (h.2 b k h1 h2 h3)⟩
theorem FR.ci {src sp dp n : Nat} (h : FR S u v I I' L L') (ha : a ∈ u) : FR S u v I (uC I' src sp a dp n) L L' := ⟨fun b k h1 h2 h3 h4 => (uC_o (fun e => h2 (by rw [e]; exact ha))).trans (h.1 b k h1 h2 h3 h4), h.2⟩
theorem FR.cl {src sp dp n : Nat} (h : FR S u v I I' L L') (ha : a ∈ v) : FR S u v I I' L (uC L' src sp a dp n) := ⟨h.1, fun b k h1 h2 h3 => (uC_o (fun e => h2 (by rw [e]; exact ha))).trans (h.2 b k h1 h2 h3)⟩
theorem FR.tr (h : FR S u v I I' L L') (g : FR S u' v' I' I'' L' L'') (s1 : ∀ x ∈ u', x ∈ u) (s2 : ∀ x ∈ v', x ∈ v) : FR S u v I I'' L L'' := ⟨fun b k h1 h2 h3 h4 => (g.1 b k h1 (fun e => h2 (s1 b e)) (fun w e => h3 w (s1 _ e)) h4).trans (h.1 b k h1 h2 h3 h4), fun b k h1 h2 h3 => (g.2 b k h1 (fun e => h2 (s2 b e)) (fun w e => h3 w (s2 _ e))).trans (h.2 b k h1 h2 h3)⟩
theorem FR.up (kp : KP S Rf S' Rf') (h : FR S' u v I I' L L') : FR S u v I I' L L' := by
  refine ⟨fun b k h1 h2 h3 h4 => h.1 b k (Nat.lt_of_lt_of_le h1 kp.len) h2 h3 (fun hd => h4 ?_), fun b k h1 h2 h3 => h.2 b k (Nat.lt_of_lt_of_le h1 kp.len) h2 h3⟩
  have e := kp.1 b _ (List.getElem?_eq_getElem h1)
  unfold dynS at hd ⊢
  rw [e] at hd
  rw [List.getElem?_eq_getElem h1]
  exact hd
end XFR

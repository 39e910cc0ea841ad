/-! trains: the class's search -/
def bup (ab be : Int64) (W P : List Nat) (B : (Nat × Int64 × Int64 × List Nat × List Nat)) : (Nat × Int64 × Int64 × List Nat × List Nat) :=
  if B.2.2.1 = 0 then ⟨W.length, Jabs (prL W 1 * be - prL P 1 * ab), prL P 1, W, P⟩ else if B.2.1 * prL P 1 ≤ Jabs (prL W 1 * be - prL P 1 * ab) * B.2.2.1 then B else ⟨W.length, Jabs (prL W 1 * be - prL P 1 * ab), prL P 1, W, P⟩
def CS (ab be : Int64) (lW gW lP gP : Nat) (B : (Nat × Int64 × Int64 × List Nat × List Nat)) (I : Nat → Nat → Int32) (L : Nat → Nat → Int64) : Prop :=
  (I 17 0 = jN lW ∧ I 17 1 = jN gW ∧ I 17 2 = jN lP ∧ I 17 3 = jN gP) ∧ L 17 9 = ab ∧ L 17 10 = be ∧ L 17 12 = B.2.2.1 ∧ (¬ B.2.2.1 = 0 → L 17 11 = B.2.1 ∧ I 17 4 = jN B.1 ∧ (∀ j, j < B.1 → I 18 j = jN (B.2.2.2.1.getD j 0)) ∧ ∀ j, j < B.1 → I 19 j = jN (B.2.2.2.2.getD j 0))
theorem At20_get {I : Nat → Nat → Int32} : ∀ {W : List Nat} {k : Nat}, At20 I k W → ∀ j, j < W.length → I 20 (k + j) = jN (W.getD j 0) := by
  intro W
  induction W with
  | nil => intro k _ j hj; simp at hj
  | cons x W ih =>
    intro k h j hj
    cases j with
    | zero => exact h.1
    | succ j =>
      have := ih h.2 j (by simpa using hj)
      rw [show k + (j + 1) = k + 1 + j by omega, this]
      simp
theorem At21_get {I : Nat → Nat → Int32} : ∀ {W : List Nat} {k : Nat}, At21 I k W → ∀ j, j < W.length → I 21 (k + j) = jN (W.getD j 0) := by
  intro W
  induction W with
  | nil => intro k _ j hj; simp at hj
  | cons x W ih =>
    intro k h j hj
    cases j with
    | zero => exact h.1
    | succ j =>
      have := ih h.2 j (by simpa using hj)
      rw [show k + (j + 1) = k + 1 + j by omega, this]
      simp
section TRC
variable {ab be : Int64} {lW gW lP gP : Nat}
theorem CS_ext {B : (Nat × Int64 × Int64 × List Nat × List Nat)} {I I' : Nat → Nat → Int32} {L : Nat → Nat → Int64} (h : CS ab be lW gW lP gP B I L) (e1 : ∀ j, I' 17 j = I 17 j) (e2 : ∀ j, I' 18 j = I 18 j) (e3 : ∀ j, I' 19 j = I 19 j) : CS ab be lW gW lP gP B I' L := by
  unfold CS at h ⊢
  simp only [e1, e2, e3]
  exact h
/-- the end of a round: the next row -/
theorem pin_next (hh : gP ≤ 1000) {n tot i : Nat} {W r : List Nat} {x : Int64} {B : (Nat × Int64 × Int64 × List Nat × List Nat)} {I : Nat → Nat → Int32} {L : Nat → Nat → Int64} {k28} (hr : r.length = n) (hn : n ≤ 3) (hb : ∀ x ∈ r, x ≤ 1000) (h0 : At20 I 0 W) (h1 : At21 I 0 r) (h2 : CS ab be lW gW lP gP B I L) : ∃ I', f_Tr_tryPinions_L95 k28 (jN n) x (jN tot) (jN i) I L = k28 (jN n) x (jN tot) (jN (i + 1)) I' L ∧ At20 I' 0 W ∧ At21 I' 0 ((nx gP r).getD r) ∧ CS ab be lW gW lP gP B I' L := by
  subst hr
  obtain ⟨I', e, g1, g2⟩ := nr21 (L := L) hh hn hb h1
  refine ⟨I', ?_, At20_ext W 0 (fun i _ _ => g1 20 i (by decide)) h0, g2, CS_ext h2 (fun j => g1 17 j (by decide)) (fun j => g1 18 j (by decide)) (fun j => g1 19 j (by decide))⟩
  rw [f_Tr_tryPinions_L95, h2.1.2.2.2, e, Option.bind_some, jN_1]
theorem keep_ok {n : Nat} {W P : List Nat} {e p : Int64} {B : (Nat × Int64 × Int64 × List Nat × List Nat)} {I : Nat → Nat → Int32} {L : Nat → Nat → Int64} (hW : W.length = n) (hP' : P.length = n) (hn : n ≤ 3) (h0 : At20 I 0 W) (h1 : At21 I 0 P) (h2 : CS ab be lW gW lP gP B I L) : ∃ I' L', f_Tr_keep (jN n) e p I L = some (I', L') ∧ At20 I' 0 W ∧ At21 I' 0 P ∧ CS ab be lW gW lP gP ⟨n, e, p, W, P⟩ I' L' := by
  have t0 : (0 : Int32).toNatClampNeg = 0 := by decide
  have t3 : (3 : Int32).toNatClampNeg = 3 := by decide
  refine ⟨_, _, rfl, ?_, ?_, ?_⟩
  · exact At20_ext W 0 (fun i _ _ => by simp [uC, uI]) h0
  · exact At21_ext P 0 (fun i _ _ => by simp [uC, uI]) h1
  · obtain ⟨h3, h4, h5, h6, h7⟩ := h2
    refine ⟨?_, ?_, ?_, ?_, fun _ => ⟨?_, ?_, ?_, ?_⟩⟩
    · simp [uC, uI, h3]
    · simp [uL, h4]
    · simp [uL, h5]
    · simp [uL]
    · simp [uL]
    · simp [uC, uI]
    · intro j hj
      have := At20_get h0 j (by rw [hW]; exact hj)
      rw [Nat.zero_add] at this
      have hj3 : j < 3 := by have : j < n := hj; omega
      simp [uC, uI, t0, t3, hj3, this]
    · intro j hj
      have := At21_get h1 j (by rw [hP']; exact hj)
      rw [Nat.zero_add] at this
      have hj3 : j < 3 := by have : j < n := hj; omega
      simp [uC, uI, t0, t3, hj3, this]
theorem pin_go (hh : gP ≤ 1000) {n tot : Nat} {W : List Nat} (hn : n ≤ 3) (hW : W.length = n) (ht : tot < 1000000) : ∀ (l : List (List Nat)) (i N : Nat) (B : (Nat × Int64 × Int64 × List Nat × List Nat)) (I : Nat → Nat → Int32) (L : Nat → Nat → Int64), i + l.length = tot → l.length < N → (∀ r ∈ l, r.length = n ∧ ∀ x ∈ r, x ≤ 1000) → (l = [] ∨ (Orb gP l ∧ ∃ r l', l = r :: l' ∧ At21 I 0 r)) → At20 I 0 W → CS ab be lW gW lP gP B I L → ∃ I' L', f_Tr_tryPinions_L28 N (jN n) (prL W 1 * be) (jN tot) (jN i) I L = some (I', L') ∧ At20 I' 0 W ∧ CS ab be lW gW lP gP (l.foldl (fun B P => bup ab be W P B) B) I' L' := by
  intro l
  induction l with
  | nil =>
    intro i N B I L h1 h2 h3 h4 h5 h6
    obtain ⟨N, rfl⟩ : ∃ k, N = k + 1 := ⟨N - 1, by simp at h2; omega⟩
    have : i = tot := by simpa using h1
    subst this
    exact ⟨I, L, by rw [f_Tr_tryPinions_L28, if_pos (Int32.le_refl _)], h5, h6⟩
  | cons r l ih =>
    intro i N B I L h1 h2 h3 h4 h5 h6
    simp only [List.length_cons] at h1 h2
    obtain ⟨N, rfl⟩ : ∃ k, N = k + 1 := ⟨N - 1, by omega⟩
    obtain ⟨ho, r0, l0, he, hr⟩ := h4.resolve_left (by simp)
    cases he
    obtain ⟨hr1, hr2⟩ := h3 r (by simp)
    have c1 : ¬ jN tot ≤ jN i := fun q => by have := (jN_le (by omega) (by omega)).mp q; omega
    have hpr : f_Tr_productOf_21 (jN n) I L = some (prL r 1) := by
      rw [← hr1]; exact product21 (by omega) hr
    -- what comes behind
    have key : ∀ (B : (Nat × Int64 × Int64 × List Nat × List Nat)) (I : Nat → Nat → Int32) (L : Nat → Nat → Int64), At20 I 0 W → At21 I 0 r → CS ab be lW gW lP gP B I L → ∃ I' L', f_Tr_tryPinions_L95 (f_Tr_tryPinions_L28 N) (jN n) (prL W 1 * be) (jN tot) (jN i) I L = some (I', L') ∧ At20 I' 0 W ∧ CS ab be lW gW lP gP (l.foldl (fun B P => bup ab be W P B) B) I' L' := by
      intro B I L g1 g2 g3
      obtain ⟨I1, e1, q1, q2, q3⟩ := pin_next (k28 := f_Tr_tryPinions_L28 N) (tot := tot) (i := i) (x := prL W 1 * be) hh hr1 hn hr2 g1 g2 g3
      rw [e1]
      refine ih (i + 1) N B I1 L (by omega) (by omega) (fun r' h => h3 r' (by simp [h])) ?_ q1 q3
      cases l with
      | nil => exact Or.inl rfl
      | cons r' l =>
        simp only [Orb] at ho
        rw [ho.1] at q2
        exact Or.inr ⟨ho.2, r', l, rfl, q2⟩
    have k86 : ∃ I' L', f_Tr_tryPinions_L86 (f_Tr_tryPinions_L28 N) (jN n) (prL W 1 * be) (jN tot) (jN i) (prL r 1) (Jabs (prL W 1 * be - prL r 1 * ab)) I L = some (I', L') ∧ At20 I' 0 W ∧ CS ab be lW gW lP gP (l.foldl (fun B P => bup ab be W P B) ⟨n, Jabs (prL W 1 * be - prL r 1 * ab), prL r 1, W, r⟩) I' L' := by
      obtain ⟨I1, L1, e1, q1, q2, q3⟩ := keep_ok (e := Jabs (prL W 1 * be - prL r 1 * ab)) (p := prL r 1) hW hr1 hn h5 hr h6
      rw [f_Tr_tryPinions_L86, e1, Option.bind_some]
      exact key _ I1 L1 q1 q2 q3
    simp only [List.foldl_cons]
    obtain ⟨h61, h62, h63, h64, h65⟩ := id h6
    rw [f_Tr_tryPinions_L28, if_neg c1, hpr, Option.bind_some]
    simp only [bnd, h62, h64]
    by_cases z : B.2.2.1 = 0
    · rw [if_pos z]
      have : bup ab be W r B = ⟨n, Jabs (prL W 1 * be - prL r 1 * ab), prL r 1, W, r⟩ := by
        unfold bup
        rw [if_pos z, hW]
      rw [this]
      exact k86
    · rw [if_neg z, (h65 z).1]
      by_cases y : B.2.1 * prL r 1 ≤ Jabs (prL W 1 * be - prL r 1 * ab) * B.2.2.1
      · rw [if_pos y]
        have : bup ab be W r B = B := by
          unfold bup
          rw [if_neg z, if_pos y]
        rw [this]
        exact key B I L h5 hr h6
      · rw [if_neg y]
        have : bup ab be W r B = ⟨n, Jabs (prL W 1 * be - prL r 1 * ab), prL r 1, W, r⟩ := by
          unfold bup
          rw [if_neg z, if_neg y, hW]
        rw [this]
        exact k86
end TRC

/-! rows of numbers that do not fall -/
def rwL (hi : Nat) : Nat → Nat → List (List Nat)
  | 0, _ => [[]]
  | _ + 1, 0 => []
  | n + 1, m + 1 => (rwL hi n (m + 1)).map (fun r => (hi - m) :: r) ++ rwL hi (n + 1) m
termination_by n m => (n, m)
def nx (hi : Nat) : List Nat → Option (List Nat)
  | [] => none
  | x :: r => match nx hi r with
    | some r' => some (x :: r')
    | none => if x < hi then some (List.replicate (r.length + 1) (x + 1)) else none
def Orb (hi : Nat) : List (List Nat) → Prop
  | [] => False
  | [r] => nx hi r = none
  | r :: r' :: l => nx hi r = some r' ∧ Orb hi (r' :: l)
theorem Orb_A {hi : Nat} : ∀ {l : List (List Nat)}, Orb hi l → Orb hi (l.map (fun r => hi :: r)) := by
  intro l
  induction l with
  | nil => intro h; exact h
  | cons r l ih =>
    intro h
    cases l with
    | nil =>
      simp only [Orb, List.map] at h ⊢
      simp [nx, h]
    | cons r' l =>
      simp only [Orb, List.map] at h ⊢ ih
      refine ⟨by simp [nx, h.1], ih h.2⟩
theorem Orb_B {hi n x : Nat} {m : List (List Nat)} (hx : x < hi) (hm : Orb hi (List.replicate (n + 1) (x + 1) :: m)) : ∀ {l : List (List Nat)}, (∀ r ∈ l, r.length = n) → Orb hi l → Orb hi (l.map (fun r => x :: r) ++ (List.replicate (n + 1) (x + 1) :: m)) := by
  intro l
  induction l with
  | nil => intro _ h; exact h.elim
  | cons r l ih =>
    intro hl h
    cases l with
    | nil =>
      simp only [Orb, List.map] at h ⊢
      refine ⟨?_, hm⟩
      have := hl r (by simp)
      simp [nx, h, hx, this]
    | cons r' l =>
      have q := ih (fun r hr => hl r (by simp only [List.mem_cons] at hr ⊢; exact Or.inr hr)) (by simp only [Orb] at h; exact h.2)
      simp only [Orb] at h
      simp only [List.map, List.cons_append, Orb] at q ⊢
      exact ⟨by simp [nx, h.1], q⟩
theorem rwL_mem {hi : Nat} : ∀ (n m : Nat), m ≤ hi + 1 → ∀ r ∈ rwL hi n m, r.length = n ∧ ∀ x ∈ r, hi + 1 - m ≤ x ∧ x ≤ hi := by
  intro n
  induction n with
  | zero => intro m _ r hr; rw [rwL] at hr; simp at hr; subst hr; simp
  | succ n ih =>
    intro m
    induction m with
    | zero => intro _ r hr; rw [rwL] at hr; simp at hr
    | succ m ihm =>
      intro hm r hr
      rw [rwL] at hr
      simp only [List.mem_append, List.mem_map] at hr
      rcases hr with ⟨r', h1, rfl⟩ | hr
      · obtain ⟨g1, g2⟩ := ih (m + 1) hm r' h1
        refine ⟨by simp [g1], fun x hx => ?_⟩
        simp only [List.mem_cons] at hx
        rcases hx with rfl | hx
        · omega
        · exact g2 x hx
      · obtain ⟨g1, g2⟩ := ihm (by omega) r hr
        exact ⟨g1, fun x hx => by have := g2 x hx; omega⟩
theorem rwL_orb {hi : Nat} : ∀ (n m : Nat), m ≤ hi → Orb hi (rwL hi n (m + 1)) ∧ ∃ l, rwL hi n (m + 1) = List.replicate n (hi - m) :: l := by
  intro n
  induction n with
  | zero => intro m _; rw [rwL]; exact ⟨rfl, [], rfl⟩
  | succ n ih =>
    intro m
    induction m with
    | zero =>
      intro _
      obtain ⟨h1, l, h2⟩ := ih 0 (Nat.zero_le _)
      rw [rwL, show rwL hi (n + 1) 0 = [] by rw [rwL]]
      simp only [List.append_nil, Nat.sub_zero]
      refine ⟨Orb_A h1, l.map (fun r => hi :: r), ?_⟩
      rw [Nat.zero_add] at h2
      rw [h2]; simp [List.replicate_succ]
    | succ m ihm =>
      intro hm
      obtain ⟨h1, l, h2⟩ := ih (m + 1) hm
      obtain ⟨h3, l', h4⟩ := ihm (by omega)
      rw [rwL]
      have e : hi - m = (hi - (m + 1)) + 1 := by omega
      rw [e] at h4
      constructor
      · rw [h4] at h3 ⊢
        exact Orb_B (by omega) h3 (fun r hr => (rwL_mem n (m + 1 + 1) (by omega) r hr).1) h1
      · rw [h2]
        refine ⟨l.map (fun r => (hi - (m + 1)) :: r) ++ rwL hi (n + 1) (m + 1), ?_⟩
        simp [List.replicate_succ]
theorem rwL_len1 {hi : Nat} : ∀ m, (rwL hi 1 m).length = m := by
  intro m
  induction m with
  | zero => rw [rwL]; rfl
  | succ m ih => rw [rwL]; simp [ih, rwL]
theorem rwL_len2 {hi : Nat} : ∀ m, 2 * (rwL hi 2 m).length = m * (m + 1) := by
  intro m
  induction m with
  | zero => rw [rwL]; rfl
  | succ m ih =>
    rw [rwL]
    simp only [List.length_append, List.length_map, rwL_len1, Nat.mul_add, ih]
    grind
theorem rwL_len3 {hi : Nat} : ∀ m, 6 * (rwL hi 3 m).length = m * (m + 1) * (m + 2) := by
  intro m
  induction m with
  | zero => rw [rwL]; rfl
  | succ m ih =>
    rw [rwL]
    simp only [List.length_append, List.length_map, Nat.mul_add, ih]
    have := rwL_len2 (hi := hi) (m + 1)
    grind
/-- how many rows there are -/
def rwN (n m : Nat) : Nat := if n = 1 then m else if n = 2 then m * (m + 1) / 2 else m * (m + 1) * (m + 2) / 6
theorem rwL_len {hi n m : Nat} (h : n = 1 ∨ n = 2 ∨ n = 3) : (rwL hi n m).length = rwN n m := by
  rcases h with rfl | rfl | rfl
  · rw [rwL_len1]; rfl
  · have := rwL_len2 (hi := hi) m
    simp only [rwN]
    rw [if_neg (by decide), if_pos trivial]
    omega
  · have := rwL_len3 (hi := hi) m
    simp only [rwN]
    rw [if_neg (by decide), if_neg (by decide)]
    omega

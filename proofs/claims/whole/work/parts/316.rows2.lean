/-! trains: rows in the class's arrays -/
def prL (W : List Nat) (a : Int64) : Int64 := W.foldl (fun a x => a * (jN x).toInt64) a
theorem nx_app {hi : Nat} {s s' : List Nat} (h : nx hi s = some s') : ∀ p : List Nat, nx hi (p ++ s) = some (p ++ s') := by
  intro p
  induction p with
  | nil => exact h
  | cons x p ih => simp [nx, ih]
theorem xF_10 : ∃ N, xF = N + 10 := ⟨xF - 10, by unfold xF; omega⟩
section TR20
variable {I : Nat → Nat → Int32} {L : Nat → Nat → Int64}
def At20 (I : Nat → Nat → Int32) (j : Nat) : List Nat → Prop
  | [] => True
  | x :: r => I 20 j = jN x ∧ At20 I (j + 1) r
theorem prod20 : ∀ (W : List Nat) (n j N : Nat) (a : Int64), j + W.length = n → n ≤ 3 → W.length < N → At20 I j W → f_Tr_productOf_20_L5 N (jN n) a (jN j) I L = some (prL W a) := by
  intro W
  induction W with
  | nil =>
    intro n j N a h1 h2 h3 _
    obtain ⟨N, rfl⟩ : ∃ k, N = k + 1 := ⟨N - 1, by simp at h3; omega⟩
    have : j = n := by simpa using h1
    subst this
    rw [f_Tr_productOf_20_L5, if_pos (Int32.le_refl _)]
    rfl
  | cons x W ih =>
    intro n j N a h1 h2 h3 h4
    obtain ⟨N, rfl⟩ : ∃ k, N = k + 1 := ⟨N - 1, by simp at h3; omega⟩
    simp only [List.length_cons] at h1 h3
    have c1 : ¬ jN n ≤ jN j := fun q => by have := (jN_le (by omega) (by omega)).mp q; omega
    have c2 : ¬ (3 : Int32) ≤ jN j := fun q => by have := (jN_le (a := 3) (by decide) (by omega)).mp q; omega
    have c3 : 0 ≤ jN j ∧ jN j < 3 := jN_in (n := 3) (by omega) (by decide)
    rw [f_Tr_productOf_20_L5, if_neg c1, if_neg c2, if_pos c3, jN_tc (by omega), h4.1, jN_1]
    simp only [bnd]
    rw [ih n (j + 1) N _ (by omega) h2 (by omega) h4.2]
    rfl
theorem product20 {W : List Nat} (hW : W.length ≤ 3) (h : At20 I 0 W) : f_Tr_productOf_20 (jN W.length) I L = some (prL W 1) := by
  rw [f_Tr_productOf_20]
  exact prod20 W W.length 0 xF 1 (by omega) hW (xF_big (by omega)) h
theorem fill20 (x : Nat) : ∃ I', f_Ar_fill_i_20 (jN x) I L = some (I', L) ∧ (∀ a j, a ≠ 20 → I' a j = I a j) ∧ ∀ n, n ≤ 3 → At20 I' 0 (List.replicate n x) := by
  obtain ⟨N, hN⟩ := xF_10
  refine ⟨uI (uI (uI I 20 0 (jN x)) 20 1 (jN x)) 20 2 (jN x), ?_, ?_, ?_⟩
  · have c0 : ¬ (3 : Int32) ≤ 0 := by decide
    have c1 : ¬ (3 : Int32) ≤ 0 + 1 := by decide
    have c2 : ¬ (3 : Int32) ≤ 0 + 1 + 1 := by decide
    have c3 : (3 : Int32) ≤ 0 + 1 + 1 + 1 := by decide
    have d0 : (0 : Int32) ≤ 0 ∧ (0 : Int32) < 3 := by decide
    have d1 : (0 : Int32) ≤ 0 + 1 ∧ (0 : Int32) + 1 < 3 := by decide
    have d2 : (0 : Int32) ≤ 0 + 1 + 1 ∧ (0 : Int32) + 1 + 1 < 3 := by decide
    have t0 : (0 : Int32).toNatClampNeg = 0 := by decide
    have t1 : ((0 : Int32) + 1).toNatClampNeg = 1 := by decide
    have t2 : ((0 : Int32) + 1 + 1).toNatClampNeg = 2 := by decide
    rw [f_Ar_fill_i_20, hN, show N + 10 = N + 6 + 1 + 1 + 1 + 1 by omega, f_Ar_fill_i_20_L5, if_neg c0, if_pos d0, f_Ar_fill_i_20_L5, if_neg c1, if_pos d1, f_Ar_fill_i_20_L5, if_neg c2, if_pos d2, f_Ar_fill_i_20_L5, if_pos c3, t0, t1, t2]
  · intro a j h
    simp [uI, h]
  · intro n hn
    match n, hn with
    | 0, _ => trivial
    | 1, _ => simp [List.replicate, At20, uI]
    | 2, _ => simp [List.replicate, At20, uI]
    | 3, _ => simp [List.replicate, At20, uI]
theorem nr20_set (x : Int32) : ∀ (m n j N : Nat) (I : Nat → Nat → Int32), j + m = n → n ≤ 3 → m < N → ∃ I', f_Tr_nextRow_20_L37 N (jN n) x (jN j) I L = some (I', L) ∧ (∀ a i, ¬ (a = 20 ∧ j ≤ i ∧ i < n) → I' a i = I a i) ∧ ∀ i, j ≤ i → i < n → I' 20 i = x := by
  intro m
  induction m with
  | zero =>
    intro n j N I h1 h2 h3
    obtain ⟨N, rfl⟩ : ∃ k, N = k + 1 := ⟨N - 1, by omega⟩
    have : j = n := by omega
    subst this
    exact ⟨I, by rw [f_Tr_nextRow_20_L37, if_pos (Int32.le_refl _)], fun _ _ _ => rfl, fun i h h' => by omega⟩
  | succ m ih =>
    intro n j N I h1 h2 h3
    obtain ⟨N, rfl⟩ : ∃ k, N = k + 1 := ⟨N - 1, by omega⟩
    have c1 : ¬ jN n ≤ jN j := fun q => by have := (jN_le (by omega) (by omega)).mp q; omega
    have c3 : 0 ≤ jN j ∧ jN j < 3 := jN_in (n := 3) (by omega) (by decide)
    obtain ⟨I', e, g1, g2⟩ := ih n (j + 1) N (uI I 20 j x) (by omega) h2 (by omega)
    refine ⟨I', by rw [f_Tr_nextRow_20_L37, if_neg c1, if_pos c3, jN_tc (by omega), jN_1, e], ?_, ?_⟩
    · intro a i h
      rw [g1 a i (by omega)]
      simp only [uI]
      rw [if_neg (by omega)]
    · intro i h h'
      by_cases q : i = j
      · rw [q, g1 20 j (by omega)]
        simp [uI]
      · exact g2 i (by omega) h'
theorem At20_ext {I I' : Nat → Nat → Int32} : ∀ (r : List Nat) (j : Nat), (∀ i, j ≤ i → i < j + r.length → I' 20 i = I 20 i) → At20 I j r → At20 I' j r := by
  intro r
  induction r with
  | nil => intros; trivial
  | cons x r ih =>
    intro j h g
    exact ⟨by rw [h j (Nat.le_refl _) (by simp)]; exact g.1, ih (j + 1) (fun i h1 h2 => h i (by omega) (by simp only [List.length_cons]; omega)) g.2⟩
theorem At20_rep {I : Nat → Nat → Int32} {x : Nat} : ∀ (n j : Nat), (∀ i, j ≤ i → i < j + n → I 20 i = jN x) → At20 I j (List.replicate n x) := by
  intro n
  induction n with
  | zero => intros; trivial
  | succ n ih =>
    intro j h
    rw [List.replicate_succ]
    exact ⟨h j (Nat.le_refl _) (by omega), ih (j + 1) (fun i h1 h2 => h i (by omega) (by omega))⟩
theorem At20_app {I : Nat → Nat → Int32} : ∀ (p r : List Nat) (j : Nat), At20 I j (p ++ r) ↔ At20 I j p ∧ At20 I (j + p.length) r := by
  intro p
  induction p with
  | nil => intro r j; simp [At20]
  | cons x p ih =>
    intro r j
    simp only [List.cons_append, At20, ih, List.length_cons, and_assoc]
    rw [show j + 1 + p.length = j + (p.length + 1) by omega]
theorem nr20_go {hi n : Nat} (hn : n ≤ 3) (hh : hi ≤ 1000) : ∀ (k : Nat) (p s : List Nat) (N : Nat), p.length = k → k + s.length = n → k < N → (∀ x ∈ p, x ≤ 1000) → nx hi s = none → At20 I 0 (p ++ s) → ∃ I', f_Tr_nextRow_20_L12 N (jN hi) (jN n) (jN k + (-1)) I L = some (I', L) ∧ (∀ a i, a ≠ 20 → I' a i = I a i) ∧ At20 I' 0 ((nx hi (p ++ s)).getD (p ++ s)) := by
  intro k
  induction k with
  | zero =>
    intro p s N h1 h2 h3 h4 h5 h6
    obtain ⟨N, rfl⟩ : ∃ k, N = k + 1 := ⟨N - 1, by omega⟩
    have hp : p = [] := List.length_eq_zero_iff.mp h1
    subst hp
    refine ⟨I, ?_, fun _ _ _ => rfl, ?_⟩
    · have c : jN 0 + (-1) < 0 := by decide
      rw [f_Tr_nextRow_20_L12, if_pos c]
    · rw [List.nil_append] at h6 ⊢
      rw [h5]
      exact h6
  | succ k ih =>
    intro p s N h1 h2 h3 h4 h5 h6
    obtain ⟨N, rfl⟩ : ∃ k, N = k + 1 := ⟨N - 1, by omega⟩
    rcases List.eq_nil_or_concat p with hp | ⟨q, x, hp⟩
    · rw [hp] at h1; simp at h1
    · rw [List.concat_eq_append] at hp
      subst hp
      have hq : q.length = k := by simpa using h1
      have ek : jN (k + 1) + (-1) = jN k := by
        rw [← jN_1]
        grind
      have c0 : ¬ jN k < 0 := fun q => by have := (jN_lt (b := 0) (by omega) (by decide)).mp q; omega
      have c3 : 0 ≤ jN k ∧ jN k < 3 := jN_in (n := 3) (by omega) (by decide)
      rw [List.append_assoc] at h6 ⊢
      obtain ⟨g1, g2⟩ := (At20_app q ([x] ++ s) 0).mp h6
      rw [Nat.zero_add, hq] at g2
      have hx : I 20 k = jN x := g2.1
      have hx1 : x ≤ 1000 := h4 x (by simp)
      by_cases c : hi ≤ x
      · have c1 : jN hi ≤ jN x := (jN_le (by omega) (by omega)).mpr c
        obtain ⟨I', e, r1, r2⟩ := ih q (x :: s) N hq (by simp only [List.length_cons]; omega) (by omega) (fun y hy => h4 y (by simp [hy])) (by simp [nx, h5]; omega) h6
        refine ⟨I', ?_, r1, r2⟩
        rw [ek, f_Tr_nextRow_20_L12, if_neg c0, if_pos c3, jN_tc (by omega), hx, if_pos c1]
        exact e
      · have c1 : ¬ jN hi ≤ jN x := fun q => c ((jN_le (by omega) (by omega)).mp q)
        obtain ⟨I', e, r1, r2⟩ := nr20_set (L := L) (jN (x + 1)) (n - k) n k xF I (by omega) hn (xF_big (by omega))
        refine ⟨I', ?_, fun a i ha => r1 a i (fun q => ha q.1), ?_⟩
        · rw [ek, f_Tr_nextRow_20_L12, if_neg c0, if_pos c3, jN_tc (by omega), hx, if_neg c1, if_pos c3, jN_1]
          exact e
        · have e2 : nx hi ([x] ++ s) = some (List.replicate (s.length + 1) (x + 1)) := by
            simp [nx, h5]; omega
          rw [nx_app e2 q]
          show At20 I' 0 (q ++ List.replicate (s.length + 1) (x + 1))
          rw [At20_app]
          refine ⟨At20_ext q 0 (fun i h1 h2 => r1 20 i (by omega)) g1, ?_⟩
          rw [Nat.zero_add, hq]
          exact At20_rep _ _ (fun i h1 h2 => r2 i h1 (by omega))
theorem nr20 {hi : Nat} (hh : hi ≤ 1000) {r : List Nat} (hn : r.length ≤ 3) (hr : ∀ x ∈ r, x ≤ 1000) (h : At20 I 0 r) : ∃ I', f_Tr_nextRow_20 (jN r.length) (jN hi) I L = some (I', L) ∧ (∀ a i, a ≠ 20 → I' a i = I a i) ∧ At20 I' 0 ((nx hi r).getD r) := by
  have q := nr20_go (I := I) (L := L) (n := r.length) hn hh r.length r [] xF rfl (by simp) (xF_big (by omega)) hr rfl (by rw [List.append_nil]; exact h)
  rw [List.append_nil] at q
  have e : jmin (jN r.length) 3 = jN r.length := by
    unfold jmin
    exact if_neg (fun q => by have := (jN_lt (a := 3) (by decide) (by omega)).mp q; omega)
  have e2 : jN r.length - 1 = jN r.length + (-1) := by grind
  simp only [f_Tr_nextRow_20, bnd, e, e2]
  exact q
end TR20
section TR21
variable {I : Nat → Nat → Int32} {L : Nat → Nat → Int64}
def At21 (I : Nat → Nat → Int32) (j : Nat) : List Nat → Prop
  | [] => True
  | x :: r => I 21 j = jN x ∧ At21 I (j + 1) r
theorem prod21 : ∀ (W : List Nat) (n j N : Nat) (a : Int64), j + W.length = n → n ≤ 3 → W.length < N → At21 I j W → f_Tr_productOf_21_L5 N (jN n) a (jN j) I L = some (prL W a) := by
  intro W
  induction W with
  | nil =>
    intro n j N a h1 h2 h3 _
    obtain ⟨N, rfl⟩ : ∃ k, N = k + 1 := ⟨N - 1, by simp at h3; omega⟩
    have : j = n := by simpa using h1
    subst this
    rw [f_Tr_productOf_21_L5, if_pos (Int32.le_refl _)]
    rfl
  | cons x W ih =>
    intro n j N a h1 h2 h3 h4
    obtain ⟨N, rfl⟩ : ∃ k, N = k + 1 := ⟨N - 1, by simp at h3; omega⟩
    simp only [List.length_cons] at h1 h3
    have c1 : ¬ jN n ≤ jN j := fun q => by have := (jN_le (by omega) (by omega)).mp q; omega
    have c2 : ¬ (3 : Int32) ≤ jN j := fun q => by have := (jN_le (a := 3) (by decide) (by omega)).mp q; omega
    have c3 : 0 ≤ jN j ∧ jN j < 3 := jN_in (n := 3) (by omega) (by decide)
    rw [f_Tr_productOf_21_L5, if_neg c1, if_neg c2, if_pos c3, jN_tc (by omega), h4.1, jN_1]
    simp only [bnd]
    rw [ih n (j + 1) N _ (by omega) h2 (by omega) h4.2]
    rfl
theorem product21 {W : List Nat} (hW : W.length ≤ 3) (h : At21 I 0 W) : f_Tr_productOf_21 (jN W.length) I L = some (prL W 1) := by
  rw [f_Tr_productOf_21]
  exact prod21 W W.length 0 xF 1 (by omega) hW (xF_big (by omega)) h
theorem fill21 (x : Nat) : ∃ I', f_Ar_fill_i_21 (jN x) I L = some (I', L) ∧ (∀ a j, a ≠ 21 → I' a j = I a j) ∧ ∀ n, n ≤ 3 → At21 I' 0 (List.replicate n x) := by
  obtain ⟨N, hN⟩ := xF_10
  refine ⟨uI (uI (uI I 21 0 (jN x)) 21 1 (jN x)) 21 2 (jN x), ?_, ?_, ?_⟩
  · have c0 : ¬ (3 : Int32) ≤ 0 := by decide
    have c1 : ¬ (3 : Int32) ≤ 0 + 1 := by decide
    have c2 : ¬ (3 : Int32) ≤ 0 + 1 + 1 := by decide
    have c3 : (3 : Int32) ≤ 0 + 1 + 1 + 1 := by decide
    have d0 : (0 : Int32) ≤ 0 ∧ (0 : Int32) < 3 := by decide
    have d1 : (0 : Int32) ≤ 0 + 1 ∧ (0 : Int32) + 1 < 3 := by decide
    have d2 : (0 : Int32) ≤ 0 + 1 + 1 ∧ (0 : Int32) + 1 + 1 < 3 := by decide
    have t0 : (0 : Int32).toNatClampNeg = 0 := by decide
    have t1 : ((0 : Int32) + 1).toNatClampNeg = 1 := by decide
    have t2 : ((0 : Int32) + 1 + 1).toNatClampNeg = 2 := by decide
    rw [f_Ar_fill_i_21, hN, show N + 10 = N + 6 + 1 + 1 + 1 + 1 by omega, f_Ar_fill_i_21_L5, if_neg c0, if_pos d0, f_Ar_fill_i_21_L5, if_neg c1, if_pos d1, f_Ar_fill_i_21_L5, if_neg c2, if_pos d2, f_Ar_fill_i_21_L5, if_pos c3, t0, t1, t2]
  · intro a j h
    simp [uI, h]
  · intro n hn
    match n, hn with
    | 0, _ => trivial
    | 1, _ => simp [List.replicate, At21, uI]
    | 2, _ => simp [List.replicate, At21, uI]
    | 3, _ => simp [List.replicate, At21, uI]
theorem nr21_set (x : Int32) : ∀ (m n j N : Nat) (I : Nat → Nat → Int32), j + m = n → n ≤ 3 → m < N → ∃ I', f_Tr_nextRow_21_L37 N (jN n) x (jN j) I L = some (I', L) ∧ (∀ a i, ¬ (a = 21 ∧ j ≤ i ∧ i < n) → I' a i = I a i) ∧ ∀ i, j ≤ i → i < n → I' 21 i = x := by
  intro m
  induction m with
  | zero =>
    intro n j N I h1 h2 h3
    obtain ⟨N, rfl⟩ : ∃ k, N = k + 1 := ⟨N - 1, by omega⟩
    have : j = n := by omega
    subst this
    exact ⟨I, by rw [f_Tr_nextRow_21_L37, if_pos (Int32.le_refl _)], fun _ _ _ => rfl, fun i h h' => by omega⟩
  | succ m ih =>
    intro n j N I h1 h2 h3
    obtain ⟨N, rfl⟩ : ∃ k, N = k + 1 := ⟨N - 1, by omega⟩
    have c1 : ¬ jN n ≤ jN j := fun q => by have := (jN_le (by omega) (by omega)).mp q; omega
    have c3 : 0 ≤ jN j ∧ jN j < 3 := jN_in (n := 3) (by omega) (by decide)
    obtain ⟨I', e, g1, g2⟩ := ih n (j + 1) N (uI I 21 j x) (by omega) h2 (by omega)
    refine ⟨I', by rw [f_Tr_nextRow_21_L37, if_neg c1, if_pos c3, jN_tc (by omega), jN_1, e], ?_, ?_⟩
    · intro a i h
      rw [g1 a i (by omega)]
      simp only [uI]
      rw [if_neg (by omega)]
    · intro i h h'
      by_cases q : i = j
      · rw [q, g1 21 j (by omega)]
        simp [uI]
      · exact g2 i (by omega) h'
theorem At21_ext {I I' : Nat → Nat → Int32} : ∀ (r : List Nat) (j : Nat), (∀ i, j ≤ i → i < j + r.length → I' 21 i = I 21 i) → At21 I j r → At21 I' j r := by
  intro r
  induction r with
  | nil => intros; trivial
  | cons x r ih =>
    intro j h g
    exact ⟨by rw [h j (Nat.le_refl _) (by simp)]; exact g.1, ih (j + 1) (fun i h1 h2 => h i (by omega) (by simp only [List.length_cons]; omega)) g.2⟩
theorem At21_rep {I : Nat → Nat → Int32} {x : Nat} : ∀ (n j : Nat), (∀ i, j ≤ i → i < j + n → I 21 i = jN x) → At21 I j (List.replicate n x) := by
  intro n
  induction n with
  | zero => intros; trivial
  | succ n ih =>
    intro j h
    rw [List.replicate_succ]
    exact ⟨h j (Nat.le_refl _) (by omega), ih (j + 1) (fun i h1 h2 => h i (by omega) (by omega))⟩
theorem At21_app {I : Nat → Nat → Int32} : ∀ (p r : List Nat) (j : Nat), At21 I j (p ++ r) ↔ At21 I j p ∧ At21 I (j + p.length) r := by
  intro p
  induction p with
  | nil => intro r j; simp [At21]
  | cons x p ih =>
    intro r j
    simp only [List.cons_append, At21, ih, List.length_cons, and_assoc]
    rw [show j + 1 + p.length = j + (p.length + 1) by omega]
theorem nr21_go {hi n : Nat} (hn : n ≤ 3) (hh : hi ≤ 1000) : ∀ (k : Nat) (p s : List Nat) (N : Nat), p.length = k → k + s.length = n → k < N → (∀ x ∈ p, x ≤ 1000) → nx hi s = none → At21 I 0 (p ++ s) → ∃ I', f_Tr_nextRow_21_L12 N (jN hi) (jN n) (jN k + (-1)) I L = some (I', L) ∧ (∀ a i, a ≠ 21 → I' a i = I a i) ∧ At21 I' 0 ((nx hi (p ++ s)).getD (p ++ s)) := by
  intro k
  induction k with
  | zero =>
    intro p s N h1 h2 h3 h4 h5 h6
    obtain ⟨N, rfl⟩ : ∃ k, N = k + 1 := ⟨N - 1, by omega⟩
    have hp : p = [] := List.length_eq_zero_iff.mp h1
    subst hp
    refine ⟨I, ?_, fun _ _ _ => rfl, ?_⟩
    · have c : jN 0 + (-1) < 0 := by decide
      rw [f_Tr_nextRow_21_L12, if_pos c]
    · rw [List.nil_append] at h6 ⊢
      rw [h5]
      exact h6
  | succ k ih =>
    intro p s N h1 h2 h3 h4 h5 h6
    obtain ⟨N, rfl⟩ : ∃ k, N = k + 1 := ⟨N - 1, by omega⟩
    rcases List.eq_nil_or_concat p with hp | ⟨q, x, hp⟩
    · rw [hp] at h1; simp at h1
    · rw [List.concat_eq_append] at hp
      subst hp
      have hq : q.length = k := by simpa using h1
      have ek : jN (k + 1) + (-1) = jN k := by
        rw [← jN_1]
        grind
      have c0 : ¬ jN k < 0 := fun q => by have := (jN_lt (b := 0) (by omega) (by decide)).mp q; omega
      have c3 : 0 ≤ jN k ∧ jN k < 3 := jN_in (n := 3) (by omega) (by decide)
      rw [List.append_assoc] at h6 ⊢
      obtain ⟨g1, g2⟩ := (At21_app q ([x] ++ s) 0).mp h6
      rw [Nat.zero_add, hq] at g2
      have hx : I 21 k = jN x := g2.1
      have hx1 : x ≤ 1000 := h4 x (by simp)
      by_cases c : hi ≤ x
      · have c1 : jN hi ≤ jN x := (jN_le (by omega) (by omega)).mpr c
        obtain ⟨I', e, r1, r2⟩ := ih q (x :: s) N hq (by simp only [List.length_cons]; omega) (by omega) (fun y hy => h4 y (by simp [hy])) (by simp [nx, h5]; omega) h6
        refine ⟨I', ?_, r1, r2⟩
        rw [ek, f_Tr_nextRow_21_L12, if_neg c0, if_pos c3, jN_tc (by omega), hx, if_pos c1]
        exact e
      · have c1 : ¬ jN hi ≤ jN x := fun q => c ((jN_le (by omega) (by omega)).mp q)
        obtain ⟨I', e, r1, r2⟩ := nr21_set (L := L) (jN (x + 1)) (n - k) n k xF I (by omega) hn (xF_big (by omega))
        refine ⟨I', ?_, fun a i ha => r1 a i (fun q => ha q.1), ?_⟩
        · rw [ek, f_Tr_nextRow_21_L12, if_neg c0, if_pos c3, jN_tc (by omega), hx, if_neg c1, if_pos c3, jN_1]
          exact e
        · have e2 : nx hi ([x] ++ s) = some (List.replicate (s.length + 1) (x + 1)) := by
            simp [nx, h5]; omega
          rw [nx_app e2 q]
          show At21 I' 0 (q ++ List.replicate (s.length + 1) (x + 1))
          rw [At21_app]
          refine ⟨At21_ext q 0 (fun i h1 h2 => r1 21 i (by omega)) g1, ?_⟩
          rw [Nat.zero_add, hq]
          exact At21_rep _ _ (fun i h1 h2 => r2 i h1 (by omega))
theorem nr21 {hi : Nat} (hh : hi ≤ 1000) {r : List Nat} (hn : r.length ≤ 3) (hr : ∀ x ∈ r, x ≤ 1000) (h : At21 I 0 r) : ∃ I', f_Tr_nextRow_21 (jN r.length) (jN hi) I L = some (I', L) ∧ (∀ a i, a ≠ 21 → I' a i = I a i) ∧ At21 I' 0 ((nx hi r).getD r) := by
  have q := nr21_go (I := I) (L := L) (n := r.length) hn hh r.length r [] xF rfl (by simp) (xF_big (by omega)) hr rfl (by rw [List.append_nil]; exact h)
  rw [List.append_nil] at q
  have e : jmin (jN r.length) 3 = jN r.length := by
    unfold jmin
    exact if_neg (fun q => by have := (jN_lt (a := 3) (by decide) (by omega)).mp q; omega)
  have e2 : jN r.length - 1 = jN r.length + (-1) := by grind
  simp only [f_Tr_nextRow_21, bnd, e, e2]
  exact q
end TR21

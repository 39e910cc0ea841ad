/-! the reference's search -/
def At62 (I : Nat → Nat → Int32) (j : Nat) : List Nat → Prop
  | [] => True
  | x :: r => I 62 j = jN x ∧ At62 I (j + 1) r
theorem At62_ext {I I' : Nat → Nat → Int32} : ∀ (r : List Nat) (j : Nat), (∀ i, j ≤ i → i < j + r.length → I' 62 i = I 62 i) → At62 I j r → At62 I' j r := by
  intro r
  induction r with
  | nil => intro j _ _; trivial
  | cons x r ih =>
    intro j h1 h2
    exact ⟨by rw [h1 j (by omega) (by simp)]; exact h2.1, ih (j + 1) (fun i a b => h1 i (by omega) (by simp; omega)) h2.2⟩
theorem At62_app {I : Nat → Nat → Int32} : ∀ (p r : List Nat) (j : Nat), At62 I j (p ++ r) ↔ At62 I j p ∧ At62 I (j + p.length) r := by
  intro p
  induction p with
  | nil => intro r j; simp [At62]
  | cons x p ih =>
    intro r j
    simp only [List.cons_append, At62, ih, List.length_cons, and_assoc]
    rw [show j + 1 + p.length = j + (p.length + 1) by omega]
theorem At62_get {I : Nat → Nat → Int32} : ∀ {W : List Nat} {k : Nat}, At62 I k W → ∀ j, j < W.length → I 62 (k + j) = jN (W.getD j 0) := by
  intro W
  induction W with
  | nil => intro k _ j hj; simp at hj
  | cons x W ih =>
    intro k h j hj
    cases j with
    | zero => exact h.1
    | succ j =>
      have := ih h.2 j (by simpa using hj)
      rw [show k + (j + 1) = k + 1 + j by omega, this]
      simp
section TRM
variable {a0 a1 : Int32} {lW gW lP gP n : Nat}
def RS (a0 a1 : Int32) (lW gW lP gP n : Nat) (B : Nat × Int64 × Int64 × List Nat × List Nat) (I : Nat → Nat → Int32) (L : Nat → Nat → Int64) : Prop :=
  (I 60 0 = jN lW ∧ I 60 1 = jN gW ∧ I 60 2 = jN lP ∧ I 60 3 = jN gP) ∧ I 34 59 = jN n ∧ I 34 61 = a0 ∧ I 34 62 = a1 ∧ (B.2.2.1 = 0 → I 34 63 = 0) ∧ (¬ B.2.2.1 = 0 → ¬ I 34 63 = 0 ∧ I 34 63 = jN B.1 ∧ L 34 65 = B.2.1 ∧ L 34 66 = B.2.2.1 ∧ (∀ j, j < B.1 → I 63 j = jN (B.2.2.2.1.getD j 0)) ∧ ∀ j, j < B.1 → I 63 (3 + j) = jN (B.2.2.2.2.getD j 0))
theorem RS_ext {B : Nat × Int64 × Int64 × List Nat × List Nat} {I I' : Nat → Nat → Int32} {L : Nat → Nat → Int64} (h : RS a0 a1 lW gW lP gP n B I L) (e1 : ∀ j, I' 60 j = I 60 j) (e2 : ∀ j, I' 34 j = I 34 j) (e3 : ∀ j, I' 63 j = I 63 j) : RS a0 a1 lW gW lP gP n B I' L := by
  unfold RS at h ⊢
  simp only [e1, e2, e3]
  exact h
theorem wg_row (hn : n ≤ 3) {L : Nat → Nat → Int64} : ∀ (m j N : Nat) (I : Nat → Nat → Int32), j + m = 6 → m < N → I 34 59 = jN n → ∃ I', f_Md_weigh_L112 N (jN j) I L = some (I', L) ∧ (∀ a i, a ≠ 63 → I' a i = I a i) ∧ (∀ i, j ≤ i → i < 6 → i % 3 < n → I' 63 i = I 62 i) ∧ ∀ i, i < j → I' 63 i = I 63 i := by
  intro m
  induction m with
  | zero =>
    intro j N I h1 h2 _
    obtain ⟨N, rfl⟩ : ∃ k, N = k + 1 := ⟨N - 1, by omega⟩
    have : j = 6 := by omega
    subst this
    exact ⟨I, by rw [f_Md_weigh_L112, if_pos (by decide)], fun _ _ _ => rfl, fun i _ _ _ => by omega, fun _ _ => rfl⟩
  | succ m ih =>
    intro j N I h1 h2 h3
    obtain ⟨N, rfl⟩ : ∃ k, N = k + 1 := ⟨N - 1, by omega⟩
    have c1 : ¬ (6 : Int32) ≤ jN j := fun q => by have := (jN_le (a := 6) (by decide) (by omega)).mp q; omega
    have c2 : 0 ≤ jN j ∧ jN j < 6 := jN_in (n := 6) (by omega) (by decide)
    have c3 : irem (jN j) 3 = jN (j % 3) := by
      have : j = 0 ∨ j = 1 ∨ j = 2 ∨ j = 3 ∨ j = 4 ∨ j = 5 := by omega
      rcases this with rfl | rfl | rfl | rfl | rfl | rfl <;> decide
    have key : ∀ v, (j % 3 < n → v = I 62 j) → ∃ I', f_Md_weigh_L112 N (jN (j + 1)) (uI I 63 j v) L = some (I', L) ∧ (∀ a i, a ≠ 63 → I' a i = I a i) ∧ (∀ i, j ≤ i → i < 6 → i % 3 < n → I' 63 i = I 62 i) ∧ ∀ i, i < j → I' 63 i = I 63 i := by
      intro v hv
      obtain ⟨I', e, g1, g2, g3⟩ := ih (j + 1) N (uI I 63 j v) (by omega) (by omega) (by simp [uI, h3])
      refine ⟨I', e, fun a i ha => ?_, fun i q1 q2 q3 => ?_, fun i q => ?_⟩
      · rw [g1 a i ha]; simp [uI, ha]
      · by_cases ej : i = j
        · subst ej
          rw [g3 i (by omega)]
          simp [uI, hv q3]
        · rw [g2 i (by omega) q2 q3]
          simp [uI]
      · rw [g3 i (by omega)]
        have : i ≠ j := by omega
        simp [uI, this]
    rw [f_Md_weigh_L112, if_neg c1, h3, c3, jN_tc (by omega), jN_1]
    by_cases d : jN n ≤ jN (j % 3)
    · rw [if_pos d, if_pos c2]
      have := (jN_le (by omega) (by omega)).mp d
      exact key 0 (fun q => by omega)
    · rw [if_neg d, if_pos c2]
      simp only [bnd]
      rw [if_pos c2]
      exact key _ (fun _ => rfl)
theorem wg_go {I : Nat → Nat → Int32} {L : Nat → Nat → Int64} (hn : n ≤ 3) (h0 : I 34 59 = jN n) : ∀ (W P : List Nat) (j N : Nat) (a b : Int64), W.length = P.length → j + W.length = n → W.length < N → At62 I j W → At62 I (3 + j) P → f_Md_weigh_L7 N a b (jN j) I L = (bnd (Jabs ((prL W a * (Int32.toInt64 (I 34 62))) - (prL P b * (Int32.toInt64 (I 34 61))))) fun x2 => (if (I 34 63) = (0 : Int32) then (f_Md_weigh_L90 (prL P b) x2 I L) else (if ((L 34 65) * prL P b) ≤ (x2 * (L 34 66)) then (some (I, L)) else (f_Md_weigh_L90 (prL P b) x2 I L)))) := by
  intro W
  induction W with
  | nil =>
    intro P j N a b h1 h2 h3 _ _
    obtain ⟨N, rfl⟩ : ∃ k, N = k + 1 := ⟨N - 1, by simp at h3; omega⟩
    cases P with
    | cons x P => simp at h1
    | nil =>
      have : j = n := by simpa using h2
      subst this
      rw [f_Md_weigh_L7, h0, if_pos (Int32.le_refl _)]
      rfl
  | cons x W ih =>
    intro P j N a b h1 h2 h3 h4 h5
    cases P with
    | nil => simp at h1
    | cons y P =>
      simp only [List.length_cons] at h1 h2 h3
      obtain ⟨N, rfl⟩ : ∃ k, N = k + 1 := ⟨N - 1, by omega⟩
      have c1 : ¬ jN n ≤ jN j := fun q => by have := (jN_le (by omega) (by omega)).mp q; omega
      have c2 : 0 ≤ jN j ∧ jN j < 6 := jN_in (n := 6) (by omega) (by decide)
      have e3 : (3 : Int32) + jN j = jN (3 + j) := jN_add 3 j
      have c3 : 0 ≤ jN (3 + j) ∧ jN (3 + j) < 6 := jN_in (n := 6) (by omega) (by decide)
      rw [f_Md_weigh_L7, h0, if_neg c1, if_pos c2, e3, jN_tc (by omega), h4.1, jN_1]
      simp only [bnd]
      rw [if_pos c3, jN_tc (by omega), h5.1]
      have := ih P (j + 1) N (a * (jN x).toInt64) (b * (jN y).toInt64) (by omega) (by omega) (by omega) h4.2 h5.2
      simp only [bnd] at this
      rw [this]
      rfl
theorem weigh_ok {ab be : Int64} (e0 : a0.toInt64 = ab) (e1 : a1.toInt64 = be) (hn : 1 ≤ n ∧ n ≤ 3) {W P : List Nat} (hW : W.length = n) (hPo : rOK n P) {B : Nat × Int64 × Int64 × List Nat × List Nat} {I : Nat → Nat → Int32} {L : Nat → Nat → Int64} (h : RS a0 a1 lW gW lP gP n B I L) (h1 : At62 I 0 W) (h2 : At62 I 3 P) : ∃ I' L', f_Md_weigh I L = some (I', L') ∧ RS a0 a1 lW gW lP gP n (bup ab be W P B) I' L' ∧ ∀ i, I' 62 i = I 62 i := by
  have hP := hPo.1
  obtain ⟨q1, q2, q3, q4, q5, q6⟩ := id h
  have hl : f_Md_weigh I L = _ := wg_go (L := L) hn.2 q2 W P 0 xF 1 1 (by omega) (by omega) (xF_lt (by omega)) h1 h2
  rw [hl, q3, q4, e0, e1]
  simp only [bnd]
  have upd : ∃ I' L', f_Md_weigh_L90 (prL P 1) (Jabs (prL W 1 * be - prL P 1 * ab)) I L = some (I', L') ∧ RS a0 a1 lW gW lP gP n (W.length, Jabs (prL W 1 * be - prL P 1 * ab), prL P 1, W, P) I' L' ∧ ∀ i, I' 62 i = I 62 i := by
    obtain ⟨I', e, g1, g2, g3⟩ := wg_row (L := uL (uL L 34 65 (Jabs (prL W 1 * be - prL P 1 * ab))) 34 66 (prL P 1)) hn.2 6 0 xF (uI I 34 63 (jN n)) (by omega) (xF_lt (by omega)) (by simp [uI, q2])
    refine ⟨I', _, by rw [f_Md_weigh_L90, q2]; exact e, ?_, fun i => by rw [g1 62 i (by decide)]; simp [uI]⟩
    have z : jN n ≠ 0 := fun q => by have := (jN_inj (b := 0) (by omega) (by decide)).mp q; omega
    have f60 : ∀ i, I' 60 i = I 60 i := fun i => by rw [g1 60 i (by decide)]; simp [uI]
    have f34 : ∀ i, I' 34 i = if i = 63 then jN n else I 34 i := fun i => by rw [g1 34 i (by decide)]; simp [uI]
    refine ⟨by simp only [f60]; exact q1, by rw [f34]; simpa using q2, by rw [f34]; simpa using q3, by rw [f34]; simpa using q4, fun p => ?_, fun _ => ⟨by rw [f34]; simpa using z, by rw [f34]; simp [hW], by simp [uL], by simp [uL], fun j hj => ?_, fun j hj => ?_⟩⟩
    · obtain ⟨t, t1, t2, _⟩ := prL_ok hn.2 hPo
      have p : prL P 1 = 0 := p
      rw [p, lg_0] at t1
      omega
    · have hj : j < W.length := hj
      rw [g2 j (by omega) (by omega) (by omega)]
      have := At62_get h1 j hj
      rw [Nat.zero_add] at this
      simp [uI, this]
    · have hj : j < W.length := hj
      rw [g2 (3 + j) (by omega) (by omega) (by omega)]
      have := At62_get h2 j (by omega)
      simp [uI, this]
  by_cases z : B.2.2.1 = 0
  · rw [if_pos (q5 z)]
    have : bup ab be W P B = (W.length, Jabs (prL W 1 * be - prL P 1 * ab), prL P 1, W, P) := by unfold bup; rw [if_pos z]
    rw [this]
    exact upd
  · obtain ⟨p1, p2, p3, p4, p5⟩ := q6 z
    rw [if_neg p1, p3, p4]
    by_cases y : B.2.1 * prL P 1 ≤ Jabs (prL W 1 * be - prL P 1 * ab) * B.2.2.1
    · rw [if_pos y]
      have : bup ab be W P B = B := by unfold bup; rw [if_neg z, if_pos y]
      rw [this]
      exact ⟨I, L, rfl, h, fun _ => rfl⟩
    · rw [if_neg y]
      have : bup ab be W P B = (W.length, Jabs (prL W 1 * be - prL P 1 * ab), prL P 1, W, P) := by unfold bup; rw [if_neg z, if_neg y]
      rw [this]
      exact upd
theorem irem3 {at' : Nat} (h : at' < 6) : irem (jN at') 3 = jN (at' % 3) := by
  have : at' = 0 ∨ at' = 1 ∨ at' = 2 ∨ at' = 3 ∨ at' = 4 ∨ at' = 5 := by omega
  rcases this with rfl | rfl | rfl | rfl | rfl | rfl <;> decide
def lowOf (lo : Nat) (p : List Nat) : Nat := p.getLastD lo
section TF
variable {Z : (Nat → Nat → Int32) → (Nat → Nat → Int64) → (Nat × Int64 × Int64 × List Nat × List Nat) → Prop} {G : List Nat → (Nat × Int64 × Int64 × List Nat × List Nat) → Nat × Int64 × Int64 × List Nat × List Nat}
theorem tf_loop {fl lo hi j k : Nat} {p : List Nat} {krec : Int32 → (Nat → Nat → Int32) → (Nat → Nat → Int64) → Option ((Nat → Nat → Int32) × (Nat → Nat → Int64))} (hfl : fl = 0 ∨ fl = 1) (hhi : hi ≤ 200) (hpl : p.length < 3) (hZ : ∀ I L B i v, 3 * fl ≤ i → Z I L B → Z (uI I 62 i v) L B) (hlim : ∀ I L B, Z I L B → I 60 (2 * fl + 1) = jN hi)
    (hk : ∀ v, lo ≤ v → v ≤ hi → ∀ I L B, At62 I (3 * fl) (p ++ [v]) → Z I L B → ∃ I' L', krec (jN (k + 1)) I L = some (I', L') ∧ At62 I' (3 * fl) (p ++ [v]) ∧ Z I' L' ((rwL hi j (hi + 1 - v)).foldl (fun B r => G (p ++ v :: r) B) B)) :
    ∀ (m v N : Nat) (B : Nat × Int64 × Int64 × List Nat × List Nat) (I : Nat → Nat → Int32) (L : Nat → Nat → Int64), lo ≤ v → v + m = hi + 1 → m < N → At62 I (3 * fl) p → Z I L B → ∃ I' L', f_Md_tryFrom_L92 krec N (jN k) (jN fl) (jN (3 * fl + p.length)) (jN v) I L = some (I', L') ∧ At62 I' (3 * fl) p ∧ Z I' L' ((rwL hi (j + 1) m).foldl (fun B r => G (p ++ r) B) B) := by
  have red : ∀ (N v : Nat) (I : Nat → Nat → Int32) (L : Nat → Nat → Int64), I 60 (2 * fl + 1) = jN hi → v ≤ 1000 → f_Md_tryFrom_L92 krec (N + 1) (jN k) (jN fl) (jN (3 * fl + p.length)) (jN v) I L = if hi < v then some (I, L) else (krec (jN (k + 1)) (uI I 62 (3 * fl + p.length) (jN v)) L).bind fun q14 => f_Md_tryFrom_L92 krec N (jN k) (jN fl) (jN (3 * fl + p.length)) (jN (v + 1)) q14.1 q14.2 := by
    intro N v I L hI hv
    have c3 : 0 ≤ jN (3 * fl + p.length) ∧ jN (3 * fl + p.length) < 6 := jN_in (n := 6) (by omega) (by decide)
    have key : f_Md_tryFrom_L107 krec (f_Md_tryFrom_L92 krec N) (jN k) (jN fl) (jN (3 * fl + p.length)) (jN v) (jN v) (jN (2 * fl + 1)) I L = if hi < v then some (I, L) else (krec (jN (k + 1)) (uI I 62 (3 * fl + p.length) (jN v)) L).bind fun q14 => f_Md_tryFrom_L92 krec N (jN k) (jN fl) (jN (3 * fl + p.length)) (jN (v + 1)) q14.1 q14.2 := by
      have c4 : 0 ≤ jN (2 * fl + 1) ∧ jN (2 * fl + 1) < 4 := jN_in (n := 4) (by omega) (by decide)
      rw [f_Md_tryFrom_L107, if_pos c4, jN_tc (by omega), hI]
      by_cases c : hi < v
      · rw [if_pos c, if_pos ((jN_lt (by omega) (by omega)).mpr c)]
      · rw [if_neg c, if_neg (fun q => c ((jN_lt (by omega) (by omega)).mp q)), if_pos c3, jN_tc (by omega), jN_1, jN_1]
    rw [← key, f_Md_tryFrom_L92]
    rcases hfl with rfl | rfl
    · rw [if_pos (by decide)]; rfl
    · rw [if_neg (by decide)]; rfl
  intro m
  induction m with
  | zero =>
    intro v N B I L h1 h2 h3 h4 h5
    obtain ⟨N, rfl⟩ : ∃ k, N = k + 1 := ⟨N - 1, by omega⟩
    refine ⟨I, L, ?_, h4, ?_⟩
    · rw [red N v I L (hlim I L B h5) (by omega), if_pos (by omega)]
    · rw [rwL]; exact h5
  | succ m ih =>
    intro v N B I L h1 h2 h3 h4 h5
    obtain ⟨N, rfl⟩ : ∃ k, N = k + 1 := ⟨N - 1, by omega⟩
    rw [red N v I L (hlim I L B h5) (by omega), if_neg (by omega)]
    have g0 : At62 (uI I 62 (3 * fl + p.length) (jN v)) (3 * fl) (p ++ [v]) := by
      rw [At62_app]
      refine ⟨At62_ext p _ (fun i q1 q2 => ?_) h4, ?_, trivial⟩
      · have : i ≠ 3 * fl + p.length := by omega
        simp [uI, this]
      · simp [uI]
    obtain ⟨I1, L1, e1, g1, g2⟩ := hk v h1 (by omega) _ L B g0 (hZ I L B _ _ (by omega) h5)
    rw [e1, Option.bind_some]
    rw [At62_app] at g1
    obtain ⟨I2, L2, e2, g3, g4⟩ := ih (v + 1) N _ I1 L1 (by omega) (by omega) (by omega) g1.1 g2
    refine ⟨I2, L2, e2, g3, ?_⟩
    rw [rwL, List.foldl_append, List.foldl_map, show hi - m = v by omega]
    rw [show hi + 1 - v = m + 1 by omega] at g4
    exact g4
theorem tf_one {fl lo : Nat} {p : List Nat} (hfl : fl = 0 ∨ fl = 1) (hn : 1 ≤ n ∧ n ≤ 3) (hlo : lo ≤ 200) (hp : p.length < n) (hpo : ∀ x ∈ p, lo ≤ x ∧ x ≤ 200) (f : Nat) {I : Nat → Nat → Int32} {L : Nat → Nat → Int64} (h59 : I 34 59 = jN n) (hI : I 60 (2 * fl) = jN lo) (hA : At62 I (3 * fl) p) : f_Md_tryFrom (f + 1) (jN (fl * n + p.length)) I L = f_Md_tryFrom_L92 (f_Md_tryFrom f) xF (jN (fl * n + p.length)) (jN fl) (jN (3 * fl + p.length)) (jN (lowOf lo p)) I L := by
  have low : f_Md_tryFrom_L59 (f_Md_tryFrom f) (jN (fl * n + p.length)) (jN fl) (jN (3 * fl + p.length)) (jN (2 * fl)) I L = f_Md_tryFrom_L92 (f_Md_tryFrom f) xF (jN (fl * n + p.length)) (jN fl) (jN (3 * fl + p.length)) (jN (lowOf lo p)) I L := by
    have c4 : 0 ≤ jN (2 * fl) ∧ jN (2 * fl) < 4 := jN_in (n := 4) (by omega) (by decide)
    rw [f_Md_tryFrom_L59, if_pos c4, jN_tc (by omega), hI]
    simp only [bnd]
    rw [irem3 (by omega), show (3 * fl + p.length) % 3 = p.length by omega]
    rcases List.eq_nil_or_concat p with hp0 | ⟨q, x, hp0⟩
    · rw [if_pos]
      · rw [hp0]; rfl
      · rw [hp0]; exact Int32.le_refl _
    · have hlen : p.length = q.length + 1 := by rw [hp0]; simp
      rw [if_neg (fun c => by have := (jN_le (b := 0) (by omega) (by decide)).mp c; omega)]
      have e1 : jN (3 * fl + p.length) - 1 = jN (3 * fl + q.length) := by
        have := jN_sub (a := 3 * fl + p.length) (b := 1) (by omega)
        rw [show 3 * fl + q.length = 3 * fl + p.length - 1 by omega, ← this]; rfl
      have c6 : 0 ≤ jN (3 * fl + q.length) ∧ jN (3 * fl + q.length) < 6 := jN_in (n := 6) (by omega) (by decide)
      rw [e1, if_pos c6, jN_tc (by omega)]
      rw [hp0, List.concat_eq_append, At62_app] at hA
      have hx := hpo x (by rw [hp0]; simp)
      rw [hA.2.1]
      have : jmax (jN lo) (jN x) = jN (lowOf lo p) := by
        have e2 : lowOf lo p = x := by rw [hp0]; simp [lowOf]
        rw [e2]
        have := (jN_le (a := lo) (b := x) (by omega) (by omega)).mpr hx.1
        unfold jmax
        grind
      rw [this]
  rw [f_Md_tryFrom, h59]
  have e2 : (2 : Int32) * jN n = jN (2 * n) := jN_mul 2 n
  have c0 : ¬ jN (fl * n + p.length) = 2 * jN n := by
    rw [e2]
    intro q
    rcases hfl with rfl | rfl
    · have := (jN_inj (by omega) (by omega)).mp q; omega
    · have := (jN_inj (by omega) (by omega)).mp q; omega
  rw [if_neg c0]
  rcases hfl with rfl | rfl
  · rw [if_pos ((jN_lt (by omega) (by omega)).mpr (by omega)), f_Md_tryFrom_L28, if_pos rfl, f_Md_tryFrom_L45, if_pos rfl]
    simp only [Nat.zero_mul, Nat.zero_add, Nat.mul_zero] at low ⊢
    exact low
  · rw [if_neg (fun q => by have := (jN_lt (by omega) (by omega)).mp q; omega), f_Md_tryFrom_L28, if_neg (by decide), h59, f_Md_tryFrom_L45, if_neg (by decide)]
    have e3 : (3 : Int32) + jN (1 * n + p.length) - jN n = jN (3 * 1 + p.length) := by
      have := jN_add 3 (1 * n + p.length)
      rw [show (3 : Int32) = jN 3 from rfl, this, jN_sub (by omega), show 3 + (1 * n + p.length) - n = 3 * 1 + p.length by omega]
    rw [e3]
    exact low
theorem tf_rec {fl lo hi c : Nat} (hfl : fl = 0 ∨ fl = 1) (hn : 1 ≤ n ∧ n ≤ 3) (hlo : lo ≤ hi) (hhi : hi ≤ 200) (hZ : ∀ I L B i v, 3 * fl ≤ i → Z I L B → Z (uI I 62 i v) L B) (hlim : ∀ I L B, Z I L B → I 60 (2 * fl) = jN lo ∧ I 60 (2 * fl + 1) = jN hi ∧ I 34 59 = jN n)
    (hE : ∀ p, p.length = n → (∀ x ∈ p, lo ≤ x ∧ x ≤ hi) → ∀ I L B, At62 I (3 * fl) p → Z I L B → ∃ I' L', f_Md_tryFrom c (jN (fl * n + n)) I L = some (I', L') ∧ At62 I' (3 * fl) p ∧ Z I' L' (G p B)) :
    ∀ (j : Nat) (p : List Nat), p.length + j = n → (∀ x ∈ p, lo ≤ x ∧ x ≤ hi) → ∀ I L B, At62 I (3 * fl) p → Z I L B → ∃ I' L', f_Md_tryFrom (c + j) (jN (fl * n + p.length)) I L = some (I', L') ∧ At62 I' (3 * fl) p ∧ Z I' L' ((rwL hi j (hi + 1 - lowOf lo p)).foldl (fun B r => G (p ++ r) B) B) := by
  intro j
  induction j with
  | zero =>
    intro p hp hx I L B h1 h2
    rw [rwL]
    have := hE p (by omega) hx I L B h1 h2
    rw [Nat.add_zero, show p.length = n by omega]
    simpa using this
  | succ j ih =>
    intro p hp hx I L B h1 h2
    obtain ⟨z1, z2, z3⟩ := hlim I L B h2
    rw [show c + (j + 1) = c + j + 1 by omega, tf_one hfl hn (by omega) (by omega) (fun x h => ⟨(hx x h).1, by have := (hx x h).2; omega⟩) (c + j) z3 z1 h1]
    have hl : lo ≤ lowOf lo p ∧ lowOf lo p ≤ hi := by
      rcases List.eq_nil_or_concat p with hp0 | ⟨q, x, hp0⟩
      · rw [hp0]; exact ⟨Nat.le_refl _, hlo⟩
      · have e2 : lowOf lo p = x := by rw [hp0]; simp [lowOf]
        rw [e2]; exact hx x (by rw [hp0]; simp)
    refine tf_loop (k := fl * n + p.length) (j := j) (lo := lowOf lo p) hfl hhi (by omega) hZ (fun I L B h => (hlim I L B h).2.1) (fun v v1 v2 I L B g1 g2 => ?_) (hi + 1 - lowOf lo p) (lowOf lo p) xF B I L (Nat.le_refl _) (by omega) (xF_lt (by omega)) h1 h2
    have := ih (p ++ [v]) (by simp; omega) (fun x h => by
      simp only [List.mem_append, List.mem_singleton] at h
      rcases h with h | rfl
      · exact hx x h
      · omega) I L B g1 g2
    rw [List.length_append, show fl * n + (p.length + [v].length) = fl * n + p.length + 1 from rfl, show lowOf lo (p ++ [v]) = v by simp [lowOf]] at this
    simpa using this
end TF
end TRM

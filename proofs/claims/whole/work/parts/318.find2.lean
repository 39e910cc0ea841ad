/-! the class's search: wheels, stages -/
theorem xF_lt {m : Nat} (h : m < 1000000) : m < xF := by unfold xF; omega
theorem jI {x : Nat} (h : x ≤ 1000) : ((jN x).toInt64).toInt = x := by rw [Int32.toInt_toInt64, jN_toInt (by omega)]
theorem pr_step {a : Int64} {p x : Nat} (ha : a.toInt = p) (h1 : 1 ≤ p) (hp : p ≤ 40000) (hx : 1 ≤ x ∧ x ≤ 200) : (a * (jN x).toInt64).toInt = (p * x : Nat) ∧ 1 ≤ p * x ∧ p * x ≤ p * 200 := by
  have e := jI (x := x) (by omega)
  have b : p * x ≤ p * 200 := Nat.mul_le_mul_left _ hx.2
  have b1 : 1 ≤ p * x := Nat.mul_pos h1 hx.1
  refine ⟨?_, b1, b⟩
  have c : a.toInt * (jN x).toInt64.toInt = ((p * x : Nat) : Int) := by rw [ha, e]; push_cast; rfl
  rw [lg_mul (by rw [c]; omega) (by rw [c]; omega), c]
def rOK (n : Nat) (W : List Nat) : Prop := W.length = n ∧ ∀ x ∈ W, 1 ≤ x ∧ x ≤ 200
theorem prL_ok {n : Nat} {W : List Nat} (hn : n ≤ 3) (h : rOK n W) : ∃ p : Nat, (prL W 1).toInt = p ∧ 1 ≤ p ∧ p ≤ 8000000 := by
  obtain ⟨h1, h2⟩ := h
  have e1 : (1 : Int64).toInt = (1 : Nat) := by decide
  match W, h1, h2 with
  | [], _, _ => exact ⟨1, e1, by omega, by omega⟩
  | [a], _, h2 =>
    have := pr_step e1 (by omega) (by omega) (h2 a (by simp))
    exact ⟨_, this.1, this.2.1, by omega⟩
  | [a, b], _, h2 =>
    have g1 := pr_step e1 (by omega) (by omega) (h2 a (by simp))
    have g2 := pr_step g1.1 g1.2.1 (by omega) (h2 b (by simp))
    exact ⟨_, g2.1, g2.2.1, by omega⟩
  | [a, b, c], _, h2 =>
    have g1 := pr_step e1 (by omega) (by omega) (h2 a (by simp))
    have g2 := pr_step g1.1 g1.2.1 (by omega) (h2 b (by simp))
    have g3 := pr_step g2.1 g2.2.1 (by omega) (h2 c (by simp))
    exact ⟨_, g3.1, g3.2.1, by omega⟩
  | a :: b :: c :: d :: W, h1, _ => simp at h1; omega
def rat (ab : Int64) : Prop := ∃ a : Nat, ab.toInt = a ∧ 1 ≤ a ∧ a ≤ 100000
theorem rat_mul {p r : Int64} {q : Nat} (hp : p.toInt = q) (hq : q ≤ 8000000) (hr : rat r) : ∃ t : Nat, (p * r).toInt = t ∧ t ≤ 800000000000 ∧ (1 ≤ q → 1 ≤ t) := by
  obtain ⟨a, ha, h1, h2⟩ := hr
  have b : q * a ≤ 8000000 * 100000 := Nat.mul_le_mul hq h2
  have c : p.toInt * r.toInt = ((q * a : Nat) : Int) := by rw [hp, ha]; push_cast; rfl
  exact ⟨q * a, by rw [lg_mul (by rw [c]; omega) (by rw [c]; omega), c], by omega, fun h => Nat.mul_pos h h1⟩
theorem miss_ok {ab be : Int64} {n : Nat} {W P : List Nat} (hn : n ≤ 3) (hab : rat ab) (hbe : rat be) (hW : rOK n W) (hP : rOK n P) : 0 ≤ (Jabs (prL W 1 * be - prL P 1 * ab)).toInt ∧ (Jabs (prL W 1 * be - prL P 1 * ab)).toInt ≤ 800000000000 := by
  obtain ⟨p, e1, _, h1⟩ := prL_ok hn hW
  obtain ⟨q, e2, _, h2⟩ := prL_ok hn hP
  obtain ⟨s, f1, g1, _⟩ := rat_mul e1 h1 hbe
  obtain ⟨t, f2, g2, _⟩ := rat_mul e2 h2 hab
  have e : (prL W 1 * be - prL P 1 * ab).toInt = (s : Int) - t := by
    rw [lg_sub (by rw [f1, f2]; omega) (by rw [f1, f2]; omega), f1, f2]
  rw [lg_abs (by rw [e]; omega), e]
  omega
def gB (B : Nat × Int64 × Int64 × List Nat × List Nat) : Prop := (0 < B.2.2.1.toInt ∧ B.2.2.1.toInt ≤ 8000000) ∧ (0 ≤ B.2.1.toInt ∧ B.2.1.toInt ≤ 800000000000) ∧ 1 ≤ B.1 ∧ B.1 ≤ 3
def iB (B : Nat × Int64 × Int64 × List Nat × List Nat) : Prop := B.2.2.1 = 0 ∨ gB B
theorem gB_ne {B : Nat × Int64 × Int64 × List Nat × List Nat} (h : gB B) : ¬ B.2.2.1 = 0 := fun e => by
  have := h.1.1
  rw [e, lg_0] at this
  omega
section TRW
variable {ab be : Int64} {lW gW lP gP : Nat} {n : Nat}
theorem bup_g {W P : List Nat} {B : Nat × Int64 × Int64 × List Nat × List Nat} (hn : 1 ≤ n ∧ n ≤ 3) (hab : rat ab) (hbe : rat be) (hW : rOK n W) (hP : rOK n P) (h : iB B) : gB (bup ab be W P B) := by
  have key : gB (W.length, Jabs (prL W 1 * be - prL P 1 * ab), prL P 1, W, P) := by
    obtain ⟨q, e2, h1, h2⟩ := prL_ok hn.2 hP
    refine ⟨?_, miss_ok hn.2 hab hbe hW hP, ?_⟩
    · show 0 < (prL P 1).toInt ∧ (prL P 1).toInt ≤ 8000000
      rw [e2]; omega
    · show 1 ≤ W.length ∧ W.length ≤ 3
      rw [hW.1]; exact hn
  unfold bup
  split
  · exact key
  · rename_i z
    split
    · exact h.resolve_left z
    · exact key
theorem bup_fix {W P : List Nat} {B : Nat × Int64 × Int64 × List Nat × List Nat} (hn : n ≤ 3) (hab : rat ab) (hbe : rat be) (hW : rOK n W) (hP : rOK n P) (h : gB B) (h0 : B.2.1 = 0) : bup ab be W P B = B := by
  have z := gB_ne h
  unfold bup
  rw [if_neg z, if_pos]
  obtain ⟨m1, m2⟩ := miss_ok hn hab hbe hW hP
  rw [h0, lg_le]
  obtain ⟨s, hs⟩ : ∃ s : Nat, (Jabs (prL W 1 * be - prL P 1 * ab)).toInt = s := ⟨_, (Int.toNat_of_nonneg m1).symm⟩
  obtain ⟨t, ht⟩ : ∃ t : Nat, B.2.2.1.toInt = t := ⟨_, (Int.toNat_of_nonneg (Int.le_of_lt h.1.1)).symm⟩
  have hs2 : s ≤ 800000000000 := by omega
  have ht2 : t ≤ 8000000 := by have := h.1.2; omega
  have b : s * t ≤ 800000000000 * 8000000 := Nat.mul_le_mul hs2 ht2
  have c : (Jabs (prL W 1 * be - prL P 1 * ab)).toInt * B.2.2.1.toInt = ((s * t : Nat) : Int) := by rw [hs, ht]; push_cast; rfl
  have d : (Jabs (prL W 1 * be - prL P 1 * ab) * B.2.2.1).toInt = ((s * t : Nat) : Int) := by rw [lg_mul (by rw [c]; omega) (by rw [c]; omega), c]
  have : ((0 : Int64) * prL P 1).toInt = 0 := by rw [Int64.zero_mul]; exact lg_0
  rw [this, d]
  omega
theorem fP_g {W : List Nat} (hn : 1 ≤ n ∧ n ≤ 3) (hab : rat ab) (hbe : rat be) (hW : rOK n W) : ∀ (l : List (List Nat)) (B : Nat × Int64 × Int64 × List Nat × List Nat), (∀ P ∈ l, rOK n P) → gB B → gB (l.foldl (fun B P => bup ab be W P B) B) := by
  intro l
  induction l with
  | nil => intro B _ h; exact h
  | cons P l ih =>
    intro B h1 h2
    exact ih _ (fun P' h => h1 P' (by simp [h])) (bup_g hn hab hbe hW (h1 P (by simp)) (Or.inr h2))
theorem fP_i {W : List Nat} (hn : 1 ≤ n ∧ n ≤ 3) (hab : rat ab) (hbe : rat be) (hW : rOK n W) {l : List (List Nat)} {B : Nat × Int64 × Int64 × List Nat × List Nat} (h1 : ∀ P ∈ l, rOK n P) (h0 : l ≠ []) (h : iB B) : gB (l.foldl (fun B P => bup ab be W P B) B) := by
  cases l with
  | nil => exact absurd rfl h0
  | cons P l => exact fP_g hn hab hbe hW l _ (fun P' h => h1 P' (by simp [h])) (bup_g hn hab hbe hW (h1 P (by simp)) h)
theorem fP_fix {W : List Nat} (hn : n ≤ 3) (hab : rat ab) (hbe : rat be) (hW : rOK n W) {B : Nat × Int64 × Int64 × List Nat × List Nat} (h : gB B) (h0 : B.2.1 = 0) : ∀ (l : List (List Nat)), (∀ P ∈ l, rOK n P) → l.foldl (fun B P => bup ab be W P B) B = B := by
  intro l
  induction l with
  | nil => intro _; rfl
  | cons P l ih =>
    intro h1
    rw [List.foldl_cons, bup_fix hn hab hbe hW (h1 P (by simp)) h h0]
    exact ih (fun P' h => h1 P' (by simp [h]))
/-- all trains of n stages -/
def fW (ab be : Int64) (lw lp : List (List Nat)) (B : Nat × Int64 × Int64 × List Nat × List Nat) : Nat × Int64 × Int64 × List Nat × List Nat := lw.foldl (fun B W => lp.foldl (fun B P => bup ab be W P B) B) B
theorem fW_g (hn : 1 ≤ n ∧ n ≤ 3) (hab : rat ab) (hbe : rat be) {lp : List (List Nat)} (hp : ∀ P ∈ lp, rOK n P) : ∀ (l : List (List Nat)) (B : Nat × Int64 × Int64 × List Nat × List Nat), (∀ W ∈ l, rOK n W) → gB B → gB (fW ab be l lp B) := by
  intro l
  induction l with
  | nil => intro B _ h; exact h
  | cons W l ih =>
    intro B h1 h2
    exact ih _ (fun P' h => h1 P' (by simp [h])) (fP_g hn hab hbe (h1 W (by simp)) lp B hp h2)
theorem fW_i (hn : 1 ≤ n ∧ n ≤ 3) (hab : rat ab) (hbe : rat be) {lp l : List (List Nat)} (hp : ∀ P ∈ lp, rOK n P) (hp0 : lp ≠ []) {B : Nat × Int64 × Int64 × List Nat × List Nat} (h1 : ∀ W ∈ l, rOK n W) (h0 : l ≠ []) (h : iB B) : gB (fW ab be l lp B) := by
  cases l with
  | nil => exact absurd rfl h0
  | cons W l => exact fW_g hn hab hbe hp l _ (fun P' h => h1 P' (by simp [h])) (fP_i hn hab hbe (h1 W (by simp)) hp hp0 h)
theorem fW_fix (hn : n ≤ 3) (hab : rat ab) (hbe : rat be) {lp : List (List Nat)} (hp : ∀ P ∈ lp, rOK n P) {B : Nat × Int64 × Int64 × List Nat × List Nat} (h : gB B) (h0 : B.2.1 = 0) : ∀ (l : List (List Nat)), (∀ W ∈ l, rOK n W) → fW ab be l lp B = B := by
  intro l
  induction l with
  | nil => intro _; rfl
  | cons W l ih =>
    intro h1
    unfold fW at ih ⊢
    rw [List.foldl_cons, fP_fix hn hab hbe (h1 W (by simp)) h h0 lp hp]
    exact ih (fun P' h => h1 P' (by simp [h]))
theorem rows_c : ∀ m, m < 198 → (jN m * (jN m + 1)) / 2 = jN (m * (m + 1) / 2) ∧ (jN m * (jN m + 1) * (jN m + 2)) / 6 = jN (m * (m + 1) * (m + 2) / 6) ∧ ((jN m).toInt64 * ((jN m).toInt64 + 1)) / 2 = (jN (m * (m + 1) / 2)).toInt64 ∧ ((jN m).toInt64 * ((jN m).toInt64 + 1) * ((jN m).toInt64 + 2)) / 6 = (jN (m * (m + 1) * (m + 2) / 6)).toInt64 ∧ m * (m + 1) * (m + 2) / 6 < 2000000 ∧ m * (m + 1) / 2 < 2000000 := by decide +kernel
theorem n123 {n : Nat} (h : 1 ≤ n ∧ n ≤ 3) : n = 1 ∨ n = 2 ∨ n = 3 := by omega
theorem rwN_lt {n m : Nat} (hm : m < 198) : rwN n m < 2000000 := by
  have := rows_c m hm
  unfold rwN
  split
  · omega
  · split
    · exact this.2.2.2.2.2
    · exact this.2.2.2.2.1
theorem rowsC {n l g : Nat} (hn : 1 ≤ n ∧ n ≤ 3) (hl : 4 ≤ l) (hg : l ≤ g) (hh : g ≤ 200) : f_Tr_rowsOf (jN n) (jN l) (jN g) = jN (rwN n (g + 1 - l)) := by
  have e : jN g - jN l + 1 = jN (g + 1 - l) := by rw [jN_sub hg, jN_1, show g - l + 1 = g + 1 - l by omega]
  have h := rows_c (g + 1 - l) (by omega)
  simp only [f_Tr_rowsOf, bnd]
  rw [e]
  rcases n123 hn with rfl | rfl | rfl
  · rw [if_pos (by decide)]; rfl
  · rw [if_neg (by decide), if_pos (by decide), h.1]; rfl
  · rw [if_neg (by decide), if_neg (by decide), h.2.1]; rfl
theorem rowsM {n l g : Nat} (hn : 1 ≤ n ∧ n ≤ 3) (hl : 4 ≤ l) (hg : l ≤ g) (hh : g ≤ 200) : f_Md_rowsOf (jN g - jN l + 1).toInt64 (jN n) = (jN (rwN n (g + 1 - l))).toInt64 := by
  have e : jN g - jN l + 1 = jN (g + 1 - l) := by rw [jN_sub hg, jN_1, show g - l + 1 = g + 1 - l by omega]
  have h := rows_c (g + 1 - l) (by omega)
  unfold f_Md_rowsOf
  rw [e]
  rcases n123 hn with rfl | rfl | rfl
  · rw [if_pos (by decide)]; rfl
  · rw [if_neg (by decide), if_pos (by decide), h.2.2.1]; rfl
  · rw [if_neg (by decide), if_neg (by decide), h.2.2.2.1]; rfl
theorem rw_ok {l g : Nat} (hl : 4 ≤ l) (hg : l ≤ g) (hh : g ≤ 200) : ∀ r ∈ rwL g n (g + 1 - l), rOK n r := by
  intro r hr
  obtain ⟨h1, h2⟩ := rwL_mem n (g + 1 - l) (by omega) r hr
  exact ⟨h1, fun x hx => by have := h2 x hx; omega⟩
theorem rw_orb {l g : Nat} (hl : 4 ≤ l) (hg : l ≤ g) : Orb g (rwL g n (g + 1 - l)) ∧ ∃ s, rwL g n (g + 1 - l) = List.replicate n l :: s := by
  have := rwL_orb (hi := g) n (g - l) (by omega)
  rw [show g - l + 1 = g + 1 - l by omega, show g - (g - l) = l by omega] at this
  exact this
theorem tp_ok (hn : 1 ≤ n ∧ n ≤ 3) (hl : 4 ≤ lP) (hg : lP ≤ gP) (hh : gP ≤ 200) (big : rwN n (gP + 1 - lP) < 1000000) {W : List Nat} (hW : W.length = n) {B : Nat × Int64 × Int64 × List Nat × List Nat} {I : Nat → Nat → Int32} {L : Nat → Nat → Int64} (h0 : At20 I 0 W) (h : CS ab be lW gW lP gP B I L) : ∃ I' L', f_Tr_tryPinions (jN n) (prL W 1 * be) I L = some (I', L') ∧ At20 I' 0 W ∧ CS ab be lW gW lP gP ((rwL gP n (gP + 1 - lP)).foldl (fun B P => bup ab be W P B) B) I' L' := by
  obtain ⟨I1, e1, f1, g1⟩ := fill21 (I := I) (L := L) lP
  obtain ⟨o1, s, o2⟩ := rw_orb (n := n) hl hg
  have len := rwL_len (hi := gP) (m := gP + 1 - lP) (n123 hn)
  rw [f_Tr_tryPinions, h.1.2.2.1, h.1.2.2.2, rowsC hn hl hg hh]
  simp only [bnd]
  rw [e1, Option.bind_some]
  generalize rwN n (gP + 1 - lP) = T at len big ⊢
  refine pin_go (by omega) hn.2 hW big _ 0 xF B I1 L (by rw [len]; omega) (by rw [len]; exact xF_lt big) (fun r hr => ?_) (Or.inr ⟨o1, _, s, o2, g1 n hn.2⟩) (At20_ext W 0 (fun i _ _ => f1 20 i (by decide)) h0) (CS_ext h (fun j => f1 17 j (by decide)) (fun j => f1 18 j (by decide)) (fun j => f1 19 j (by decide)))
  have := rw_ok hl hg hh r hr
  exact ⟨this.1, fun x hx => by have := this.2 x hx; omega⟩
theorem isP_0 {I : Nat → Nat → Int32} {L : Nat → Nat → Int64} : f_Tr_isPerfect I L = 0 ↔ ¬ ((0 : Int64) < L 17 12 ∧ L 17 11 = 0) := by
  unfold f_Tr_isPerfect
  by_cases c : L 17 12 ≤ 0
  · rw [if_pos c]
    simp only [true_iff]
    intro q
    exact Int64.lt_irrefl (Int64.lt_of_lt_of_le q.1 c)
  · rw [if_neg c]
    have c' : (0 : Int64) < L 17 12 := Int64.not_le.mp c
    by_cases d : L 17 11 = 0
    · rw [if_pos d]
      simp [c', d]
    · rw [if_neg d]
      simp [d]
/-- the class stops: then the train is perfect -/
theorem perf {B : Nat × Int64 × Int64 × List Nat × List Nat} {I : Nat → Nat → Int32} {L : Nat → Nat → Int64} (h : CS ab be lW gW lP gP B I L) (hi : iB B) (hp : ¬ f_Tr_isPerfect I L = 0) : gB B ∧ B.2.1 = 0 := by
  have q : (0 : Int64) < L 17 12 ∧ L 17 11 = 0 := by
    by_cases c : (0 : Int64) < L 17 12 ∧ L 17 11 = 0
    · exact c
    · exact absurd (isP_0.mpr c) hp
  rw [h.2.2.2.1] at q
  have z : ¬ B.2.2.1 = 0 := fun e => by rw [e] at q; exact Int64.lt_irrefl q.1
  have := (h.2.2.2.2 z).1
  exact ⟨hi.resolve_left z, by rw [← this]; exact q.2⟩
theorem wh_go (hab : rat ab) (hbe : rat be) (hn : 1 ≤ n ∧ n ≤ 3) (hl : 4 ≤ lP) (hg : lP ≤ gP) (hh : gP ≤ 200) (hhW : gW ≤ 200) (big : rwN n (gP + 1 - lP) < 1000000) {tot : Nat} (ht : tot < 1000000) : ∀ (l : List (List Nat)) (i N : Nat) (B : Nat × Int64 × Int64 × List Nat × List Nat) (I : Nat → Nat → Int32) (L : Nat → Nat → Int64), i + l.length = tot → l.length < N → (∀ r ∈ l, rOK n r) → (l = [] ∨ (Orb gW l ∧ ∃ r l', l = r :: l' ∧ At20 I 0 r)) → iB B → CS ab be lW gW lP gP B I L → ∃ I' L', f_Tr_tryWheels_L26 N (jN n) (jN tot) (jN i) I L = some (I', L') ∧ CS ab be lW gW lP gP (fW ab be l (rwL gP n (gP + 1 - lP)) B) I' L' := by
  intro l
  induction l with
  | nil =>
    intro i N B I L h1 h2 h3 h4 h5 h6
    obtain ⟨N, rfl⟩ : ∃ k, N = k + 1 := ⟨N - 1, by simp at h2; omega⟩
    have : i = tot := by simpa using h1
    subst this
    exact ⟨I, L, by rw [f_Tr_tryWheels_L26, if_pos (Int32.le_refl _)], h6⟩
  | cons r l ih =>
    intro i N B I L h1 h2 h3 h4 h5 h6
    simp only [List.length_cons] at h1 h2
    obtain ⟨N, rfl⟩ : ∃ k, N = k + 1 := ⟨N - 1, by omega⟩
    obtain ⟨ho, r0, l0, he, hr⟩ := h4.resolve_left (by simp)
    cases he
    have hr1 := h3 r (by simp)
    have c1 : ¬ jN tot ≤ jN i := fun q => by have := (jN_le (by omega) (by omega)).mp q; omega
    rw [f_Tr_tryWheels_L26, if_neg c1]
    by_cases pf : f_Tr_isPerfect I L = 0
    · rw [if_pos pf]
      have hpr : f_Tr_productOf_20 (jN n) I L = some (prL r 1) := by
        rw [← hr1.1]; exact product20 (by have := hr1.1; omega) hr
      obtain ⟨I1, L1, e1, g1, g2⟩ := tp_ok hn hl hg hh big hr1.1 hr h6
      have hnx := nr20 (L := L1) (hi := gW) (by omega) (r := r) (by have := hr1.1; omega) (fun x hx => by have := hr1.2 x hx; omega) g1
      rw [hr1.1] at hnx
      obtain ⟨I2, e2, f2, k2⟩ := hnx
      rw [hpr, Option.bind_some, h6.2.2.1, e1, Option.bind_some]
      simp only []
      rw [g2.1.2.1, e2, Option.bind_some, jN_1]
      refine ih (i + 1) N _ I2 L1 (by omega) (by omega) (fun r' h => h3 r' (by simp [h])) ?_ (Or.inr (fP_i hn hab hbe hr1 (rw_ok hl hg hh) ?_ h5)) (CS_ext g2 (fun j => f2 17 j (by decide)) (fun j => f2 18 j (by decide)) (fun j => f2 19 j (by decide)))
      · cases l with
        | nil => exact Or.inl rfl
        | cons r' l =>
          simp only [Orb] at ho
          rw [ho.1] at k2
          exact Or.inr ⟨ho.2, r', l, rfl, k2⟩
      · obtain ⟨_, s, o2⟩ := rw_orb (n := n) hl hg
        rw [o2]
        simp
    · rw [if_neg pf]
      obtain ⟨p1, p2⟩ := perf h6 h5 pf
      refine ⟨I, L, rfl, ?_⟩
      rw [fW_fix hn.2 hab hbe (rw_ok hl hg hh) p1 p2 (r :: l) h3]
      exact h6
def gF (ab be : Int64) (lW gW lP gP n : Nat) (B : Nat × Int64 × Int64 × List Nat × List Nat) : Nat × Int64 × Int64 × List Nat × List Nat := fW ab be (rwL gW n (gW + 1 - lW)) (rwL gP n (gP + 1 - lP)) B
theorem tw_ok (hab : rat ab) (hbe : rat be) (hn : 1 ≤ n ∧ n ≤ 3) (hl : 4 ≤ lP) (hg : lP ≤ gP) (hh : gP ≤ 200) (hlW : 4 ≤ lW) (hgW : lW ≤ gW) (hhW : gW ≤ 200) (big : rwN n (gP + 1 - lP) < 1000000) (bigW : rwN n (gW + 1 - lW) < 1000000) {B : Nat × Int64 × Int64 × List Nat × List Nat} {I : Nat → Nat → Int32} {L : Nat → Nat → Int64} (hi : iB B) (h : CS ab be lW gW lP gP B I L) : ∃ I' L', f_Tr_tryWheels (jN n) I L = some (I', L') ∧ CS ab be lW gW lP gP (gF ab be lW gW lP gP n B) I' L' := by
  obtain ⟨I1, e1, f1, g1⟩ := fill20 (I := I) (L := L) lW
  obtain ⟨o1, s, o2⟩ := rw_orb (n := n) hlW hgW
  have len := rwL_len (hi := gW) (m := gW + 1 - lW) (n123 hn)
  rw [f_Tr_tryWheels, h.1.1, h.1.2.1, rowsC hn hlW hgW hhW]
  simp only [bnd]
  rw [e1, Option.bind_some]
  generalize rwN n (gW + 1 - lW) = T at len bigW ⊢
  exact wh_go hab hbe hn hl hg hh hhW big bigW _ 0 xF B I1 L (by rw [len]; omega) (by rw [len]; exact xF_lt bigW) (rw_ok hlW hgW hhW) (Or.inr ⟨o1, _, s, o2, g1 n hn.2⟩) hi (CS_ext h (fun j => f1 17 j (by decide)) (fun j => f1 18 j (by decide)) (fun j => f1 19 j (by decide)))
theorem gF_g (hab : rat ab) (hbe : rat be) (hn : 1 ≤ n ∧ n ≤ 3) (hl : 4 ≤ lP) (hg : lP ≤ gP) (hh : gP ≤ 200) (hlW : 4 ≤ lW) (hgW : lW ≤ gW) (hhW : gW ≤ 200) {B : Nat × Int64 × Int64 × List Nat × List Nat} (hi : iB B) : gB (gF ab be lW gW lP gP n B) := by
  refine fW_i hn hab hbe (rw_ok hl hg hh) ?_ (rw_ok hlW hgW hhW) ?_ hi
  · obtain ⟨_, s, o2⟩ := rw_orb (n := n) hl hg
    rw [o2]; simp
  · obtain ⟨_, s, o2⟩ := rw_orb (n := n) hlW hgW
    rw [o2]; simp
/-- j stages from k on -/
def fF (ab be : Int64) (lW gW lP gP : Nat) : Nat → Nat → (Nat × Int64 × Int64 × List Nat × List Nat) → Nat × Int64 × Int64 × List Nat × List Nat
  | 0, _, B => B
  | j + 1, k, B => fF ab be lW gW lP gP j (k + 1) (gF ab be lW gW lP gP k B)
theorem fF_g (hab : rat ab) (hbe : rat be) (hl : 4 ≤ lP) (hg : lP ≤ gP) (hh : gP ≤ 200) (hlW : 4 ≤ lW) (hgW : lW ≤ gW) (hhW : gW ≤ 200) : ∀ (j k : Nat) (B : Nat × Int64 × Int64 × List Nat × List Nat), 1 ≤ k → k + j ≤ 4 → gB B → gB (fF ab be lW gW lP gP j k B) := by
  intro j
  induction j with
  | zero => intro k B _ _ h; exact h
  | succ j ih => intro k B h1 h2 h; exact ih (k + 1) _ (by omega) (by omega) (gF_g hab hbe ⟨h1, by omega⟩ hl hg hh hlW hgW hhW (Or.inr h))
theorem fF_fix (hab : rat ab) (hbe : rat be) (hl : 4 ≤ lP) (hg : lP ≤ gP) (hh : gP ≤ 200) (hlW : 4 ≤ lW) (hgW : lW ≤ gW) (hhW : gW ≤ 200) {B : Nat × Int64 × Int64 × List Nat × List Nat} (h : gB B) (h0 : B.2.1 = 0) : ∀ (j k : Nat), 1 ≤ k → k + j ≤ 4 → fF ab be lW gW lP gP j k B = B := by
  intro j
  induction j with
  | zero => intro k _ _; rfl
  | succ j ih =>
    intro k h1 h2
    rw [fF, gF, fW_fix (n := k) (by omega) hab hbe (rw_ok hl hg hh) h h0 _ (rw_ok hlW hgW hhW)]
    exact ih (k + 1) (by omega) (by omega)
theorem fd_go (hab : rat ab) (hbe : rat be) (hl : 4 ≤ lP) (hg : lP ≤ gP) (hh : gP ≤ 200) (hlW : 4 ≤ lW) (hgW : lW ≤ gW) (hhW : gW ≤ 200) {most : Nat} (hm : most ≤ 3) (big : ∀ n, 1 ≤ n → n ≤ most → rwN n (gP + 1 - lP) < 1000000 ∧ rwN n (gW + 1 - lW) < 1000000) : ∀ (j k N : Nat) (B : Nat × Int64 × Int64 × List Nat × List Nat) (I : Nat → Nat → Int32) (L : Nat → Nat → Int64), 1 ≤ k → k + j = most + 1 → j < N → iB B → CS ab be lW gW lP gP B I L → ∃ I' L', f_Tr_find_L61 N (jN most) (jN k) I L = f_Tr_find_L86 I' L' ∧ CS ab be lW gW lP gP (fF ab be lW gW lP gP j k B) I' L' := by
  intro j
  induction j with
  | zero =>
    intro k N B I L h1 h2 h3 _ h4
    obtain ⟨N, rfl⟩ : ∃ k, N = k + 1 := ⟨N - 1, by omega⟩
    exact ⟨I, L, by rw [f_Tr_find_L61, if_pos ((jN_lt (by omega) (by omega)).mpr (by omega))], h4⟩
  | succ j ih =>
    intro k N B I L h1 h2 h3 hi h4
    obtain ⟨N, rfl⟩ : ∃ k, N = k + 1 := ⟨N - 1, by omega⟩
    have c : ¬ jN most < jN k := fun q => by have := (jN_lt (by omega) (by omega)).mp q; omega
    rw [f_Tr_find_L61, if_neg c]
    by_cases pf : f_Tr_isPerfect I L = 0
    · rw [if_pos pf]
      obtain ⟨b1, b2⟩ := big k h1 (by omega)
      obtain ⟨I1, L1, e1, g1⟩ := tw_ok hab hbe ⟨h1, by omega⟩ hl hg hh hlW hgW hhW b1 b2 hi h4
      rw [e1, Option.bind_some, jN_1]
      exact ih (k + 1) N _ I1 L1 (by omega) (by omega) (by omega) (Or.inr (gF_g hab hbe ⟨h1, by omega⟩ hl hg hh hlW hgW hhW hi)) g1
    · rw [if_neg pf]
      obtain ⟨p1, p2⟩ := perf h4 hi pf
      refine ⟨I, L, rfl, ?_⟩
      rw [fF_fix hab hbe hl hg hh hlW hgW hhW p1 p2 (j + 1) k h1 (by omega)]
      exact h4
end TRW

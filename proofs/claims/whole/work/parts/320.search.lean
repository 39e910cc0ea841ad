/-! search -/
theorem fr_I {u v : List Nat} {I I' : Nat → Nat → Int32} {L L' : Nat → Nat → Int64} (h : ∀ S, FR S u v I I' L L') (a j : Nat) (h1 : a ∉ u) (h2 : j < 100 → 1000 + 100 * a + j ∉ u) : I' a j = I a j := by
  refine (h (List.replicate (a + 1) (.inl 0))).1 a j (by simp) h1 h2 ?_
  unfold dynS
  simp
theorem fr_L {u v : List Nat} {I I' : Nat → Nat → Int32} {L L' : Nat → Nat → Int64} (h : ∀ S, FR S u v I I' L L') (a j : Nat) (h1 : a ∉ v) (h2 : j < 100 → 1000 + 100 * a + j ∉ v) : L' a j = L a j :=
  (h (List.replicate (a + 1) (.inl 0))).2 a j (by simp) h1 h2
section SRC
variable {a0 a1 : Int32} {ab be : Int64} {lW gW lP gP n : Nat}
theorem sm_pin (e0 : a0.toInt64 = ab) (e1 : a1.toInt64 = be) (hn : 1 ≤ n ∧ n ≤ 3) (hl : 4 ≤ lP) (hg : lP ≤ gP) (hh : gP ≤ 200) {c : Nat} {W : List Nat} (hW : W.length = n) {B : Nat × Int64 × Int64 × List Nat × List Nat} {I : Nat → Nat → Int32} {L : Nat → Nat → Int64} (h : RS a0 a1 lW gW lP gP n B I L) (h1 : At62 I 0 W) : ∃ I' L', f_Md_tryFrom (c + 1 + n) (jN n) I L = some (I', L') ∧ At62 I' 0 W ∧ RS a0 a1 lW gW lP gP n ((rwL gP n (gP + 1 - lP)).foldl (fun B P => bup ab be W P B) B) I' L' := by
  have key := tf_rec (Z := fun I L B => RS a0 a1 lW gW lP gP n B I L ∧ At62 I 0 W) (G := fun P B => bup ab be W P B) (fl := 1) (lo := lP) (hi := gP) (c := c + 1) (Or.inr rfl) hn hg hh
    (fun I L B i v hi hz => ⟨RS_ext hz.1 (fun j => by simp [uI]) (fun j => by simp [uI]) (fun j => by simp [uI]), At62_ext W 0 (fun k _ hk => by
      have : k ≠ i := by omega
      simp [uI, this]) hz.2⟩)
    (fun I L B hz => ⟨hz.1.1.2.2.1, hz.1.1.2.2.2, hz.1.2.1⟩)
    (fun p hp hx I L B g1 g2 => by
      obtain ⟨I', L', e, k1, k2⟩ := weigh_ok e0 e1 hn hW ⟨hp, fun x hx' => by have := hx x hx'; omega⟩ g2.1 g2.2 g1
      refine ⟨I', L', ?_, At62_ext p _ (fun i _ _ => k2 i) g1, k1, At62_ext W _ (fun i _ _ => k2 i) g2.2⟩
      have e2 : (2 : Int32) * jN n = jN (1 * n + n) := by
        have := jN_mul 2 n
        rw [show 1 * n + n = 2 * n by omega, ← this]; rfl
      rw [f_Md_tryFrom, g2.1.2.1, e2, if_pos rfl, e]
      rfl)
    n [] (by simp) (by simp) I L B trivial ⟨h, h1⟩
  obtain ⟨I', L', e, _, k1, k2⟩ := key
  refine ⟨I', L', ?_, k2, k1⟩
  rw [← e]
  simp
theorem sm_ok (e0 : a0.toInt64 = ab) (e1 : a1.toInt64 = be) (hn : 1 ≤ n ∧ n ≤ 3) (hl : 4 ≤ lP) (hg : lP ≤ gP) (hh : gP ≤ 200) (hgW : lW ≤ gW) (hhW : gW ≤ 200) {B : Nat × Int64 × Int64 × List Nat × List Nat} {I : Nat → Nat → Int32} {L : Nat → Nat → Int64} (h : RS a0 a1 lW gW lP gP n B I L) : ∃ I' L', f_Md_tryFrom 10 0 I L = some (I', L') ∧ RS a0 a1 lW gW lP gP n (gF ab be lW gW lP gP n B) I' L' := by
  obtain ⟨c, hc⟩ : ∃ c, 10 = c + 1 + n + n := ⟨9 - n - n, by omega⟩
  have key := tf_rec (Z := fun I L B => RS a0 a1 lW gW lP gP n B I L) (G := fun W B => (rwL gP n (gP + 1 - lP)).foldl (fun B P => bup ab be W P B) B) (fl := 0) (lo := lW) (hi := gW) (c := c + 1 + n) (Or.inl rfl) hn hgW hhW
    (fun I L B i v hi hz => RS_ext hz (fun j => by simp [uI]) (fun j => by simp [uI]) (fun j => by simp [uI]))
    (fun I L B hz => ⟨hz.1.1, hz.1.2.1, hz.2.1⟩)
    (fun p hp hx I L B g1 g2 => by
      have := sm_pin (c := c) e0 e1 hn hl hg hh hp g2 g1
      rw [Nat.zero_mul, Nat.zero_add]
      exact this)
    n [] (by simp) (by simp) I L B trivial h
  obtain ⟨I', L', e, _, k1⟩ := key
  refine ⟨I', L', ?_, k1⟩
  rw [← hc, Nat.zero_mul, Nat.zero_add] at e
  exact e
def sEnd (l2 : Int32) (I : Nat → Nat → Int32) (L : Nat → Nat → Int64) : Option (Int32 × (Nat → Nat → Int32) × (Nat → Nat → Int64)) := (bnd (I 34 63) fun x11 => ((f_Md_common (L 34 65) ((L 34 66) * (Int32.toInt64 l2))).bind fun q12 => (if ¬ q12 = (0 : Int64) then (bnd ((L 34 65) / q12) fun x15 => (if ¬ q12 = (0 : Int64) then (bnd (((L 34 66) * (Int32.toInt64 l2)) / q12) fun x17 => (some ((I 34 63), (uI (uC (uI I 34 54 x11) 63 (Int32.toNatClampNeg (0 : Int32)) 61 (Int32.toNatClampNeg (0 : Int32)) (Int32.toNatClampNeg (6 : Int32))) 34 58 (1 : Int32)), (uL (uL L 34 56 x15) 34 57 x17)))) else none)) else none)))
theorem sl_go (e0 : a0.toInt64 = ab) (e1 : a1.toInt64 = be) (hl : 4 ≤ lP) (hg : lP ≤ gP) (hh : gP ≤ 200) (hgW : lW ≤ gW) (hhW : gW ≤ 200) {most : Nat} (hm : most ≤ 3) : ∀ (j k N : Nat) (B : Nat × Int64 × Int64 × List Nat × List Nat) (I : Nat → Nat → Int32) (L : Nat → Nat → Int64), 1 ≤ k → k + j = most + 1 → j < N → RS a0 a1 lW gW lP gP k B I L → ∃ I' L', f_Md_search_L109 N a1 (jN most) I L = sEnd a1 I' L' ∧ RS a0 a1 lW gW lP gP (most + 1) (fF ab be lW gW lP gP j k B) I' L' := by
  intro j
  induction j with
  | zero =>
    intro k N B I L h1 h2 h3 h4
    obtain ⟨N, rfl⟩ : ∃ k, N = k + 1 := ⟨N - 1, by omega⟩
    have : k = most + 1 := by omega
    subst this
    exact ⟨I, L, by rw [f_Md_search_L109, h4.2.1, if_pos ((jN_lt (by omega) (by omega)).mpr (by omega))]; rfl, h4⟩
  | succ j ih =>
    intro k N B I L h1 h2 h3 h4
    obtain ⟨N, rfl⟩ : ∃ k, N = k + 1 := ⟨N - 1, by omega⟩
    have c : ¬ jN most < jN k := fun q => by have := (jN_lt (by omega) (by omega)).mp q; omega
    obtain ⟨I1, L1, e, g⟩ := sm_ok (n := k) e0 e1 ⟨h1, by omega⟩ hl hg hh hgW hhW h4
    rw [f_Md_search_L109, h4.2.1, if_neg c, e, Option.bind_some]
    simp only [bnd]
    refine ih (k + 1) N _ _ L1 (by omega) (by omega) (by omega) ?_
    obtain ⟨q1, q2, q3, q4, q5, q6⟩ := g
    refine ⟨?_, ?_, ?_, ?_, ?_, ?_⟩
    · simpa [uI] using q1
    · simp [uI, q2, jN_1]
    · simpa [uI] using q3
    · simpa [uI] using q4
    · simpa [uI] using q5
    · simpa [uI] using q6
end SRC
theorem rwN_mono : ∀ m, m < 198 → rwN 1 m ≤ rwN 2 m ∧ rwN 2 m ≤ rwN 3 m ∧ (m = 0 ∨ 1 ≤ rwN 1 m) := by decide +kernel
theorem rwN_le {n k m : Nat} (hn : 1 ≤ n) (hk : n ≤ k) (h3 : k ≤ 3) (hm : m < 198) : rwN n m ≤ rwN k m := by
  obtain ⟨h1, h2, _⟩ := rwN_mono m hm
  have : (n = 1 ∧ k = 1) ∨ (n = 1 ∧ k = 2) ∨ (n = 1 ∧ k = 3) ∨ (n = 2 ∧ k = 2) ∨ (n = 2 ∧ k = 3) ∨ (n = 3 ∧ k = 3) := by omega
  rcases this with ⟨rfl, rfl⟩ | ⟨rfl, rfl⟩ | ⟨rfl, rfl⟩ | ⟨rfl, rfl⟩ | ⟨rfl, rfl⟩ | ⟨rfl, rfl⟩ <;> omega
theorem rat_of {a : Int32} (h : 1 ≤ a ∧ a ≤ 100000) : rat a.toInt64 := by
  have h1 := Int32.le_iff_toInt_le.mp h.1
  have h2 := Int32.le_iff_toInt_le.mp h.2
  have e1 : (1 : Int32).toInt = 1 := by decide
  have e2 : (100000 : Int32).toInt = 100000 := by decide
  rw [e1] at h1
  rw [e2] at h2
  exact ⟨a.toInt.toNat, by rw [Int32.toInt_toInt64]; omega, by omega, by omega⟩
theorem jN_mul64 {a b : Nat} (ha : a < 2000000) (hb : b < 2000000) : ((jN a).toInt64 * (jN b).toInt64).toInt = (a * b : Nat) := by
  have e1 : (jN a).toInt64.toInt = a := by rw [Int32.toInt_toInt64, jN_toInt (by omega)]
  have e2 : (jN b).toInt64.toInt = b := by rw [Int32.toInt_toInt64, jN_toInt (by omega)]
  have c : (jN a).toInt64.toInt * (jN b).toInt64.toInt = ((a * b : Nat) : Int) := by rw [e1, e2]; push_cast; rfl
  have b : a * b ≤ 2000000 * 2000000 := Nat.mul_le_mul (by omega) (by omega)
  rw [lg_mul (by rw [c]; omega) (by rw [c]; omega), c]
theorem serr {ab be : Int64} {lW gW lP gP : Nat} {B : Nat × Int64 × Int64 × List Nat × List Nat} {I : Nat → Nat → Int32} {L : Nat → Nat → Int64} (hbe : rat be) (h : CS ab be lW gW lP gP B I L) (g : gB B) : ∃ d : Int64, ¬ d = 0 ∧ f_Md_common B.2.1 (B.2.2.1 * be) = some d ∧ f_Tr_find_L86 I L = some (jN B.1, I, uL (uL L 17 7 (B.2.1 / d)) 17 8 (B.2.2.1 * be / d)) := by
  obtain ⟨h1, h2, h3, h4, h5⟩ := h
  obtain ⟨h6, h7, _, _⟩ := h5 (gB_ne g)
  obtain ⟨t, ht⟩ : ∃ t : Nat, B.2.2.1.toInt = t := ⟨_, (Int.toNat_of_nonneg (Int.le_of_lt g.1.1)).symm⟩
  obtain ⟨s, f1, f2, f3⟩ := rat_mul ht (by have := g.1.2; omega) hbe
  have f4 := f3 (by have := g.1.1; omega)
  obtain ⟨d, d1, d2, d3⟩ := gcd_both (x := B.2.1) (y := B.2.2.1 * be) (by have := g.2.1.1; omega) (by rw [f1]; omega)
  have dpos : 0 < d.toInt := by
    rw [d1]
    have : 0 < Nat.gcd B.2.1.toInt.natAbs (B.2.2.1 * be).toInt.natAbs := Nat.gcd_pos_of_pos_right _ (by rw [f1]; omega)
    omega
  have dn : ¬ d ≤ 0 := fun q => by
    have := lg_le.mp q
    rw [lg_0] at this
    omega
  have d0 : ¬ d = 0 := fun q => by rw [q, lg_0] at dpos; omega
  refine ⟨d, d0, d2, ?_⟩
  rw [f_Tr_find_L86, f_Tr_setError, h4, h3, h6]
  simp only [bnd]
  rw [d3, Option.bind_some, if_neg dn, if_pos d0, f_Tr_setError_L36, if_neg dn, if_pos d0]
  simp only [bnd]
  rw [Option.bind_some]
  simp only []
  rw [h7]

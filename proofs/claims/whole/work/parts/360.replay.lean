/-! the book: its rows carried out, by the class and by the reference -/
abbrev bRow := Int32 × Int32 × Int32 × Int32
def stC (S : List xSh) (Rf : Nat → Nat → Option Nat) (q : bRow) (I : Nat → Nat → Int32) (L : Nat → Nat → Int64) : Option (Int32 × (Nat → Nat → Int32) × (Nat → Nat → Int64)) := if q.1 = 0 then f_H_takeSteps S Rf q.2.1 I L else if q.1 = 1 then f_Es_push q.2.1 I L else if q.1 = 2 then f_Es_windUp q.2.1 I L else if q.1 = 3 then f_H_pushButton S Rf q.2.1 q.2.2.1 I L else if q.1 = 4 then f_H_putRight S Rf q.2.1 q.2.2.1 q.2.2.2 I L else if q.1 = 5 then f_H_strikeNow S Rf q.2.1 I L else some (-1, I, L)
def stM (q : bRow) (J : Nat → Nat → Int32) (K : Nat → Nat → Int64) : Option (Int32 × (Nat → Nat → Int32) × (Nat → Nat → Int64)) := if q.1 = 0 then f_Md_run q.2.1 J K else if q.1 = 1 then f_Md_shock q.2.1 J K else if q.1 = 2 then f_Md_wind q.2.1 J K else if q.1 = 3 then f_Md_press q.2.1 q.2.2.1 J K else if q.1 = 4 then f_Md_correct q.2.1 q.2.2.1 q.2.2.2 J K else f_Md_trip q.2.1 J K
/-- a row may be carried out here -/
def OKI (S : List xSh) (A nc nw : Nat) (pc pw : Nat → Nat) (q : bRow) (I : Nat → Nat → Int32) (L : Nat → Nat → Int64) : Prop := (∃ m s, (m ≤ 20000 ∧ s + m ≤ 200000 ∧ I 1 11 = jN s) ∧ q = (0, jN m, 0, 0)) ∨ (∃ x, (-1000000 ≤ x ∧ x ≤ 1000000) ∧ q = (1, x, 0, 0)) ∨ (∃ m k, (m ≤ 100000 ∧ k < A ∧ I 1 5 = jN k ∧ ¬ L 4 k = 0) ∧ q = (2, jN m, 0, 0)) ∨ (∃ c b, (c < nc ∧ (b = 0 ∨ b = 1 ∨ b = 2) ∧ ¬ f_Cr_gives (pc c) b I L = 0) ∧ q = (3, jN c, b, 0)) ∨ (∃ w x v, (w < nw ∧ TK S (pw w) x v I L) ∧ q = (4, jN w, x, v)) ∨ ∃ w, (w < nw ∧ S[pw w]? = some (.inl 8)) ∧ q = (5, jN w, 0, 0)
section RPL
variable {S : List xSh} {Rf : Nat → Nat → Option Nat} {I J I1 : Nat → Nat → Int32} {L K L1 : Nat → Nat → Int64} {A T nc nw rr n s : Nat} {pc pw : Nat → Nat}
theorem cr_all {q : bRow} (h : MV S Rf A T nc nw pc pw rr n s I J L K) (hr : rr ≤ 2000) (hg : ¬ J 34 24 = 0) (hb : BKOK J) (ho : OKI S A nc nw pc pw q I L) : CR S Rf A T nc nw pc pw rr (stC S Rf q I L) (stM q J K) q.1 q.2.1 q.2.2.1 q.2.2.2 I J L K := by
  have s200 := h.1.1.2
  have n1 : ¬ (1 : Int32) = 0 := by decide
  have n2 : ¬ (2 : Int32) = 0 := by decide
  have n21 : ¬ (2 : Int32) = 1 := by decide
  have n3 : ¬ (3 : Int32) = 0 := by decide
  have n31 : ¬ (3 : Int32) = 1 := by decide
  have n32 : ¬ (3 : Int32) = 2 := by decide
  have n4 : ¬ (4 : Int32) = 0 := by decide
  have n41 : ¬ (4 : Int32) = 1 := by decide
  have n42 : ¬ (4 : Int32) = 2 := by decide
  have n43 : ¬ (4 : Int32) = 3 := by decide
  have n5 : ¬ (5 : Int32) = 0 := by decide
  have n51 : ¬ (5 : Int32) = 1 := by decide
  have n52 : ¬ (5 : Int32) = 2 := by decide
  have n53 : ¬ (5 : Int32) = 3 := by decide
  have n54 : ¬ (5 : Int32) = 4 := by decide
  rcases ho with ⟨m, s', ⟨h1, h2, h3⟩, rfl⟩ | ⟨x, hx, rfl⟩ | ⟨m, k, ⟨h1, h2, h3, h4⟩, rfl⟩ | ⟨c, b, ⟨h1, h2, h3⟩, rfl⟩ | ⟨w, x, v, ⟨h1, h2⟩, rfl⟩ | ⟨w, ⟨h1, h2⟩, rfl⟩
  · have e : s' = s := by
      have := h.1.2.2.1.1
      rw [h3] at this
      exact (jN_inj (by omega) (by omega)).mp this
    subst e
    simp only [stC, stM, if_true]
    exact cr_run h hr hg hb h1 h2
  · simp only [stC, stM, if_true, n1, if_false]
    exact cr_shock h hg hb hx
  · simp only [stC, stM, if_true, n2, n21, if_false]
    exact cr_wind h hg hb h1 h2 (by rw [← h.2.1.1.2.2.2.1]; exact h3) h4
  · simp only [stC, stM, if_true, n3, n31, n32, if_false]
    exact cr_press h hg hb h1 h2 h3
  · simp only [stC, stM, if_true, n4, n41, n42, n43, if_false]
    exact cr_correct h hg hb h1 h2
  · simp only [stC, stM, if_true, n5, n51, n52, n53, n54, if_false]
    exact cr_trip h hr hg hb h1 h2
theorem TK_tr {w rr' n' s' : Nat} {x v : Int32} (h : MV S Rf A T nc nw pc pw rr n s I J L K) (h1 : MV S Rf A T nc nw pc pw rr' n' s' I1 J L1 K) (hw : w < nw) (ht : TK S (pw w) x v I L) : TK S (pw w) x v I1 L1 := by
  obtain ⟨t1, t2⟩ := TK_J h hw ht
  have h8 := h1.2.2.2.2.2.2.2.1.2.2.1
  obtain ⟨⟨a, ha, i0, j0⟩, _, g3⟩ := h1.2.2.2.2.2.2.2.1.2.2.2 w hw
  rcases g3 with ⟨g, g3⟩ | ⟨g, g3⟩ | ⟨g, g3⟩
  · refine Or.inl ⟨g, ?_⟩
    rw [cs_di (L := L1) (by omega) g3] at t1
    exact Option.some.inj t1
  · refine Or.inr (Or.inl ⟨g, ?_, ?_⟩)
    · rw [cs_ca (p := pw w) (by omega) g3.1] at t1
      exact t1
    · rw [br_eq (w := w) (by omega) h1.2.2.1 ha g3.1 i0 j0 (by rw [h1.1.2.1.1, h1.1.2.1.2.1])]
      exact t2
  · refine Or.inr (Or.inr ⟨g, ?_⟩)
    rw [cs_st (p := pw w) (by omega) g3.1] at t1
    exact t1
theorem ok_tr {q : bRow} {rr' n' s' : Nat} (h : MV S Rf A T nc nw pc pw rr n s I J L K) (h1 : MV S Rf A T nc nw pc pw rr' n' s' I1 J L1 K) (ho : OKI S A nc nw pc pw q I L) : OKI S A nc nw pc pw q I1 L1 := by
  rcases ho with ⟨m, s'', ⟨g1, g2, g3⟩, rfl⟩ | ⟨x, hx, rfl⟩ | ⟨m, k, ⟨g1, g2, g3, g4⟩, rfl⟩ | ⟨c, b, ⟨g1, g2, g3⟩, rfl⟩ | ⟨w, x, v, ⟨g1, g2⟩, rfl⟩ | ⟨w, ⟨g1, g2⟩, rfl⟩
  · refine Or.inl ⟨m, s'', ⟨g1, g2, ?_⟩, rfl⟩
    rw [h1.1.2.2.1.1, ← h1.1.2.2.1.2, h.1.2.2.1.2, ← h.1.2.2.1.1]
    exact g3
  · exact Or.inr (Or.inl ⟨x, hx, rfl⟩)
  · refine Or.inr (Or.inr (Or.inl ⟨m, k, ⟨g1, g2, ?_, fun z => g4 ?_⟩, rfl⟩))
    · rw [h1.2.1.1.2.2.2.1, ← h.2.1.1.2.2.2.1]; exact g3
    · exact (sk_57 (h.2.2.1.2.1 k g2)).mp ((sk_57 (h1.2.2.1.2.1 k g2)).mpr z)
  · refine Or.inr (Or.inr (Or.inr (Or.inl ⟨c, b, ⟨g1, g2, ?_⟩, rfl⟩)))
    obtain ⟨r0, r1, _, r3, _⟩ := h.2.2.2.2.2.2.1.2.2.2 c g1
    obtain ⟨t0, t1, _, t3, _⟩ := h1.2.2.2.2.2.2.1.2.2.2 c g1
    unfold f_Cr_gives at g3 ⊢
    rw [r0, r1, r3] at g3
    rw [t0, t1, t3]
    exact g3
  · exact Or.inr (Or.inr (Or.inr (Or.inr (Or.inl ⟨w, x, v, ⟨g1, TK_tr h h1 g1 g2⟩, rfl⟩))))
  · exact Or.inr (Or.inr (Or.inr (Or.inr (Or.inr ⟨w, ⟨g1, g2⟩, rfl⟩))))
/-- the first rows, by the class -/
def RC (S : List xSh) (Rf : Nat → Nat → Option Nat) (bk : Nat → bRow) : Nat → (Nat → Nat → Int32) → (Nat → Nat → Int64) → Option ((Nat → Nat → Int32) × (Nat → Nat → Int64))
  | 0, I, L => some (I, L)
  | k + 1, I, L => (RC S Rf bk k I L).bind fun p => (stC S Rf (bk k) p.1 p.2).bind fun q => some (q.2.1, q.2.2)
/-- the first rows, by the reference -/
def RM (bk : Nat → bRow) : Nat → (Nat → Nat → Int32) → (Nat → Nat → Int64) → Option ((Nat → Nat → Int32) × (Nat → Nat → Int64))
  | 0, J, K => some (J, K)
  | k + 1, J, K => (RM bk k J K).bind fun p => (stM (bk k) p.1 p.2).bind fun q => some (q.2.1, q.2.2)
theorem RC_eq {bk bk' : Nat → bRow} : ∀ (k : Nat), (∀ i, i < k → bk' i = bk i) → ∀ (I : Nat → Nat → Int32) (L : Nat → Nat → Int64), RC S Rf bk' k I L = RC S Rf bk k I L := by
  intro k
  induction k with
  | zero => intro _ I L; rfl
  | succ k ih =>
    intro h I L
    rw [RC, RC, ih (fun i hi => h i (by omega)) I L, h k (by omega)]
theorem RM_eq {bk bk' : Nat → bRow} : ∀ (k : Nat), (∀ i, i < k → bk' i = bk i) → ∀ (I : Nat → Nat → Int32) (L : Nat → Nat → Int64), RM bk' k I L = RM bk k I L := by
  intro k
  induction k with
  | zero => intro _ I L; rfl
  | succ k ih =>
    intro h I L
    rw [RM, RM, ih (fun i hi => h i (by omega)) I L, h k (by omega)]
def LF (L L' : Nat → Nat → Int64) : Prop := ∀ a j, ¬ (a = 1 ∧ j = 7) → L' a j = L a j
def KF (K K' : Nat → Nat → Int64) : Prop := ∀ a j, ¬ (a = 34 ∧ j = 32) → K' a j = K a j
/-- the rows can be carried out again, from any beginning of this movement -/
def VAL (S : List xSh) (Rf : Nat → Nat → Option Nat) (A T nc nw : Nat) (pc pw : Nat → Nat) (bk : Nat → bRow) (r : Nat) (J : Nat → Nat → Int32) (K : Nat → Nat → Int64) : Prop := ∀ k, k ≤ r → ∀ J0 K0, STJ A nc nw J J0 K K0 → ¬ J0 34 43 = 0 → ∀ I0 L0, MV S Rf A T nc nw pc pw 0 0 0 I0 J0 L0 K0 → ∃ I1 L1 J1 K1 n s, RC S Rf bk k I0 L0 = some (I1, L1) ∧ RM bk k J0 K0 = some (J1, K1) ∧ MV S Rf A T nc nw pc pw k n s I1 J1 L1 K1 ∧ FI2 I0 I1 ∧ FJ2 J0 J1 ∧ LF L0 L1 ∧ KF K0 K1
/-- and that leads to here -/
def LNK (S : List xSh) (Rf : Nat → Nat → Option Nat) (A T nc nw : Nat) (pc pw : Nat → Nat) (bk : Nat → bRow) (r : Nat) (I J : Nat → Nat → Int32) (L K : Nat → Nat → Int64) : Prop := ∀ J0 K0, STJ A nc nw J J0 K K0 → ¬ J0 34 43 = 0 → ∃ J1 K1 n s, RM bk r J0 K0 = some (J1, K1) ∧ MV S Rf A T nc nw pc pw r n s I J1 L K1 ∧ FJ2 J0 J1
theorem j43 {J0 J1 : Nat → Nat → Int32} (f : FJ2 J0 J1) : J1 34 43 = J0 34 43 ∧ J1 34 24 = J0 34 24 := ⟨f 34 43 (by decide) (by decide) (by decide) (by decide) (by decide) (by decide) (by decide) (by simp), f 34 24 (by decide) (by decide) (by decide) (by decide) (by decide) (by decide) (by decide) (by simp)⟩
theorem val_step {bk : Nat → bRow} {r : Nat} {v : Int32} {I' : Nat → Nat → Int32} {L' : Nat → Nat → Int64} (hr : r < 2000) (hg : ¬ J 34 24 = 0) (hv : VAL S Rf A T nc nw pc pw bk r J K) (hl : LNK S Rf A T nc nw pc pw bk r I J L K) (ho : OKI S A nc nw pc pw (bk r) I L) (hs : stC S Rf (bk r) I L = some (v, I', L')) : VAL S Rf A T nc nw pc pw bk (r + 1) J K ∧ LNK S Rf A T nc nw pc pw bk (r + 1) I' J L' K := by
  have g0 : ∀ J0 K0, STJ A nc nw J J0 K K0 → ¬ J0 34 24 = 0 := fun J0 K0 h => by rw [h.1 34 24 (by simp)]; exact hg
  refine ⟨fun k hk J0 K0 h1 h2 I0 L0 h3 => ?_, fun J0 K0 h1 h2 => ?_⟩
  · by_cases e : k = r + 1
    · subst e
      obtain ⟨I1, L1, J1, K1, n1, s1, a1, a2, a3, a4, a5, a6, a7⟩ := hv r (Nat.le_refl _) J0 K0 h1 h2 I0 L0 h3
      obtain ⟨J2, K2, n2, s2, b1, b2, _⟩ := hl J0 K0 h1 h2
      rw [a2] at b1
      obtain ⟨rfl, rfl⟩ : J1 = J2 ∧ K1 = K2 := ⟨congrArg Prod.fst (Option.some.inj b1), congrArg Prod.snd (Option.some.inj b1)⟩
      obtain ⟨e43, e24⟩ := j43 a5
      have bk1 : BKOK J1 := fun z => absurd (e43.symm.trans z) h2
      obtain ⟨w, n', s', I2, J2, J3, L2, K2, c1, c2, c3, c4, c5, c6, c7, c8⟩ := cr_all a3 (by omega) (by rw [e24]; exact g0 J0 K0 h1) bk1 (ok_tr b2 a3 ho)
      obtain ⟨f43, _⟩ := j43 c6
      have e3 : J3 = J2 := c3.2.1 (by rw [f43, e43]; exact h2)
      subst e3
      refine ⟨I2, L2, J3, K2, n', s', ?_, ?_, c4, a4.tr c5, a5.tr c6, fun a j q => (c7 a j q).trans (a6 a j q), fun a j q => (c8 a j q).trans (a7 a j q)⟩
      · rw [RC, a1, Option.bind_some, c1, Option.bind_some]
      · rw [RM, a2, Option.bind_some, c2, Option.bind_some]
    · exact hv k (by omega) J0 K0 h1 h2 I0 L0 h3
  · obtain ⟨J1, K1, n1, s1, b1, b2, b3⟩ := hl J0 K0 h1 h2
    obtain ⟨e43, e24⟩ := j43 b3
    have bk1 : BKOK J1 := fun z => absurd (e43.symm.trans z) h2
    obtain ⟨w, n', s', I2, J2, J3, L2, K2, c1, c2, c3, c4, c5, c6, c7, c8⟩ := cr_all b2 (by omega) (by rw [e24]; exact g0 J0 K0 h1) bk1 ho
    obtain ⟨f43, _⟩ := j43 c6
    have e3 : J3 = J2 := c3.2.1 (by rw [f43, e43]; exact h2)
    subst e3
    rw [hs] at c1
    have e := Option.some.inj c1
    obtain ⟨rfl, rfl⟩ : I' = I2 ∧ L' = L2 := ⟨congrArg (fun q => q.2.1) e, congrArg (fun q => q.2.2) e⟩
    exact ⟨J3, K2, n', s', by rw [RM, b1, Option.bind_some, c2, Option.bind_some], c4, b3.tr c6⟩
/-- what the reference's beginnings are fixed by -/
def CFJ (A : Nat) (J J' : Nat → Nat → Int32) (K K' : Nat → Nat → Int64) : Prop := (∀ a j, (a = 34 ∧ (j = 9 ∨ j = 10 ∨ j = 11 ∨ j = 12 ∨ j = 13 ∨ j = 14 ∨ j = 16 ∨ j = 22 ∨ j = 24)) ∨ (41 ≤ a ∧ a ≤ 47) → J' a j = J a j) ∧ ∀ a, a < A → J' 57 a = J 57 a ∧ (¬ J 57 a = 0 → K' 58 a = K 58 a ∧ K' 59 a = K 59 a)
theorem CFJ.of {J' : Nat → Nat → Int32} {K' : Nat → Nat → Int64} (h1 : ∀ a j, (a = 34 ∧ (j = 9 ∨ j = 10 ∨ j = 11 ∨ j = 12 ∨ j = 13 ∨ j = 14 ∨ j = 16 ∨ j = 22 ∨ j = 24)) ∨ (41 ≤ a ∧ a ≤ 47) ∨ a = 57 → J' a j = J a j) (h2 : ∀ a j, a = 58 ∨ a = 59 → K' a j = K a j) : CFJ A J J' K K' := ⟨fun a j q => h1 a j (by omega), fun a _ => ⟨h1 57 a (by omega), fun _ => ⟨h2 58 a (by omega), h2 59 a (by omega)⟩⟩⟩
theorem stj_cf {J' J0 : Nat → Nat → Int32} {K' K0 : Nat → Nat → Int64} (c : CFJ A J J' K K') (h : STJ A nc nw J' J0 K' K0) : STJ A nc nw J J0 K K0 := by
  obtain ⟨h1, h2, h3, h4, h5, h6⟩ := h
  refine ⟨fun a j q => (h1 a j q).trans (c.1 a j q), h2, h3, fun a ha => ⟨(h4 a ha).1.trans (c.2 a ha).1, fun z => by
    obtain ⟨y1, y2⟩ := (c.2 a ha).2 z
    obtain ⟨y3, y4⟩ := (h4 a ha).2 (by rw [(c.2 a ha).1]; exact z)
    exact ⟨y3.trans y1, y4.trans y2⟩⟩, h5, fun w hw => wJ_ext (h6 w hw) (fun _ _ => rfl) (c.1 42 w (by simp)).symm (c.1 46 w (by simp)).symm⟩
theorem val_cf {bk bk' : Nat → bRow} {r r' : Nat} {J' : Nat → Nat → Int32} {K' : Nat → Nat → Int64} (h : VAL S Rf A T nc nw pc pw bk r J K) (c : CFJ A J J' K K') (hr : r' ≤ r) (e : ∀ i, i < r' → bk' i = bk i) : VAL S Rf A T nc nw pc pw bk' r' J' K' := by
  intro k hk J0 K0 h1 h2 I0 L0 h3
  obtain ⟨I1, L1, J1, K1, n, s, a1, a2, a3⟩ := h k (by omega) J0 K0 (stj_cf c h1) h2 I0 L0 h3
  exact ⟨I1, L1, J1, K1, n, s, by rw [RC_eq k (fun i hi => e i (by omega))]; exact a1, by rw [RM_eq k (fun i hi => e i (by omega))]; exact a2, a3⟩
theorem mv_mix {J0 J0' I0 : Nat → Nat → Int32} {K0 K0' L0 : Nat → Nat → Int64} (h : MV S Rf A T nc nw pc pw 0 0 0 I0 J0 L0 K0) (h1 : STJ A nc nw J J0 K K0) (h2 : STJ A nc nw J J0' K K0') (hj : jOK nw J) : MV S Rf A T nc nw pc pw 0 0 0 I0 J0' L0 K0' := by
  obtain ⟨g1, g2, g3, g4, g5, g6, g7, g8, g9, g10⟩ := h
  obtain ⟨i1, ⟨i2, i3, i4, i5, i6, i7, i8, i9⟩, i10', i11, i12, i13⟩ := h1
  obtain ⟨j1, ⟨j2, j3', j4, j5, j6, j7, j8, j9⟩, j10, j11, j12, j13⟩ := h2
  have cf : ∀ a j, (a = 34 ∧ (j = 9 ∨ j = 10 ∨ j = 11 ∨ j = 12 ∨ j = 13 ∨ j = 14 ∨ j = 16 ∨ j = 22 ∨ j = 24)) ∨ (41 ≤ a ∧ a ≤ 47) → J0' a j = J0 a j := fun a j q => (j1 a j q).trans (i1 a j q).symm
  obtain ⟨⟨a1, a2⟩, ⟨b1, b2, b3⟩, ⟨c1, c2⟩, ⟨d1, d2, d3⟩, ⟨e1, e2, e3⟩, ⟨f1, f2⟩, k1, k2, k3, k4⟩ := g1
  refine ⟨⟨⟨a1, a2⟩, ⟨b1, by rw [j2]; rfl, b3⟩, ⟨c1, by rw [j3']; rfl⟩, ⟨by rw [j4, d1, i4], d2, d3⟩, ⟨by rw [j5, e1, i5], e2, e3⟩, ⟨by rw [j6, f1, i6], f2⟩, by rw [j7, k1, i7], by rw [j8, k2, i8], k3, fun j hj => by omega⟩, ?_, ?_, ?_, ?_, g6, ?_, ?_, ?_, g10⟩
  · obtain ⟨⟨w1, w2, w3, w4, w5⟩, w6⟩ := g2
    exact ⟨⟨w1, w2, by rw [j2]; rfl, by rw [cf 34 14 (by simp)]; exact w4, by rw [w5, i10', j10]⟩, w6⟩
  · obtain ⟨⟨s1, s2, s3, s4, s5⟩, s6, s7⟩ := g3
    refine ⟨⟨s1, s2, s3, s4, by rw [cf 34 9 (by simp)]; exact s5⟩, fun a ha => ?_, s7⟩
    have := s6 a ha
    unfold sk at this ⊢
    obtain ⟨y1, y2⟩ := i11 a ha
    obtain ⟨y3, y4⟩ := j11 a ha
    rw [y3, ← y1]
    rcases this with z | z
    · exact Or.inl z
    · have z1 : ¬ J 57 a = 0 := by rw [← y1, z.1]; decide
      obtain ⟨y5, y6⟩ := y2 z1
      obtain ⟨y7, y8⟩ := y4 z1
      rw [y7, y8, ← y5, ← y6]
      exact Or.inr z
  · exact CB_ext g4 (fun _ _ _ => rfl) (fun j q1 q2 => cf 34 j (by omega))
  · intro j hj
    rw [cf 41 j (by simp)]; exact g5 j hj
  · refine ⟨g7.1, by rw [cf 34 22 (by simp)]; exact g7.2.1, g7.2.2.1, fun c hc => ?_⟩
    obtain ⟨p1, p2, p3, p4⟩ := i12 c hc
    obtain ⟨q1, q2, q3, q4⟩ := j12 c hc
    have := g7.2.2.2 c hc
    unfold ckr at this ⊢
    rw [cf 47 c (by simp), q1, q2, q3, q4]
    rw [p1, p2, p3, p4] at this
    exact this
  · refine ⟨g8.1, by rw [cf 34 16 (by simp)]; exact g8.2.1, g8.2.2.1, fun w hw => ?_⟩
    obtain ⟨p1, p2, p3, p4, p5, p6⟩ := i13 w hw
    obtain ⟨q1, q2, q3, q4, q5, q6⟩ := j13 w hw
    have c42 := cf 42 w (by simp)
    have c43 := cf 43 w (by simp)
    have c44 := cf 44 w (by simp)
    have c45 := cf 45 w (by simp)
    have c46 := cf 46 w (by simp)
    have j42 := i1 42 w (by simp)
    obtain ⟨x0, x1, x2⟩ := g8.2.2.2 w hw
    refine ⟨by rw [c43]; exact x0, by rw [q2, ← p2]; exact x1, ?_⟩
    rcases x2 with ⟨z, x2⟩ | ⟨z, x2⟩ | ⟨z, x2⟩
    · refine Or.inl ⟨z, ?_⟩
      have y : J 42 w = 0 := by rw [← j42]; exact x2.1
      unfold wDi at x2 ⊢
      have e : J0' 48 (10 * w) = J0 48 (10 * w) := by rw [q4 y, p4 y]
      rw [c42, c45, e]
      exact x2
    · refine Or.inr (Or.inl ⟨z, ?_⟩)
      have y : J 42 w = 1 := by rw [← j42]; exact x2.1
      obtain ⟨d, m, yy, hD⟩ : ∃ d m y, DAY (J 46 w) d m y := by
        rcases hj w hw with h | h | h
        · rw [y] at h; exact absurd h (by decide)
        · exact h.2
        · rw [y] at h; exact absurd h (by decide)
      obtain ⟨t1, t2, t3⟩ := p5 y
      obtain ⟨u1, u2, u3⟩ := q5 y
      obtain ⟨t4, t5, t6⟩ := t2 _ _ _ hD
      obtain ⟨u4, u5, u6⟩ := u2 _ _ _ hD
      unfold wCa at x2 ⊢
      rw [c42, c44, c46, u1, u3, u4, u5, u6, q1, q3]
      rw [t1, t3, t4, t5, t6, p1, p3] at x2
      exact x2
    · refine Or.inr (Or.inr ⟨z, ?_⟩)
      have y : J 42 w = 2 := by rw [← j42]; exact x2.1
      obtain ⟨t1, t2, t3⟩ := p6 y
      obtain ⟨u1, u2, u3⟩ := q6 y
      unfold wSt at x2 ⊢
      rw [c42, c44, u1, u2, u3]
      rw [t1, t2, t3] at x2
      exact x2
  · obtain ⟨k, z1, z2, z3, z4, z5, _⟩ := g9
    have : k = 0 := by omega
    subst this
    exact ⟨0, by omega, z2, by rw [j9]; rfl, z4, z5, fun j hj => by omega⟩
end RPL

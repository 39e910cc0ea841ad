/-! the invariant of the whole -/
/-- the movement but its speeds -/
def COR (S : List xSh) (Rf : Nat → Nat → Option Nat) (A nc nw : Nat) (pc pw : Nat → Nat) (r n s : Nat) (I J : Nat → Nat → Int32) (L K : Nat → Nat → Int64) : Prop := DY n s I J ∧ WND I J L K A n ∧ CB I J ∧ (∀ j, j < 9 → I 8 j = J 41 j) ∧ OBJ S Rf nc nw pc pw ∧ CK nc pc I J ∧ WK S Rf A nw pw I J ∧ STK (8 * n + r) I J ∧ OB2 nc nw pc pw
/-- arbors, links, speeds -/
def GRS (A A0 T nl : Nat) (I J : Nat → Nat → Int32) (L : Nat → Nat → Int64) : Prop := GH (uI I 2 0 (jN A0)) J A0 A nl ∧ I 2 0 = jN A ∧ SPC (uI I 2 0 (jN A0)) L ∧ (T ≤ 60 ∧ I 2 3 = jN T ∧ J 34 9 = jN T) ∧ (1 ≤ T ∨ (I 2 2 = -1 ∧ ∀ a, a < 24 → L 4 a = 0)) ∧ (∀ a, a < 24 → L 5 a = (L 4 a * 2) * (jN T).toInt64) ∧ (I 2 4 = 0 ∨ I 2 4 = 1)
/-- the cells, and those that works and chronographs are made of -/
def SHP (_ : Nat) (S : List xSh) (Rf : Nat → Nat → Option Nat) : Prop := S = xSl ∧ (∀ i, i < 8 → Rf 75 i = some (78 + 3 * i) ∧ Rf 76 i = some (79 + 3 * i) ∧ Rf 77 i = some (80 + 3 * i)) ∧ ∀ c, c < 4 → Rf 12 c = some (102 + c)
theorem xSl_dyn : ∀ a, a < 75 → ¬ (xSl[a]? = some (.inl 1) ∨ xSl[a]? = some (.inl 3) ∨ xSl[a]? = some (.inl 4) ∨ xSl[a]? = some (.inl 8)) := by decide +kernel
theorem xSl_wk : ∀ i, i < 8 → xSl[78 + 3 * i]? = some (.inl 4) ∧ xSl[79 + 3 * i]? = some (.inl 1) ∧ xSl[80 + 3 * i]? = some (.inl 8) := by decide +kernel
theorem xSl_ck : ∀ i, i < 4 → xSl[102 + i]? = some (.inl 3) := by decide +kernel
theorem SHP_len {k : Nat} {S : List xSh} {Rf : Nat → Nat → Option Nat} (h : SHP k S Rf) : S.length = 106 := by rw [h.1]; rfl
theorem SHP_dyn {k : Nat} {S : List xSh} {Rf : Nat → Nat → Option Nat} (h : SHP k S Rf) : ∀ a, a < 75 → ¬ dynS S a := by rw [h.1]; exact xSl_dyn
/-- the movement of the class (I, L) and that of the reference (J, K) -/
def MOV (k : Nat) (S : List xSh) (Rf : Nat → Nat → Option Nat) (I J : Nat → Nat → Int32) (L K : Nat → Nat → Int64) : Prop := SHP k S Rf ∧ (∀ j, J 56 j = 0) ∧ (I 0 8 = J 34 24 ∧ (I 0 8 = 0 ∨ I 0 8 = 1)) ∧ ∃ (A A0 T nl nc nw : Nat) (pc pw : Nat → Nat) (r n s : Nat), GRS A A0 T nl I J L ∧ COR S Rf A nc nw pc pw r n s I J L K ∧ BOK r I J ∧ (I 0 8 = 0 → r = 0 ∧ STI S nc nw pc pw I I L L ∧ STJ A nc nw J J K K) ∧ (I 0 8 = 1 → SPR I J L K A T ∧ VAL S Rf A T nc nw pc pw (bkI I) r J K ∧ LNK S Rf A T nc nw pc pw (bkI I) r I J L K)
def HOU (I : Nat → Nat → Int32) (L : Nat → Nat → Int64) : Prop := ivR I ∧ ivB I ∧ ivC I ∧ ivT I L
def INV (k : Nat) (S : List xSh) (Rf : Nat → Nat → Option Nat) (I : Nat → Nat → Int32) (L : Nat → Nat → Int64) : Prop := HOU I L ∧ MOV k S Rf I I L L
section IVX
variable {S : List xSh} {Rf : Nat → Nat → Option Nat} {I J I' J' : Nat → Nat → Int32} {L K L' K' : Nat → Nat → Int64} {A A0 T nl nc nw k r n s : Nat} {pc pw : Nat → Nat}
theorem cor_mv : COR S Rf A nc nw pc pw r n s I J L K ∧ SPR I J L K A T ↔ MV S Rf A T nc nw pc pw r n s I J L K := by
  unfold COR MV
  constructor
  · rintro ⟨⟨h1, h2, h3, h4, h5, h6, h7, h8, h9⟩, h10⟩
    exact ⟨h1, h2, h10, h3, h4, h5, h6, h7, h8, h9⟩
  · rintro ⟨h1, h2, h10, h3, h4, h5, h6, h7, h8, h9⟩
    exact ⟨⟨h1, h2, h3, h4, h5, h6, h7, h8, h9⟩, h10⟩
theorem GH_ext (h : GH I J A0 A nl) (e1 : ∀ j, j < 3 → I' 2 j = I 2 j) (e2 : ∀ a j, a = 6 ∨ a = 7 → I' a j = I a j) (e3 : ∀ j, j = 0 ∨ j = 1 ∨ j = 8 → J' 34 j = J 34 j) (e4 : ∀ a j, 35 ≤ a → a ≤ 40 → J' a j = J a j) : GH I' J' A0 A nl := by
  obtain ⟨h1, h2, h3⟩ := h
  refine ⟨?_, fun l hl => ?_, ?_⟩
  · rw [e1 0 (by decide), e1 1 (by decide), e3 0 (by simp), e3 1 (by simp)]; exact h1
  · have := LK_ext (h2 l hl) e4
    unfold LK at this ⊢
    simp only [e2 6 _ (Or.inl rfl), e2 7 _ (Or.inr rfl)]
    exact this
  · rw [e1 2 (by decide), e3 8 (by simp)]; exact h3
theorem SPC_ext (h : SPC I L) (e1 : ∀ j, j < 5 → I' 2 j = I 2 j) (e2 : ∀ a j, a = 6 ∨ a = 7 → I' a j = I a j) (e3 : ∀ a j, a = 3 ∨ a = 4 → L' a j = L a j) : SPC I' L' := by
  intro J K A0 A nl hG
  obtain ⟨J', K', K'', h1, h2, h3⟩ := h J K A0 A nl (GH_ext hG (fun j hj => (e1 j (by omega)).symm) (fun a j q => (e2 a j q).symm) (fun _ _ => rfl) (fun _ _ _ _ => rfl))
  exact ⟨J', K', K'', h1, by rw [e1 4 (by decide)]; exact h2, fun a ha => sk_ext (e3 3 a (by simp)) (e3 4 a (by simp)) (h3 a ha)⟩
theorem GRS_ext (h : GRS A A0 T nl I J L) (e1 : ∀ a j, a = 2 ∨ a = 6 ∨ a = 7 → I' a j = I a j) (e3 : ∀ j, j = 0 ∨ j = 1 ∨ j = 8 ∨ j = 9 → J' 34 j = J 34 j) (e4 : ∀ a j, 35 ≤ a → a ≤ 40 → J' a j = J a j) (e5 : ∀ a j, a = 3 ∨ a = 4 ∨ a = 5 → L' a j = L a j) : GRS A A0 T nl I' J' L' := by
  obtain ⟨h1, h2, h3, h4, h5, h6, h7⟩ := h
  have u2 : ∀ j, (uI I' 2 0 (jN A0)) 2 j = (uI I 2 0 (jN A0)) 2 j := fun j => by
    simp only [uI]; rw [e1 2 j (by simp)]
  have u6 : ∀ a j, a = 6 ∨ a = 7 → (uI I' 2 0 (jN A0)) a j = (uI I 2 0 (jN A0)) a j := fun a j q => by
    rw [uI_o (by omega), uI_o (by omega)]; exact e1 a j (by omega)
  refine ⟨GH_ext h1 (fun j _ => u2 j) u6 (fun j q => e3 j (by omega)) e4, by rw [e1 2 0 (by simp)]; exact h2, SPC_ext h3 (fun j _ => u2 j) u6 (fun a j q => e5 a j (by omega)), ⟨h4.1, by rw [e1 2 3 (by simp)]; exact h4.2.1, by rw [e3 9 (by simp)]; exact h4.2.2⟩, ?_, fun a ha => by rw [e5 5 a (by simp), e5 4 a (by simp)]; exact h6 a ha, by rw [e1 2 4 (by simp)]; exact h7⟩
  rcases h5 with q | q
  · exact Or.inl q
  · exact Or.inr ⟨by rw [e1 2 2 (by simp)]; exact q.1, fun a ha => by rw [e5 4 a (by simp)]; exact q.2 a ha⟩
theorem COR_ext (h : COR S Rf A nc nw pc pw r n s I J L K) (e1 : ∀ a j, (a = 0 ∧ j < 8) ∨ a = 1 ∨ (8 ≤ a ∧ a < 15) ∨ (75 ≤ a ∧ a < 1000) → I' a j = I a j) (e2 : ∀ a j, (a = 34 ∧ 10 ≤ j ∧ j ≤ 40 ∧ j ≠ 24) ∨ (41 ≤ a ∧ a ≤ 54) → J' a j = J a j) (e3 : ∀ a j, (a = 1 ∧ j = 7) ∨ a = 3 ∨ a = 4 ∨ a = 5 → L' a j = L a j) (e4 : K' 34 32 = K 34 32) : COR S Rf A nc nw pc pw r n s I' J' L' K' := by
  obtain ⟨h1, h2, h4, h5, h6, h7, h8, h9, h10⟩ := h
  refine ⟨?_, ?_, ?_, ?_, h6, ?_, ?_, ?_, h10⟩
  · exact DY_ext h1 (fun j => e1 1 j (by omega)) (fun j => e1 9 j (by omega)) (fun j => e1 10 j (by omega)) (fun j _ _ => e2 34 j (by omega)) (fun j => e2 53 j (by omega))
  · obtain ⟨⟨w1, w2, w3, w4, w5⟩, w6⟩ := h2
    refine ⟨⟨w1, by rw [e1 1 12 (by omega)]; exact w2, by rw [e2 34 25 (by omega)]; exact w3, by rw [e1 1 5 (by omega), e2 34 14 (by omega)]; exact w4, by rw [e3 1 7 (by omega), e4]; exact w5⟩, ?_⟩
    have f3 : ∀ j, L' 3 j = L 3 j := fun j => e3 3 j (by omega)
    have f4 : ∀ j, L' 4 j = L 4 j := fun j => e3 4 j (by omega)
    have f5 : ∀ j, L' 5 j = L 5 j := fun j => e3 5 j (by omega)
    unfold tv at w6 ⊢
    simp only [e1 1 5 (by omega), e3 1 7 (by omega), f3, f4, f5]
    exact w6
  · exact CB_ext h4 (fun j _ _ => e1 1 j (by omega)) (fun j _ _ => e2 34 j (by omega))
  · intro j hj
    rw [e1 8 j (by omega), e2 41 j (by omega)]; exact h5 j hj
  · exact CK_ext h7 (e1 0 7 (by omega)) (fun c hc j => e1 _ j (by have := (h6.1 c hc).2.2; have := h10.1 c hc; omega)) (e2 34 22 (by omega)) (fun a i q => e2 a i (by omega))
  · exact ⟨by rw [e1 0 6 (by omega)]; exact h8.1, by rw [e2 34 16 (by omega)]; exact h8.2.1, h8.2.2.1, fun w hw => WR_ext (h8.2.2.2 w hw) (fun j => e1 _ j (by have := (h6.2.1 w hw).2.1; have := h10.2 w hw; omega)) (fun i _ => e2 48 _ (by omega)) (fun a q1 q2 => e2 a w (by omega))⟩
  · exact STK_ext h9 (e1 13 3 (by omega)) (e1 13 0 (by omega)) (e1 13 1 (by omega)) (e2 34 40 (by omega)) (fun j => e1 14 j (by omega)) (fun j => e2 54 j (by omega))
theorem SPR_x (h : SPR I J L K A T) (e1 : I' 2 3 = I 2 3) (e2 : J' 34 9 = J 34 9) (e3 : ∀ i, J' 57 i = J 57 i) (e4 : ∀ a j, a = 3 ∨ a = 4 ∨ a = 5 → L' a j = L a j) (e5 : ∀ a j, a = 58 ∨ a = 59 → K' a j = K a j) : SPR I' J' L' K' A T := by
  obtain ⟨⟨h1, h2, h3, h4, h5⟩, h6, h7⟩ := h
  have f3 : ∀ j, L' 3 j = L 3 j := fun j => e4 3 j (by omega)
  have f4 : ∀ j, L' 4 j = L 4 j := fun j => e4 4 j (by omega)
  have f5 : ∀ j, L' 5 j = L 5 j := fun j => e4 5 j (by omega)
  have f58 : ∀ j, K' 58 j = K 58 j := fun j => e5 58 j (by omega)
  have f59 : ∀ j, K' 59 j = K 59 j := fun j => e5 59 j (by omega)
  unfold SPR sk
  unfold sk at h6
  simp only [e1, e2, e3, f3, f4, f5, f58, f59]
  exact ⟨⟨h1, h2, h3, h4, h5⟩, h6, h7⟩
theorem BOK_ext (h : BOK r I J) (e1 : ∀ a j, a = 15 ∨ a = 16 → I' a j = I a j) (e2 : ∀ j, j = 42 ∨ j = 43 → J' 34 j = J 34 j) (e3 : ∀ j, J' 55 j = J 55 j) : BOK r I' J' := by
  have f15 : ∀ j, I' 15 j = I 15 j := fun j => e1 15 j (by omega)
  have f16 : ∀ j, I' 16 j = I 16 j := fun j => e1 16 j (by omega)
  unfold BOK
  rw [f15, f15, f15, e2 42 (by omega), e2 43 (by omega)]
  simp only [f16, e3]
  exact h
theorem STI_ext (ho : OBJ S Rf nc nw pc pw) (hb : OB2 nc nw pc pw) (h : STI S nc nw pc pw I I L L) (e1 : ∀ a j, a < 15 → I' a j = I a j) (e1' : ∀ a j, 75 ≤ a ∧ a < 1000 → I' a j = I a j) (e2 : ∀ a j, a < 6 → L' a j = L a j) : STI S nc nw pc pw I' I' L' L' := by
  obtain ⟨h1, h2, h3, h4, h5, h6⟩ := h
  refine ⟨fun _ _ _ => rfl, ?_, by rw [e2 1 7 (by omega)]; exact h3, fun _ _ _ => rfl, fun c hc => ?_, fun w hw => ?_⟩
  · rw [e1 1 8 (by omega), e1 1 9 (by omega), e1 1 10 (by omega), e1 1 11 (by omega), e1 1 12 (by omega), e1 1 13 (by omega), e1 1 14 (by omega), e1 9 3 (by omega), e1 13 3 (by omega)]
    exact h2
  · have p := (⟨(ho.1 c hc).2.2, (hb.1 c hc).1⟩ : 75 ≤ pc c ∧ pc c < 1000)
    have := h5 c hc
    unfold cS at this ⊢
    simp only [e1' _ _ p]
    simpa using this
  · have p := (⟨(ho.2.1 w hw).2.1, (hb.2 w hw).1⟩ : 75 ≤ pw w ∧ pw w < 1000)
    have := h6 w hw
    unfold wS at this ⊢
    simp only [e1' _ _ p]
    simpa using this
theorem STJ_ext (h : STJ A nc nw J J K K) (e1 : ∀ j, 25 ≤ j → j ≤ 40 → J' 34 j = J 34 j) (e2 : ∀ a j, a = 42 ∨ a = 46 ∨ (48 ≤ a ∧ a ≤ 52) → J' a j = J a j) (e4 : K' 34 32 = K 34 32) : STJ A nc nw J' J' K' K' := by
  obtain ⟨h1, h2, h3, h4, h5, h6⟩ := h
  refine ⟨fun _ _ _ => rfl, ?_, by rw [e4]; exact h3, fun _ _ => ⟨rfl, fun _ => ⟨rfl, rfl⟩⟩, fun c hc => ?_, fun w hw => wJ_ext (h6 w hw) (fun i _ => e2 48 _ (by omega)) (e2 42 w (by omega)) (e2 46 w (by omega))⟩
  · rw [e1 25 (by omega) (by omega), e1 26 (by omega) (by omega), e1 27 (by omega) (by omega), e1 28 (by omega) (by omega), e1 29 (by omega) (by omega), e1 30 (by omega) (by omega), e1 31 (by omega) (by omega), e1 40 (by omega) (by omega)]
    exact h2
  · have := h5 c hc
    unfold cJ at this ⊢
    rw [e2 49 c (by omega), e2 50 c (by omega), e2 51 c (by omega), e2 52 c (by omega)]
    exact this
theorem bk_ext (e : ∀ j, I' 16 j = I 16 j) : bkI I' = bkI I := by funext k; simp only [bkI, e]
theorem LNK_ext {bk : Nat → bRow} (h : LNK S Rf A T nc nw pc pw bk r I J L K) (e1 : ∀ a j, a < 15 ∨ (75 ≤ a ∧ a < 1000) → I' a j = I a j) (e2 : CFJ A J J' K K') (e3 : ∀ a j, a < 6 → L' a j = L a j) : LNK S Rf A T nc nw pc pw bk r I' J' L' K' := by
  intro J0 K0 h1 h2
  obtain ⟨J1, K1, n, s, q1, q2, q3⟩ := h J0 K0 (stj_cf e2 h1) h2
  exact ⟨J1, K1, n, s, q1, MV_J q2 e1 (fun _ _ _ => rfl) e3 (fun _ _ _ => rfl), q3⟩
theorem SHP_mono {k' : Nat} (h : SHP k S Rf) (_ : k ≤ k') : SHP k' S Rf := h
/-- the movement hangs on its own places alone -/
theorem MOV_ext {k' : Nat} (h : MOV k S Rf I J L K) (hk : k ≤ k') (eI : ∀ a j, a < 17 ∨ (75 ≤ a ∧ a < 1000) → I' a j = I a j) (eJ : ∀ a j, (35 ≤ a ∧ a ≤ 57) ∨ (a = 34 ∧ j ≤ 47) → J' a j = J a j) (eL : ∀ a j, a < 17 → L' a j = L a j) (eK : ∀ a j, (a = 34 ∧ j = 32) ∨ a = 58 ∨ a = 59 → K' a j = K a j) : MOV k' S Rf I' J' L' K' := by
  obtain ⟨h1, h2, h3, A, A0, T, nl, nc, nw, pc, pw, r, n, s, g1, g2, g3, g4, g5⟩ := h
  have e08 : I' 0 8 = I 0 8 := eI 0 8 (by omega)
  have cf : CFJ A J J' K K' := CFJ.of (fun a j q => eJ a j (by omega)) (fun a j q => eK a j (by omega))
  refine ⟨SHP_mono h1 hk, fun j => by rw [eJ 56 j (by omega)]; exact h2 j, by rw [e08, eJ 34 24 (by omega)]; exact h3, A, A0, T, nl, nc, nw, pc, pw, r, n, s, GRS_ext g1 (fun a j q => eI a j (by omega)) (fun j q => eJ 34 j (by omega)) (fun a j q1 q2 => eJ a j (by omega)) (fun a j q => eL a j (by omega)), COR_ext g2 (fun a j q => eI a j (by omega)) (fun a j q => eJ a j (by omega)) (fun a j q => eL a j (by omega)) (eK 34 32 (by simp)), BOK_ext g3 (fun a j q => eI a j (by omega)) (fun j q => eJ 34 j (by omega)) (fun j => eJ 55 j (by omega)), fun q => ?_, fun q => ?_⟩
  · rw [e08] at q
    obtain ⟨q1, q2, q3⟩ := g4 q
    exact ⟨q1, STI_ext g2.2.2.2.2.1 g2.2.2.2.2.2.2.2.2 q2 (fun a j q => eI a j (by omega)) (fun a j q => eI a j (by omega)) (fun a j q => eL a j (by omega)), STJ_ext q3 (fun j q1 q2 => eJ 34 j (by omega)) (fun a j q => eJ a j (by omega)) (eK 34 32 (by simp))⟩
  · rw [e08] at q
    obtain ⟨q1, q2, q3⟩ := g5 q
    rw [bk_ext (fun j => eI 16 j (by omega))]
    exact ⟨SPR_x q1 (eI 2 3 (by omega)) (eJ 34 9 (by omega)) (fun i => eJ 57 i (by omega)) (fun a j q => eL a j (by omega)) (fun a j q => eK a j (by omega)), val_cf q2 cf (Nat.le_refl _) (fun _ _ => rfl), LNK_ext q3 (fun a j q => eI a j (by omega)) cf (fun a j q => eL a j (by omega))⟩
theorem HOU_ext (h : HOU I L) (e1 : ∀ a j, (17 ≤ a ∧ a < 34) ∨ (60 ≤ a ∧ a < 75) ∨ (a = 34 ∧ 48 ≤ j) → I' a j = I a j) (e2 : ∀ a j, a = 17 ∨ (a = 34 ∧ 53 ≤ j) → L' a j = L a j) : HOU I' L' := by
  obtain ⟨h1, h2, h3, h4⟩ := h
  have f : ∀ a, (17 ≤ a ∧ a < 34) ∨ (60 ≤ a ∧ a < 75) → ∀ j, I' a j = I a j := fun a q j => e1 a j (by omega)
  refine ⟨?_, ?_, ?_, ?_⟩
  · unfold ivR at h1 ⊢
    simp only [f 28 (by decide), f 70 (by decide)]
    exact h1
  · unfold ivB at h2 ⊢
    simp only [f 29 (by decide), f 30 (by decide), f 31 (by decide), f 32 (by decide), f 33 (by decide), f 71 (by decide), f 72 (by decide), f 73 (by decide), f 74 (by decide), e1 34 75 (by omega)]
    exact h2
  · unfold ivC at h3 ⊢
    simp only [f 22 (by decide), f 23 (by decide), f 24 (by decide), f 25 (by decide), f 26 (by decide), f 64 (by decide), f 65 (by decide), f 66 (by decide), f 67 (by decide), e1 34 67 (by omega)]
    exact h3
  · unfold ivT at h4 ⊢
    simp only [f 17 (by decide), f 18 (by decide), f 19 (by decide), f 60 (by decide), f 61 (by decide), e1 34 54 (by omega), e1 34 58 (by omega), e2 17 7 (by omega), e2 17 8 (by omega), e2 34 56 (by omega), e2 34 57 (by omega)]
    exact h4
/-- what an act of the movement leaves: the class's, the reference's -/
def FRh (I I' : Nat → Nat → Int32) (L L' : Nat → Nat → Int64) : Prop := (∀ a j, 17 ≤ a → a < 75 → I' a j = I a j) ∧ ∀ a j, 17 ≤ a → a < 75 → L' a j = L a j
def FRm (J J' : Nat → Nat → Int32) (K K' : Nat → Nat → Int64) : Prop := (∀ a j, a < 34 ∨ (60 ≤ a ∧ a < 1000) ∨ (a = 34 ∧ 48 ≤ j) → J' a j = J a j) ∧ ∀ a j, a < 34 ∨ (60 ≤ a ∧ a < 1000) ∨ (a = 34 ∧ 53 ≤ j) → K' a j = K a j
/-- class's lists of places: below 17; the reference's: its movement -/
theorem frh_of {u v : List Nat} (hS : SHP k S Rf) (h : FR S u v I I' L L') (hu : (u.all fun x => decide (x < 17 ∨ (1000 ≤ x ∧ x < 2700))) = true) (hv : (v.all fun x => decide (x < 17 ∨ (1000 ≤ x ∧ x < 2700))) = true) : FRh I I' L L' := by
  rw [List.all_eq_true] at hu hv
  have key : ∀ w : List Nat, (∀ x ∈ w, decide (x < 17 ∨ (1000 ≤ x ∧ x < 2700)) = true) → ∀ a j, 17 ≤ a → a < 75 → a ∉ w ∧ (j < 100 → 1000 + 100 * a + j ∉ w) := fun w hw a j h1 h2 => ⟨fun q => by have := of_decide_eq_true (hw a q); omega, fun _ q => by have := of_decide_eq_true (hw _ q); omega⟩
  have l75 := SHP_len hS
  exact ⟨fun a j h1 h2 => h.1 a j (by omega) (key u hu a j h1 h2).1 (key u hu a j h1 h2).2 (SHP_dyn hS a h2), fun a j h1 h2 => h.2 a j (by omega) (key v hv a j h1 h2).1 (key v hv a j h1 h2).2⟩
theorem frm_of {u v : List Nat} (h : ∀ S, FR S u v I I' L L') (hu : (u.all fun x => decide ((34 < x ∧ x < 60) ∨ (4400 ≤ x ∧ x < 4448))) = true) (hv : (v.all fun x => decide ((34 < x ∧ x < 60) ∨ (4400 ≤ x ∧ x < 4453))) = true) : FRm I I' L L' := by
  rw [List.all_eq_true] at hu hv
  refine ⟨fun a j q => fr_I h a j (fun z => ?_) (fun hj z => ?_), fun a j q => fr_L h a j (fun z => ?_) (fun hj z => ?_)⟩
  · have := of_decide_eq_true (hu a z); omega
  · have := of_decide_eq_true (hu _ z); omega
  · have := of_decide_eq_true (hv a z); omega
  · have := of_decide_eq_true (hv _ z); omega
/-- an act of both on one heap -/
theorem mrgW {α : Type} {S' : List xSh} {Rf' : Nat → Nat → Option Nat} {k' : Nat} {x : Option (α × (Nat → Nat → Int32) × (Nat → Nat → Int64))} {y : (Nat → Nat → Int32) → (Nat → Nat → Int64) → Option (α × (Nat → Nat → Int32) × (Nat → Nat → Int64))} (h : INV k S Rf I L) (frH : ∀ q, x = some q → FRh I q.2.1 L q.2.2) (frM : ∀ J K q, y J K = some q → FRm J q.2.1 K q.2.2) (op : ∀ J K, MOV k S Rf I J L K → ∃ v I' L' J' K', x = some (v, I', L') ∧ y J K = some (v, J', K') ∧ MOV k' S' Rf' I' J' L' K') : wp x (fun q => wp (y q.2.1 q.2.2) (fun q' => q.1 = q'.1 ∧ INV k' S' Rf' q'.2.1 q'.2.2)) := by
  obtain ⟨hh, hm⟩ := h
  obtain ⟨v, I', L', _, _, e1, _, _⟩ := op I L hm
  have f1 := frH _ e1
  simp only [] at f1
  obtain ⟨v2, I2, L2, J', K', e2, e3, e4⟩ := op I' L' (MOV_ext hm (Nat.le_refl _) (fun _ _ _ => rfl) (fun a j q => f1.1 a j (by omega) (by omega)) (fun _ _ _ => rfl) (fun a j q => f1.2 a j (by omega) (by omega)))
  rw [e1] at e2
  have e := Option.some.inj e2
  obtain ⟨rfl, rfl, rfl⟩ : v = v2 ∧ I' = I2 ∧ L' = L2 := ⟨congrArg (fun q => q.1) e, congrArg (fun q => q.2.1) e, congrArg (fun q => q.2.2) e⟩
  have f2 := frM _ _ _ e3
  simp only [] at f2
  refine ⟨_, e1, _, e3, rfl, ?_, ?_⟩
  · refine HOU_ext hh (fun a j q => ?_) (fun a j q => ?_)
    · simp only []
      rw [f2.1 a j (by omega), f1.1 a j (by omega) (by omega)]
    · simp only []
      rw [f2.2 a j (by omega), f1.2 a j (by omega) (by omega)]
  · exact MOV_ext e4 (Nat.le_refl _) (fun a j q => f2.1 a j (by omega)) (fun _ _ _ => rfl) (fun a j q => f2.2 a j (by omega)) (fun _ _ _ => rfl)
theorem sp_call (g : GRS A A0 T nl I J L) : ∃ J' K' K'', f_Md_speeds J K = some (J', K') ∧ f_Md_isLocked J' K' = some (I 2 4, J', K'') ∧ SPR I J' L K' A T ∧ (∀ a j, a ≠ 57 → J' a j = J a j) ∧ (∀ a j, a < 1000 → a ≠ 58 → a ≠ 59 → ¬ (a = 34 ∧ (j = 51 ∨ j = 52)) → K' a j = K a j) ∧ ∀ a j, a < 1000 → ¬ (a = 34 ∧ (j = 51 ∨ j = 52)) → K'' a j = K' a j := by
  obtain ⟨h1, h2, h3, ⟨h4, h4', h4''⟩, h5, h6, h7⟩ := g
  obtain ⟨J', K', K'', a1, a2, a3⟩ := h3 J K A0 A nl h1
  have A24 := h1.1.2.2.1
  have fS := fun S => u_Md_speeds (S := S) a1
  have fL := fun S => u_Md_isLocked (S := S) a2
  have fJ : ∀ a j, a ≠ 57 → J' a j = J a j := fun a j q => fr_I fS a j (by simp [q]) (fun _ => by simp; omega)
  refine ⟨J', K', K'', a1, ?_, ⟨⟨A24, ?_, h4, h4', by rw [fJ 34 9 (by decide)]; exact h4''⟩, a3, fun a ha => h6 a (by omega)⟩, fJ, fun a j q0 q1 q2 q3 => fr_L fS a j (by simp; omega) (fun _ => by simp; omega), fun a j q0 q => fr_L fL a j (by simp; omega) (fun _ => by simp; omega)⟩
  · rw [a2]
    simp [uI]
  · rcases h5 with q | q
    · exact Or.inl q
    · exact Or.inr (fun a ha => q.2 a (by omega))
end IVX

/-! the movement's gears: what the class keeps is what the reference finds -/
def GH (I J : Nat → Nat → Int32) (A0 A nl : Nat) : Prop := (I 2 0 = jN A0 ∧ A0 ≤ A ∧ A ≤ 24 ∧ I 2 1 = jN nl ∧ nl ≤ 40 ∧ J 34 0 = jN A ∧ J 34 1 = jN nl) ∧ (∀ l, l < nl → LK I J A0 l) ∧ ((I 2 2 = -1 ∧ J 34 8 = -1) ∨ ∃ e, e < A0 ∧ I 2 2 = jN e ∧ J 34 8 = jN e)
/-- at any heap with the same links the reference finds the class's speeds -/
def SPC (I : Nat → Nat → Int32) (L : Nat → Nat → Int64) : Prop := ∀ (J : Nat → Nat → Int32) (K : Nat → Nat → Int64) (A0 A nl : Nat), GH I J A0 A nl → ∃ J' K' K'', f_Md_speeds J K = some (J', K') ∧ f_Md_isLocked J' K' = some (I 2 4, J', K'') ∧ ∀ a, a < A → sk L J' K' a
theorem sk_ext {L L' K : Nat → Nat → Int64} {J : Nat → Nat → Int32} {a : Nat} (e1 : L' 3 a = L 3 a) (e2 : L' 4 a = L 4 a) (h : sk L J K a) : sk L' J K a := by
  unfold sk at h ⊢
  rw [e1, e2]
  exact h
section GEI
variable {I J : Nat → Nat → Int32} {L K : Nat → Nat → Int64} {A0 A nl : Nat}
theorem fs_one (h : GH I J A0 A nl) : ∃ r L' J' K' K'', f_Ge_findSpeeds I L = some (uI I 2 4 r, L') ∧ f_Md_speeds J K = some (J', K') ∧ f_Md_isLocked J' K' = some (r, J', K'') ∧ (∀ a, a < A → sk L' J' K' a) ∧ (∀ a, a < 24 → L' 5 a = (L' 4 a * 2) * (I 2 3).toInt64) ∧ (r = 0 ∨ r = 1) := by
  obtain ⟨⟨g1, g2, g3, g4, g5, g6, g7⟩, g8, g9⟩ := h
  obtain ⟨L0, e0, f0, z0⟩ := fgt I L
  obtain ⟨J0, K0, e1, f1, z1, _⟩ := sp2 g3 A 0 xF J K (by omega) (xF_lt (by omega)) g6
  have hS : f_Md_speeds J K = f_Md_speeds_L51 xF 1 J0 K0 := e1
  have j34 : ∀ i, J0 34 i = J 34 i := fun i => f1 34 i (by decide)
  have lk : ∀ l, l < nl → LK I J0 A0 l := fun l hl => LK_ext (g8 l hl) (fun a j _ _ => f1 a j (by omega))
  -- the start
  have key : ∃ L1, f_Ge_findSpeeds I L = f_Ge_findSpeeds_L39 xF 1 0 I L1 ∧ GS I J0 L1 K0 A0 A nl := by
    rcases g9 with ⟨q1, q2⟩ | ⟨e, he, q1, q2⟩
    · refine ⟨L0, ?_, ⟨⟨g1, g2, g3, g4, g5, by rw [j34, g6], by rw [j34, g7]⟩, lk, fun a ha => ?_⟩⟩
      · rw [f_Ge_findSpeeds, e0, Option.bind_some]
        simp only []
        rw [q1, if_pos has_m]
      · left
        obtain ⟨y1, _, _⟩ := z1 a (by omega) ha
        refine ⟨?_, (z0 a (by omega)).2.1, (z0 a (by omega)).1⟩
        rw [y1, q2, if_neg]
        intro q
        have : (0 : Int32) ≤ jN a := jN_ge0 (by omega)
        rw [q] at this
        exact absurd this (by decide)
    · refine ⟨uL (uL L0 3 e 1) 4 e 1, ?_, ⟨⟨g1, g2, g3, g4, g5, by rw [j34, g6], by rw [j34, g7]⟩, lk, fun a ha => ?_⟩⟩
      · have c5 : ¬ f_Ge_hasArbor (jN e) I L0 = 0 := by rw [has_1 g1 (by omega) he]; decide
        have c2 : 0 ≤ jN e ∧ jN e < 24 := jN_in (n := 24) (by omega) (by decide)
        rw [f_Ge_findSpeeds, e0, Option.bind_some]
        simp only []
        rw [q1, if_neg c5, if_pos c2, if_pos c2, jN_tc (by omega)]
      · obtain ⟨y1, y2, y3⟩ := z1 a (by omega) ha
        by_cases ea : a = e
        · subst ea
          right
          rw [y1, y2, y3, q2]
          have t1 : (1 : Int64).toInt = 1 := by decide
          refine ⟨if_pos rfl, by simp [uL], by simp [uL], ?_, ?_⟩
          · simp [uL, t1]
          · simp [uL, bd, t1]
        · left
          refine ⟨?_, by simp [uL, ea]; exact (z0 a (by omega)).2.1, by simp [uL, ea]; exact (z0 a (by omega)).1⟩
          rw [y1, q2, if_neg]
          intro q
          exact ea ((jN_inj (by omega) (by omega)).mp q)
  obtain ⟨L1, k1, k2⟩ := key
  obtain ⟨L2, J2, K2, a1, a2, a3⟩ := fx 24 0 xF xF J0 L1 K0 (cU_le L1 24) (by have := cU_le L1 24; omega) (xF_lt (by omega)) (xF_lt (by omega)) k2
  obtain ⟨L3, b1, b2, b3, _⟩ := pds I 24 0 xF L2 (by omega) (xF_lt (by omega))
  have a3' : GS I J2 L3 K2 A0 A nl := gs_same a3 (fun a => ⟨b2 3 a (by decide), b2 4 a (by decide)⟩) (fun a => ⟨rfl, rfl⟩)
  obtain ⟨r, L4, K4, c1, c2, c3⟩ := lck nl 0 L3 K2 (by omega) a3'
  have hb : f_Ge_isSomeLinkBroken I L3 = some (r, I, L4) := c1 xF (xF_lt (by omega))
  have fr := fun S => u_Ge_isSomeLinkBroken (S := S) hb
  have e4 : ∀ a i, a = 3 ∨ a = 4 ∨ a = 5 → L4 a i = L3 a i := fun a i ha => by
    rcases ha with rfl | rfl | rfl
    · exact fr_L fr 3 i (by decide) (fun _ => by simp; omega)
    · exact fr_L fr 4 i (by decide) (fun _ => by simp; omega)
    · exact fr_L fr 5 i (by decide) (fun _ => by simp; omega)
  refine ⟨r, L4, J2, K2, K4, ?_, by rw [hS]; exact a2, c2 xF (xF_lt (by omega)), fun a ha => ?_, fun a ha => ?_, c3⟩
  · have a1' : f_Ge_findSpeeds_L39 xF 1 0 I L1 = _ := a1
    have b1' : f_Ge_findSpeeds_L62 xF 0 I L2 = _ := b1
    rw [k1, a1', b1', hb, Option.bind_some, if_pos c3]
  · exact sk_ext (e4 3 a (by simp)) (e4 4 a (by simp)) (a3'.2.2 a ha)
  · rw [e4 5 a (by simp), e4 4 a (by simp), b3 a (by omega) ha, b2 4 a (by decide)]
theorem fs_all (h : GH I J A0 A nl) : ∃ r L', f_Ge_findSpeeds I L = some (uI I 2 4 r, L') ∧ SPC (uI I 2 4 r) L' ∧ (∀ a, a < 24 → L' 5 a = (L' 4 a * 2) * (I 2 3).toInt64) ∧ (r = 0 ∨ r = 1) := by
  obtain ⟨r, L', _, _, _, h1, _, _, _, h5, h6⟩ := fs_one (L := L) (K := L) h
  refine ⟨r, L', h1, fun J K A0 A nl hG => ?_, h5, h6⟩
  have hG' : GH I J A0 A nl := by
    unfold GH LK at hG ⊢
    simpa [uI] using hG
  obtain ⟨r2, L2, J', K', K'', k1, k2, k3, k4, _, _⟩ := fs_one (L := L) (K := K) hG'
  rw [h1] at k1
  have e := Option.some.inj k1
  have eL : L' = L2 := congrArg Prod.snd e
  have eI : uI I 2 4 r = uI I 2 4 r2 := congrArg Prod.fst e
  have er : r = r2 := by
    have := congrFun (congrFun eI 2) 4
    simpa [uI] using this
  subst er
  subst eL
  exact ⟨J', K', K'', k2, by simpa [uI] using k3, k4⟩
end GEI

/-! the movement: what a tick does to chronographs and works, both -/
def WK (S : List xSh) (Rf : Nat → Nat → Option Nat) (A nw : Nat) (pw : Nat → Nat) (I J : Nat → Nat → Int32) : Prop := I 0 6 = jN nw ∧ J 34 16 = jN nw ∧ nw ≤ 8 ∧ ∀ w, w < nw → WR S Rf A (pw w) w I J
section TCK
variable {S : List xSh} {Rf : Nat → Nat → Option Nat} {L K : Nat → Nat → Int64} {A T nc nw n : Nat} {pc pw : Nat → Nat}
theorem WR_ext {I J I' J' : Nat → Nat → Int32} {p w : Nat} (h : WR S Rf A p w I J) (e1 : ∀ j, I' p j = I p j) (e2 : ∀ i, i < 10 → J' 48 (10 * w + i) = J 48 (10 * w + i)) (e3 : ∀ a, 42 ≤ a → a ≤ 46 → J' a w = J a w) : WR S Rf A p w I' J' := by
  have e0 : J' 48 (10 * w) = J 48 (10 * w) := e2 0 (by decide)
  unfold WR wDi wCa wSt at h ⊢
  simp only [e1, e0, e2 1 (by decide), e2 2 (by decide), e2 3 (by decide), e2 4 (by decide), e2 5 (by decide), e2 6 (by decide), e2 7 (by decide), e3 42 (by decide) (by decide), e3 43 (by decide) (by decide), e3 44 (by decide) (by decide), e3 45 (by decide) (by decide), e3 46 (by decide) (by decide)]
  exact h
theorem CK_ext {I J I' J' : Nat → Nat → Int32} (h : CK nc pc I J) (e0 : I' 0 7 = I 0 7) (e1 : ∀ c, c < nc → ∀ j, I' (pc c) j = I (pc c) j) (e2 : J' 34 22 = J 34 22) (e3 : ∀ a i, a = 47 ∨ a = 49 ∨ a = 50 ∨ a = 51 ∨ a = 52 → J' a i = J a i) : CK nc pc I' J' := by
  refine ⟨by rw [e0]; exact h.1, by rw [e2]; exact h.2.1, h.2.2.1, fun c hc => ?_⟩
  have := h.2.2.2 c hc
  unfold ckr at this ⊢
  simp only [e1 c hc, e3 47 c (by simp), e3 49 c (by simp), e3 50 c (by simp), e3 51 c (by simp), e3 52 c (by simp)]
  exact this
theorem SPR_ext {I J I' J' : Nat → Nat → Int32} (h : SPR I J L K A T) (e1 : I' 2 3 = I 2 3) (e2 : J' 34 9 = J 34 9) (e3 : ∀ i, J' 57 i = J 57 i) : SPR I' J' L K A T := by
  obtain ⟨⟨h1, h2, h3, h4, h5⟩, h6, h7⟩ := h
  refine ⟨⟨h1, h2, h3, by rw [e1, h4], by rw [e2, h5]⟩, fun a ha => ?_, h7⟩
  have := h6 a ha
  unfold sk at this ⊢
  rw [e3]
  exact this
theorem wk_tick (ho : OBJ S Rf nc nw pc pw) (hn : 1 ≤ n ∧ n ≤ 200000) : ∀ (m w kb : Nat) (I J : Nat → Nat → Int32), w + m = nw → WK S Rf A nw pw I J → SPR I J L K A T → I 1 12 = jN n → J 34 25 = jN n → STK kb I J → kb + m < 3000000 → ∃ I' J', (∀ N, m < N → f_H_passTick_L41 S Rf N (jN n) (jN w) I L = some (I', L)) ∧ (∀ N, m < N → f_Md_ticked_L42 N (jN w) J K = some (J', K)) ∧ WK S Rf A nw pw I' J' ∧ STK (kb + m) I' J' ∧ (∀ a j, (∀ w, w < nw → a ≠ pw w) → a ≠ 14 → ¬ (a = 13 ∧ j = 3) → I' a j = I a j) ∧ ∀ a j, a ≠ 48 → a ≠ 54 → ¬ (a = 34 ∧ (j = 40 ∨ j = 45 ∨ j = 46 ∨ j = 47)) → J' a j = J a j := by
  intro m
  induction m with
  | zero =>
    intro w kb I J h1 h hS hi hJ hs hk
    have e : w = nw := by omega
    subst e
    refine ⟨I, J, fun N hN => ?_, fun N hN => ?_, h, hs, fun _ _ _ _ _ => rfl, fun _ _ _ _ _ => rfl⟩
    · obtain ⟨N, rfl⟩ : ∃ k, N = k + 1 := ⟨N - 1, by omega⟩
      rw [f_H_passTick_L41, h.1, if_pos (Int32.le_refl _)]
    · obtain ⟨N, rfl⟩ : ∃ k, N = k + 1 := ⟨N - 1, by omega⟩
      rw [f_Md_ticked_L42, h.2.1, if_pos (Int32.le_refl _)]
  | succ m ih =>
    intro w kb I J h1 h hS hi hJ hs hk
    have hw : w < nw := by omega
    obtain ⟨g1, g2, g3, g4⟩ := id h
    obtain ⟨o1, o2, o3⟩ := ho.2.1 w hw
    have wr := g4 w hw
    obtain ⟨⟨a, ha, i0, j0⟩, _, _⟩ := id wr
    have c1 : ¬ jN nw ≤ jN w := fun q => by have := (jN_le (by omega) (by omega)).mp q; omega
    have c2 : 0 ≤ jN w ∧ jN w < 8 := jN_in (n := 8) (by omega) (by decide)
    have en : jN n - 1 = jN (n - 1) := jN_sub (b := 1) hn.1
    have t4 : ¬ (some (.inl 1) : Option xSh) = some (.inl 4) := by simp
    have t8 : ¬ (some (.inl 8) : Option xSh) = some (.inl 4) := by simp
    have t81 : ¬ (some (.inl 8) : Option xSh) = some (.inl 1) := by simp
    -- the class's road for this work
    have cls : ∀ N, ∀ (v1 v2 : Int64), f_Ge_turned (jN a) (jN n) 1 I L = some v1 → f_Ge_turned (jN a) (jN (n - 1)) 1 I L = some v2 → (v1 ≤ v2 → f_H_passTick_L41 S Rf (N + 1) (jN n) (jN w) I L = f_H_passTick_L41 S Rf N (jN n) (jN (w + 1)) I L) ∧ (¬ v1 ≤ v2 → ∀ I', ((S[pw w]? = some (.inl 4) ∧ f_Di_advance (pw w) (uI I (pw w) 1 (I (pw w) 1 + 1)) L = some (I', L)) ∨ (S[pw w]? = some (.inl 1) ∧ f_Ca_advance (pw w) (uI I (pw w) 1 (I (pw w) 1 + 1)) L = some (I', L)) ∨ (S[pw w]? = some (.inl 8) ∧ St1 w (pw w) (uI I (pw w) 1 (I (pw w) 1 + 1)) L = some (I', L))) → f_H_passTick_L41 S Rf (N + 1) (jN n) (jN w) I L = f_H_passTick_L41 S Rf N (jN n) (jN (w + 1)) I' L) := by
      intro N v1 v2 q1 q2
      have red : f_H_passTick_L41 S Rf (N + 1) (jN n) (jN w) I L = (if S[pw w]? = some (.inl 4) then (if v1 ≤ v2 then (f_H_passTick_L41 S Rf N (jN n) (jN (w + 1)) I L) else ((f_Di_advance (pw w) (uI I (pw w) 1 (I (pw w) 1 + 1)) L).bind fun q14 => (f_H_passTick_L41 S Rf N (jN n) (jN (w + 1)) q14.1 q14.2))) else (if S[pw w]? = some (.inl 1) then (if v1 ≤ v2 then (f_H_passTick_L41 S Rf N (jN n) (jN (w + 1)) I L) else ((f_Ca_advance (pw w) (uI I (pw w) 1 (I (pw w) 1 + 1)) L).bind fun q14 => (f_H_passTick_L41 S Rf N (jN n) (jN (w + 1)) q14.1 q14.2))) else (if S[pw w]? = some (.inl 8) then (if v1 ≤ v2 then (f_H_passTick_L41 S Rf N (jN n) (jN (w + 1)) I L) else ((f_St_advance (pw w) (uI I (pw w) 1 (I (pw w) 1 + 1)) L).bind fun q32 => (if f_St_isSilent (pw w) q32.1 q32.2 = (0 : Int32) then ((f_H_tellStrike_S (jN w) (pw w) q32.1 q32.2).bind fun q35 => (f_H_passTick_L41 S Rf N (jN n) (jN (w + 1)) q35.2.1 q35.2.2)) else (f_H_passTick_L41 S Rf N (jN n) (jN (w + 1)) q32.1 q32.2)))) else none))) := by
        rw [f_H_passTick_L41, g1, if_neg c1, if_pos c2, jN_tc (by omega), o1, jN_1]
        simp only [oc, i0, en, q1, q2, Option.bind_some, bnd]
      refine ⟨fun hv => ?_, fun hv I' hI => ?_⟩
      · rw [red, if_pos hv, if_pos hv, if_pos hv]
        rcases o3 with o | o | o
        · rw [o, if_pos rfl]
        · rw [o, if_neg t4, if_pos rfl]
        · rw [o, if_neg t8, if_neg t81, if_pos rfl]
      · rw [red, if_neg hv, if_neg hv, if_neg hv]
        rcases hI with ⟨o, e⟩ | ⟨o, e⟩ | ⟨o, e⟩
        · rw [o, if_pos rfl, e, Option.bind_some]
        · rw [o, if_neg t4, if_pos rfl, e, Option.bind_some]
        · rw [o, if_neg t8, if_neg t81, if_pos rfl]
          exact (St1_b w (pw w) _ L (fun x y => f_H_passTick_L41 S Rf N (jN n) (jN (w + 1)) x y)).trans (by rw [e, Option.bind_some])
    have skip : (∀ N, f_H_passTick_L41 S Rf (N + 1) (jN n) (jN w) I L = f_H_passTick_L41 S Rf N (jN n) (jN (w + 1)) I L) → (∀ N, f_Md_ticked_L42 (N + 1) (jN w) J K = f_Md_ticked_L42 N (jN (w + 1)) J K) → ∃ I' J', (∀ N, m + 1 < N → f_H_passTick_L41 S Rf N (jN n) (jN w) I L = some (I', L)) ∧ (∀ N, m + 1 < N → f_Md_ticked_L42 N (jN w) J K = some (J', K)) ∧ WK S Rf A nw pw I' J' ∧ STK (kb + (m + 1)) I' J' ∧ (∀ a j, (∀ w, w < nw → a ≠ pw w) → a ≠ 14 → ¬ (a = 13 ∧ j = 3) → I' a j = I a j) ∧ ∀ a j, a ≠ 48 → a ≠ 54 → ¬ (a = 34 ∧ (j = 40 ∨ j = 45 ∨ j = 46 ∨ j = 47)) → J' a j = J a j := by
      intro e1 e2
      obtain ⟨I2, J2, b1, b2, b3, b4, b5, b6⟩ := ih (w + 1) kb I J (by omega) h hS hi hJ hs (by omega)
      refine ⟨I2, J2, fun N hN => ?_, fun N hN => ?_, b3, STK_w b4 (by omega), b5, b6⟩
      · obtain ⟨N, rfl⟩ : ∃ k, N = k + 1 := ⟨N - 1, by omega⟩
        rw [e1 N, b1 N (by omega)]
      · obtain ⟨N, rfl⟩ : ∃ k, N = k + 1 := ⟨N - 1, by omega⟩
        rw [e2 N, b2 N (by omega)]
    have refH : ∀ N, f_Md_ticked_L42 (N + 1) (jN w) J K = ((f_Md_isKnown (jN a) J K).bind fun q5 => (if q5 = (0 : Int32) then (f_Md_ticked_L42 N (jN (w + 1)) J K) else ((f_Md_turnsAt (jN a) (jN n).toInt64 J K).bind fun q8 => ((f_Md_turnsAt (jN a) (jN (n - 1)).toInt64 J K).bind fun q10 => (if q8 ≤ q10 then (f_Md_ticked_L42 N (jN (w + 1)) J K) else ((f_Md_tripped (jN w) J K).bind fun q13 => (f_Md_ticked_L42 N (jN (w + 1)) q13.1 q13.2))))))) := by
      intro N
      rw [f_Md_ticked_L42, g2, if_neg c1, if_pos c2, jN_tc (by omega), j0, hJ, en, jN_1]
    by_cases kn : L 4 a = 0
    · refine skip (fun N => (cls N 0 0 (tu_no hS ha kn) (tu_no hS ha kn)).1 (Int64.le_refl _)) (fun N => ?_)
      rw [refH N, kn_no hS ha kn, Option.bind_some, if_pos rfl]
    · have v1 : f_Ge_turned (jN a) (jN n) 1 I L = some (tv L a (jN n) 1) := by have := tu_yes (n := jN n) (p := 1) hS ha kn; rw [one64] at this; exact this
      have v2 : f_Ge_turned (jN a) (jN (n - 1)) 1 I L = some (tv L a (jN (n - 1)) 1) := by have := tu_yes (n := jN (n - 1)) (p := 1) hS ha kn; rw [one64] at this; exact this
      have ref : ∀ N, f_Md_ticked_L42 (N + 1) (jN w) J K = if tv L a (jN n) 1 ≤ tv L a (jN (n - 1)) 1 then (f_Md_ticked_L42 N (jN (w + 1)) J K) else ((f_Md_tripped (jN w) J K).bind fun q13 => (f_Md_ticked_L42 N (jN (w + 1)) q13.1 q13.2)) := by
        intro N
        rw [refH N, kn_yes hS ha kn, Option.bind_some, if_neg (by decide), ta_yes hS ha kn, Option.bind_some, ta_yes hS ha kn, Option.bind_some]
      by_cases hv : tv L a (jN n) 1 ≤ tv L a (jN (n - 1)) 1
      · exact skip (fun N => (cls N _ _ v1 v2).1 hv) (fun N => by rw [ref N, if_pos hv])
      · obtain ⟨I1, J1, t1, t2, t3, t4', t5, t6⟩ := trip_one (L := L) (K := K) (n := n) o2 (by omega) wr hi hJ hs (by omega)
        have p13 : pw w ≠ 13 := by omega
        have p14 : pw w ≠ 14 := by omega
        have wk1 : WK S Rf A nw pw I1 J1 := by
          refine ⟨by rw [t5 0 6 (by omega) (by decide) (by simp)]; exact g1, by rw [t6 34 16 (by simp) (by decide) (by simp)]; exact g2, g3, fun w' hw' => ?_⟩
          by_cases e : w' = w
          · subst e; exact t3
          · have pn : pw w' ≠ pw w := fun q => e (ho.2.2.2 w' w hw' hw q)
            have p75 := (ho.2.1 w' hw').2.1
            exact WR_ext (g4 w' hw') (fun j => t5 _ j pn (by omega) (by omega)) (fun i hi => t6 48 _ (by omega) (by decide) (by simp)) (fun a a1 a2 => t6 a w' (by omega) (by omega) (by omega))
        have sp1 : SPR I1 J1 L K A T := SPR_ext hS (t5 2 3 (by omega) (by decide) (by simp)) (t6 34 9 (by simp) (by decide) (by simp)) (fun i => t6 57 i (by simp) (by decide) (by simp))
        obtain ⟨I2, J2, b1, b2, b3, b4, b5, b6⟩ := ih (w + 1) (kb + 1) I1 J1 (by omega) wk1 sp1 (by rw [t5 1 12 (by omega) (by decide) (by simp)]; exact hi) (by rw [t6 34 25 (by simp) (by decide) (by simp)]; exact hJ) t4' (by omega)
        refine ⟨I2, J2, fun N hN => ?_, fun N hN => ?_, b3, STK_w b4 (by omega), fun a j q1 q2 q3 => ?_, fun a j q1 q2 q3 => ?_⟩
        · obtain ⟨N, rfl⟩ : ∃ k, N = k + 1 := ⟨N - 1, by omega⟩
          rw [(cls N _ _ v1 v2).2 hv I1 t1, b1 N (by omega)]
        · obtain ⟨N, rfl⟩ : ∃ k, N = k + 1 := ⟨N - 1, by omega⟩
          rw [ref N, if_neg hv, t2, Option.bind_some]
          exact b2 N (by omega)
        · rw [b5 a j q1 q2 q3, t5 a j (q1 w hw) q2 q3]
        · rw [b6 a j q1 q2 q3, t6 a j (fun q => q1 q.1) q2 q3]
theorem tick_ok {I J : Nat → Nat → Int32} {kb : Nat} (ho : OBJ S Rf nc nw pc pw) (hn : 1 ≤ n ∧ n ≤ 200000) (hc : CK nc pc I J) (hw : WK S Rf A nw pw I J) (hS : SPR I J L K A T) (hI : I 1 12 = jN n) (hJ : J 34 25 = jN n) (hs : STK kb I J) (hkb : kb + 8 < 3000000) : ∃ I' J', f_H_passTick S Rf I L = some (I', L) ∧ f_Md_ticked J K = some (J', K) ∧ CK nc pc I' J' ∧ WK S Rf A nw pw I' J' ∧ STK (kb + 8) I' J' ∧ (∀ a j, a < 75 → a ≠ 14 → ¬ (a = 13 ∧ j = 3) → I' a j = I a j) ∧ ∀ a j, a ≠ 48 → a ≠ 50 → a ≠ 54 → ¬ (a = 34 ∧ (j = 40 ∨ j = 45 ∨ j = 46 ∨ j = 47)) → J' a j = J a j := by
  obtain ⟨I1, J1, a1, a2, a3, a4, a5⟩ := ck_tick (L := L) (K := K) ho nc 0 I J (by omega) hc
  have hnc := hc.2.2.1
  have hnw := hw.2.2.1
  have f1 : ∀ a j, a < 75 → I1 a j = I a j := fun a j ha => a4 a j (fun c h => by have := (ho.1 c h).2.2; omega)
  have wk1 : WK S Rf A nw pw I1 J1 := by
    refine ⟨by rw [f1 0 6 (by decide)]; exact hw.1, by rw [a5 34 16 (by decide)]; exact hw.2.1, hnw, fun w h => ?_⟩
    exact WR_ext (hw.2.2.2 w h) (fun j => a4 _ j (fun c hc' q => obj_ne ho hc' h q.symm)) (fun i _ => a5 48 _ (by decide)) (fun a q1 q2 => a5 a w (by omega))
  obtain ⟨I2, J2, b1, b2, b3, b4, b5, b6⟩ := wk_tick ho hn nw 0 kb I1 J1 (by omega) wk1 (SPR_ext hS (f1 2 3 (by decide)) (a5 34 9 (by decide)) (fun i => a5 57 i (by decide))) (by rw [f1 1 12 (by decide)]; exact hI) (by rw [a5 34 25 (by decide)]; exact hJ) (STK_ext hs (f1 13 3 (by decide)) (f1 13 0 (by decide)) (f1 13 1 (by decide)) (a5 34 40 (by decide)) (fun j => f1 14 j (by decide)) (fun j => a5 54 j (by decide))) (by omega)
  refine ⟨I2, J2, ?_, ?_, ?_, b3, STK_w b4 (by omega), fun a j q1 q2 q3 => ?_, fun a j q1 q2 q3 q4 => ?_⟩
  · have e1 : f_H_passTick S Rf I L = f_H_passTick_L41 S Rf xF (I1 1 12) 0 I1 L := a1 xF (xF_lt (by omega))
    rw [e1, f1 1 12 (by decide), hI]
    exact b1 xF (xF_lt (by omega))
  · have e1 : f_Md_ticked J K = f_Md_ticked_L42 xF 0 J1 K := a2 xF (xF_lt (by omega))
    rw [e1]
    exact b2 xF (xF_lt (by omega))
  · refine CK_ext a3 (b5 0 7 (fun w h => by have := (ho.2.1 w h).2.1; omega) (by decide) (by simp)) (fun c h j => b5 _ j (fun w h' => obj_ne ho h h') (by have := (ho.1 c h).2.2; omega) (by have := (ho.1 c h).2.2; omega)) (b6 34 22 (by decide) (by decide) (by simp)) (fun a i h => b6 a i (by omega) (by omega) (by omega))
  · rw [b5 a j (fun w h => by have := (ho.2.1 w h).2.1; omega) q2 q3, f1 a j q1]
  · rw [b6 a j q1 q3 q4, a5 a j q2]
end TCK

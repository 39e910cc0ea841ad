/-! the movement begins anew: the reference -/
section RNW
variable {J : Nat → Nat → Int32} {K : Nat → Nat → Int64} {A nc nw : Nat}
theorem fs7 {w : Nat} (hw : w < 8) : ∀ (m i : Nat) (J1 : Nat → Nat → Int32), i + m = 10 → ∃ J2, (∀ N, m < N → f_Md_first_L7 N (jN w) (jN (10 * w)) (jN i) J1 K = f_Md_first_L7 (N - m) (jN w) (jN (10 * w)) (jN 10) J2 K) ∧ (∀ e, i ≤ e → e < 10 → J2 48 (10 * w + e) = 0) ∧ (∀ e, e < i → J2 48 (10 * w + e) = J1 48 (10 * w + e)) ∧ ∀ a j, ¬ (a = 48 ∧ 10 * w ≤ j ∧ j < 10 * w + 10) → J2 a j = J1 a j := by
  intro m
  induction m with
  | zero =>
    intro i J1 h
    have e : i = 10 := by omega
    subst e
    exact ⟨J1, fun N hN => rfl, fun e q1 q2 => by omega, fun _ _ => rfl, fun _ _ _ => rfl⟩
  | succ m ih =>
    intro i J1 h
    obtain ⟨J2, a1, a2, a3, a4⟩ := ih (i + 1) (uI J1 48 (10 * w + i) 0) (by omega)
    refine ⟨J2, fun N hN => ?_, fun e q1 q2 => ?_, fun e q => ?_, fun a j q => ?_⟩
    · obtain ⟨N, rfl⟩ : ∃ k, N = k + 1 := ⟨N - 1, by omega⟩
      have c1 : ¬ (10 : Int32) ≤ jN i := fun q => by have := (jN_le (a := 10) (by decide) (by omega)).mp q; omega
      rw [f_Md_first_L7, if_neg c1, i10, if_pos (r80 hw (by omega)), t80 hw (by omega), jN_1, a1 N (by omega), Nat.add_sub_add_right]
    · by_cases z : e = i
      · subst z
        rw [a3 e (by omega)]
        simp [uI]
      · exact a2 e (by omega) q2
    · rw [a3 e (by omega)]
      have : e ≠ i := by omega
      simp [uI, this]
    · rw [a4 a j q]
      simp only [uI]
      rw [if_neg (fun z => q ⟨z.1, by omega⟩)]
theorem first_ok {w : Nat} (hw : w < 8) (hd : J 42 w = 0 ∨ (J 42 w = 1 ∧ ∃ d m y, DAY (J 46 w) d m y) ∨ J 42 w = 2) : ∃ J', f_Md_first (jN w) J K = some (J', K) ∧ wJ w J J' ∧ ∀ a j, ¬ (a = 48 ∧ 10 * w ≤ j ∧ j < 10 * w + 10) → ¬ (a = 34 ∧ (j = 45 ∨ j = 46 ∨ j = 47)) → J' a j = J a j := by
  obtain ⟨J2, a1, a2, _, a4⟩ := fs7 (K := K) hw 10 0 J (by omega)
  have z : ∀ e, e < 10 → J2 48 (10 * w + e) = 0 := fun e he => a2 e (by omega) he
  have z0 : J2 48 (10 * w) = 0 := z 0 (by omega)
  have c8 : 0 ≤ jN w ∧ jN w < 8 := jN_in (n := 8) hw (by decide)
  have c0 : 0 ≤ jN (10 * w) ∧ jN (10 * w) < 80 := r80 (i := 0) hw (by decide)
  have t0 : (jN (10 * w)).toNatClampNeg = 10 * w := t80 (i := 0) hw (by decide)
  have e1 : jN (10 * w) + 1 = jN (10 * w + 1) := i10 w 1
  have e2 : jN (10 * w) + 2 = jN (10 * w + 2) := i10 w 2
  have e3 : jN (10 * w) + 3 = jN (10 * w + 3) := i10 w 3
  have e4 : jN (10 * w) + 4 = jN (10 * w + 4) := i10 w 4
  have tw := jN_tc (k := w) (by omega)
  obtain ⟨N, hN⟩ : ∃ N, xF - 10 = N + 1 := ⟨xF - 11, by unfold xF; omega⟩
  have hh : f_Md_first (jN w) J K = f_Md_first_L7 (N + 1) (jN w) (jN (10 * w)) (jN 10) J2 K := by
    rw [f_Md_first, x10]
    simp only [bnd]
    rw [← hN]
    exact a1 xF (xF_lt (by omega))
  have j42 : J2 42 w = J 42 w := a4 42 w (by omega)
  have j46 : J2 46 w = J 46 w := a4 46 w (by omega)
  rw [hh, f_Md_first_L7, if_pos (show (10 : Int32) ≤ jN 10 by decide), if_pos c8, tw, j42]
  rcases hd with h | ⟨h, d, mo, y, hD⟩ | h
  · rw [h, if_neg (by decide), if_pos c8, if_neg (by decide)]
    exact ⟨J2, rfl, ⟨z 5 (by omega), z 6 (by omega), z 7 (by omega), fun _ => z0, fun q => by rw [h] at q; exact absurd q (by decide), fun q => by rw [h] at q; exact absurd q (by decide)⟩, fun a j q _ => a4 a j q⟩
  · rw [if_pos h, if_pos c8, j46]
    simp only [bnd]
    rw [e4, if_pos (r80 hw (by decide)), if_pos c8, t80 hw (by decide)]
    obtain ⟨J3, b1, b2, b3, b4, b5⟩ := split_ok hD (uI J2 48 (10 * w + 4) (J 46 w)) K
    have j3 : ∀ a j, a ≠ 34 → J3 a j = (uI J2 48 (10 * w + 4) (J 46 w)) a j := fun a j q => b5 a j (fun e => absurd e q)
    have j346 : J3 46 w = J 46 w := by rw [j3 46 w (by decide)]; simp [uI, j46]
    rw [b1, Option.bind_some]
    simp only []
    rw [if_pos c0, e1, if_pos (r80 hw (by decide)), e2, if_pos (r80 hw (by decide)), if_pos c8, e3, if_pos (r80 hw (by decide)), t0, t80 hw (by decide), t80 hw (by decide), t80 hw (by decide), b2, b3, b4, j346]
    have k : ∀ e, e < 10 → e ≠ 4 → J3 48 (10 * w + e) = 0 := fun e h1 h2 => by
      rw [j3 48 _ (by decide)]
      simp [uI, h2]
      exact z e h1
    have k4 : J3 48 (10 * w + 4) = J 46 w := by
      rw [j3 48 _ (by decide)]
      simp [uI]
    refine ⟨_, rfl, ⟨?_, ?_, ?_, fun q => by rw [h] at q; exact absurd q (by decide), fun _ => ⟨?_, fun d' m' y' hD' => ?_, ?_⟩, fun q => by rw [h] at q; exact absurd q (by decide)⟩, fun a j q1 q2 => ?_⟩
    · simp [uI]; exact k 5 (by omega) (by omega)
    · simp [uI]; exact k 6 (by omega) (by omega)
    · simp [uI]; exact k 7 (by omega) (by omega)
    · simp [uI]; exact k4
    · obtain ⟨J4, u1, u2, u3, u4, _⟩ := split_ok hD' (uI J2 48 (10 * w + 4) (J 46 w)) K
      rw [b1] at u1
      have e : J3 = J4 := congrArg Prod.fst (Option.some.inj u1)
      subst e
      rw [b2] at u2
      rw [b3] at u3
      rw [b4] at u4
      refine ⟨by simp [uI]; exact u2, by simp [uI]; exact u3, by simp [uI]; exact u4⟩
    · simp [uI]
    · simp only [uI]
      rw [if_neg (fun z => q1 ⟨z.1, by omega⟩), if_neg (fun z => q1 ⟨z.1, by omega⟩), if_neg (fun z => q1 ⟨z.1, by omega⟩), if_neg (fun z => q1 ⟨z.1, by omega⟩), b5 a j (fun e => by omega)]
      simp only [uI]
      rw [if_neg (fun z => q1 ⟨z.1, by omega⟩)]
      exact a4 a j q1
  · rw [h, if_neg (by decide), if_pos c8, if_pos rfl, if_pos c0, e1, if_pos (r80 hw (by decide)), t0, t80 hw (by decide)]
    refine ⟨_, rfl, ⟨?_, ?_, ?_, fun q => by rw [h] at q; exact absurd q (by decide), fun q => by rw [h] at q; exact absurd q (by decide), fun _ => ⟨?_, ?_, ?_⟩⟩, fun a j q1 q2 => ?_⟩
    · simp [uI]; exact z 5 (by omega)
    · simp [uI]; exact z 6 (by omega)
    · simp [uI]; exact z 7 (by omega)
    · simp [uI]
    · simp [uI]
    · simp [uI]; exact z 2 (by omega)
    · simp only [uI]
      rw [if_neg (fun z => q1 ⟨z.1, by omega⟩), if_neg (fun z => q1 ⟨z.1, by omega⟩)]
      exact a4 a j q1
def jOK (nw : Nat) (J : Nat → Nat → Int32) : Prop := ∀ w, w < nw → J 42 w = 0 ∨ (J 42 w = 1 ∧ ∃ d m y, DAY (J 46 w) d m y) ∨ J 42 w = 2
theorem wJ_ext {w : Nat} {J1 J2 J3 : Nat → Nat → Int32} (h : wJ w J J1) (e : ∀ i, i < 10 → J2 48 (10 * w + i) = J1 48 (10 * w + i)) (e1 : J3 42 w = J 42 w) (e2 : J3 46 w = J 46 w) : wJ w J3 J2 := by
  have e0 : J2 48 (10 * w) = J1 48 (10 * w) := e 0 (by decide)
  unfold wJ at h ⊢
  simp only [e0, e 1 (by decide), e 2 (by decide), e 3 (by decide), e 4 (by decide), e 5 (by decide), e 6 (by decide), e 7 (by decide), e1, e2]
  exact h
theorem rn47 (h8 : nw ≤ 8) (hd : jOK nw J) : ∀ (m w : Nat) (J1 : Nat → Nat → Int32), w + m = nw → J1 34 16 = jN nw → (∀ v, J1 42 v = J 42 v ∧ J1 46 v = J 46 v) → (∀ v, v < w → wJ v J J1) → ∃ J2, (∀ N, m < N → f_Md_renew_L47 N (jN w) J1 K = f_Md_renew_L68 xF 0 J2 K) ∧ (∀ v, v < nw → wJ v J J2) ∧ ∀ a j, a ≠ 48 → ¬ (a = 34 ∧ (j = 45 ∨ j = 46 ∨ j = 47)) → J2 a j = J1 a j := by
  intro m
  induction m with
  | zero =>
    intro w J1 h1 h2 h3 h4
    have e : w = nw := by omega
    subst e
    refine ⟨J1, fun N hN => ?_, h4, fun _ _ _ _ => rfl⟩
    obtain ⟨N, rfl⟩ : ∃ k, N = k + 1 := ⟨N - 1, by omega⟩
    rw [f_Md_renew_L47, h2, if_pos (Int32.le_refl _)]
  | succ m ih =>
    intro w J1 h1 h2 h3 h4
    have hw : w < nw := by omega
    obtain ⟨J2, a1, a2, a3⟩ := first_ok (J := J1) (K := K) (w := w) (by omega) (by rw [(h3 w).1, (h3 w).2]; exact hd w hw)
    have g : ∀ a j, a ≠ 48 → ¬ (a = 34 ∧ (j = 45 ∨ j = 46 ∨ j = 47)) → J2 a j = J1 a j := fun a j q1 q2 => a3 a j (fun q => q1 q.1) q2
    obtain ⟨J3, b1, b2, b3⟩ := ih (w + 1) J2 (by omega) (by rw [g 34 16 (by decide) (by decide)]; exact h2) (fun v => by rw [g 42 v (by decide) (by simp), g 46 v (by decide) (by simp)]; exact h3 v) (fun v hv => by
      by_cases e : v = w
      · subst e; exact wJ_ext a2 (fun _ _ => rfl) (h3 v).1.symm (h3 v).2.symm
      · exact wJ_ext (h4 v (by omega)) (fun i hi => a3 48 _ (by omega) (by simp)) rfl rfl)
    refine ⟨J3, fun N hN => ?_, b2, fun a j q1 q2 => by rw [b3 a j q1 q2]; exact g a j q1 q2⟩
    obtain ⟨N, rfl⟩ : ∃ k, N = k + 1 := ⟨N - 1, by omega⟩
    have c1 : ¬ jN nw ≤ jN w := fun q => by have := (jN_le (by omega) (by omega)).mp q; omega
    rw [f_Md_renew_L47, h2, if_neg c1, a1, Option.bind_some, jN_1]
    exact b1 N (by omega)
theorem rn68 (h8 : nc ≤ 4) : ∀ (m c : Nat) (J1 : Nat → Nat → Int32), c + m = nc → J1 34 22 = jN nc → (∀ v, v < c → cJ v J1) → ∃ J2, (∀ N, m < N → f_Md_renew_L68 N (jN c) J1 K = some (J2, K)) ∧ (∀ v, v < nc → cJ v J2) ∧ ∀ a j, a ≠ 49 → a ≠ 50 → a ≠ 51 → a ≠ 52 → J2 a j = J1 a j := by
  intro m
  induction m with
  | zero =>
    intro w J1 h1 h2 h4
    have e : w = nc := by omega
    subst e
    refine ⟨J1, fun N hN => ?_, h4, fun _ _ _ _ _ _ => rfl⟩
    obtain ⟨N, rfl⟩ : ∃ k, N = k + 1 := ⟨N - 1, by omega⟩
    rw [f_Md_renew_L68, h2, if_pos (Int32.le_refl _)]
  | succ m ih =>
    intro w J1 h1 h2 h4
    have hw : w < nc := by omega
    obtain ⟨J3, b1, b2, b3⟩ := ih (w + 1) (uI (uI (uI (uI J1 49 w 0) 50 w 0) 51 w 0) 52 w 0) (by omega) (by simp [uI, h2]) (fun v hv => by
      by_cases e : v = w
      · subst e; exact ⟨by simp [uI], by simp [uI], by simp [uI], by simp [uI]⟩
      · have := h4 v (by omega)
        unfold cJ at this ⊢
        simp [uI, e]
        exact this)
    refine ⟨J3, fun N hN => ?_, b2, fun a j q1 q2 q3 q4 => by rw [b3 a j q1 q2 q3 q4]; simp [uI, q1, q2, q3, q4]⟩
    obtain ⟨N, rfl⟩ : ∃ k, N = k + 1 := ⟨N - 1, by omega⟩
    have c1 : ¬ jN nc ≤ jN w := fun q => by have := (jN_le (by omega) (by omega)).mp q; omega
    have c2 : 0 ≤ jN w ∧ jN w < 4 := jN_in (n := 4) (by omega) (by decide)
    rw [f_Md_renew_L68, h2, if_neg c1, if_pos c2, if_pos c2, if_pos c2, if_pos c2, jN_tc (by omega), jN_1]
    exact b1 N (by omega)
theorem ren_ok (hw : J 34 16 = jN nw ∧ nw ≤ 8) (hc : J 34 22 = jN nc ∧ nc ≤ 4) (hd : jOK nw J) : ∃ J', f_Md_renew J K = some (J', uL K 34 32 0) ∧ STJ A nc nw J J' K (uL K 34 32 0) ∧ ∀ a j, ¬ (48 ≤ a ∧ a ≤ 52) → ¬ (a = 34 ∧ ((25 ≤ j ∧ j ≤ 31) ∨ j = 40 ∨ j = 45 ∨ j = 46 ∨ j = 47)) → J' a j = J a j := by
  obtain ⟨J1, hJ1⟩ : ∃ J1, J1 = uI (uI (uI (uI (uI (uI (uI (uI J 34 25 0) 34 26 0) 34 27 0) 34 28 0) 34 29 (-1)) 34 30 0) 34 31 0) 34 40 0 := ⟨_, rfl⟩
  have f1 : ∀ a j, ¬ (a = 34 ∧ ((25 ≤ j ∧ j ≤ 31) ∨ j = 40)) → J1 a j = J a j := fun a j q => by
    rw [hJ1]
    simp only [uI]
    (repeat rw [if_neg (fun z => q ⟨z.1, by omega⟩)])
  have z : J1 34 25 = 0 ∧ J1 34 26 = 0 ∧ J1 34 27 = 0 ∧ J1 34 28 = 0 ∧ J1 34 29 = -1 ∧ J1 34 30 = 0 ∧ J1 34 31 = 0 ∧ J1 34 40 = 0 := by
    rw [hJ1]
    exact ⟨by simp [uI], by simp [uI], by simp [uI], by simp [uI], by simp [uI], by simp [uI], by simp [uI], by simp [uI]⟩
  have hh : f_Md_renew J K = f_Md_renew_L47 xF (jN 0) J1 (uL K 34 32 0) := by
    rw [show (jN 0 : Int32) = 0 from rfl, f_Md_renew, hJ1]
  obtain ⟨J2, a1, a2, a3⟩ := rn47 (K := uL K 34 32 0) hw.2 hd nw 0 J1 (by omega) (by rw [f1 34 16 (by omega)]; exact hw.1) (fun v => ⟨f1 42 v (by omega), f1 46 v (by omega)⟩) (fun v hv => by omega)
  obtain ⟨J3, b1, b2, b3⟩ := rn68 (K := uL K 34 32 0) hc.2 nc 0 J2 (by omega) (by rw [a3 34 22 (by decide) (by decide), f1 34 22 (by omega)]; exact hc.1) (fun v hv => by omega)
  have f34 : ∀ j, ¬ (j = 45 ∨ j = 46 ∨ j = 47) → J3 34 j = J1 34 j := fun j q => by
    rw [b3 34 j (by decide) (by decide) (by decide) (by decide), a3 34 j (by decide) (fun z => q z.2)]
  have fr : ∀ a j, ¬ (48 ≤ a ∧ a ≤ 52) → ¬ (a = 34 ∧ ((25 ≤ j ∧ j ≤ 31) ∨ j = 40 ∨ j = 45 ∨ j = 46 ∨ j = 47)) → J3 a j = J a j := fun a j q1 q2 => by
    rw [b3 a j (by omega) (by omega) (by omega) (by omega), a3 a j (by omega) (by omega)]
    exact f1 a j (by omega)
  refine ⟨J3, ?_, ⟨fun a j q => fr a j (by omega) (by omega), ?_, by simp [uL], fun a _ => ⟨fr 57 a (by omega) (by omega), fun _ => by simp [uL]⟩, b2, fun w hw' => wJ_ext (a2 w hw') (fun i _ => b3 48 _ (by decide) (by decide) (by decide) (by decide)) rfl rfl⟩, fr⟩
  · rw [hh, a1 xF (xF_lt (by omega))]
    exact b1 xF (xF_lt (by omega))
  · rw [f34 25 (by decide), f34 26 (by decide), f34 27 (by decide), f34 28 (by decide), f34 29 (by decide), f34 30 (by decide), f34 31 (by decide), f34 40 (by decide)]
    exact z
end RNW

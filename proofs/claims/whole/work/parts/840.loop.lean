/-! the law, of functions alone -/
theorem lw_lt {sL l : Nat} (hs : sL ≤ 384) (hl : l ≤ 390) : nI sL - 6 < jN l ↔ sL < l + 6 := by
  have e1 : (nI sL).toInt = sL := jN_toInt (k := sL) (by omega)
  have e6 : (6 : Int32).toInt = 6 := by decide
  rw [it_lt, it_sub (by rw [e1, e6]; omega) (by rw [e1, e6]; omega), e1, e6, jN_toInt (by omega)]
  omega
theorem lw_in {sL l i : Nat} (hs : sL ≤ 384) (hl : l + i < sL) : 0 ≤ jN l + jN i ∧ jN l + jN i < nI sL := by
  rw [jN_add]
  exact jN_in (n := sL) hl (by omega)
/-- what the law's loop comes to -/
def LWR (sL : Nat) (xs : Nat → Int32) (N : Nat) (l3 : Int32) (S : List xSh) (Rf : Nat → Nat → Option Nat) (I : Nat → Nat → Int32) (L : Nat → Nat → Int64) : Prop := ∃ q, f_Law_law_L18 sL xs N l3 S Rf I L = some q ∧ q.1 = 1 ∧ q.2.1 = xSl
set_option maxHeartbeats 4000000 in
set_option maxRecDepth 100000 in
theorem law_step {sL k N : Nat} {xs : Nat → Int32} {S : List xSh} {Rf : Nat → Nat → Option Nat} {I : Nat → Nat → Int32} {L : Nat → Nat → Int64} (hs : sL ≤ 384) (hk : 6 * k + 6 ≤ sL) (h : INV k S Rf I L) (go : ∀ S Rf I L, INV (k + 1) S Rf I L → LWR sL xs N (jN (6 * k) + 6) S Rf I L) : LWR sL xs (N + 1) (jN (6 * k)) S Rf I L := by
  have c1 : ¬ nI sL - 6 < jN (6 * k) := fun q => by have := (lw_lt hs (by omega)).mp q; omega
  have g0 : 0 ≤ jN (6 * k) ∧ jN (6 * k) < nI sL := jN_in (n := sL) (by omega) (by omega)
  have g1 : 0 ≤ jN (6 * k) + 1 ∧ jN (6 * k) + 1 < nI sL := lw_in (i := 1) hs (by omega)
  have g2 : 0 ≤ jN (6 * k) + 2 ∧ jN (6 * k) + 2 < nI sL := lw_in (i := 2) hs (by omega)
  have g3 : 0 ≤ jN (6 * k) + 3 ∧ jN (6 * k) + 3 < nI sL := lw_in (i := 3) hs (by omega)
  have g4 : 0 ≤ jN (6 * k) + 4 ∧ jN (6 * k) + 4 < nI sL := lw_in (i := 4) hs (by omega)
  have g5 : 0 ≤ jN (6 * k) + 5 ∧ jN (6 * k) + 5 < nI sL := lw_in (i := 5) hs (by omega)
  unfold LWR at go ⊢
  rw [f_Law_law_L18, if_neg c1, if_pos g0]
  generalize xs (Int32.toNatClampNeg (jN (6 * k))) &&& 63 = x3
  simp only [bnd, if_pos g1, if_pos g2, if_pos g3, if_pos g4, if_pos g5]
  generalize xs (Int32.toNatClampNeg (jN (6 * k) + 1)) = a1
  generalize xs (Int32.toNatClampNeg (jN (6 * k) + 2)) = a2
  generalize xs (Int32.toNatClampNeg (jN (6 * k) + 3)) = a3
  generalize xs (Int32.toNatClampNeg (jN (6 * k) + 4)) = a4
  generalize xs (Int32.toNatClampNeg (jN (6 * k) + 5)) = a5
  by_cases c0 : x3 = 0
  · obtain ⟨q, e1, q2, e2, e3, e4⟩ := iv_build  h
    rw [if_pos c0, e1, Option.bind_some, e2, Option.bind_some, if_pos e3]
    exact go _ _ _ _ e4
  rw [if_neg c0]
  by_cases c1 : x3 = 1
  · obtain ⟨q, e1, q2, e2, e3, e4⟩ := iv_arbor  h
    rw [if_pos c1, e1, Option.bind_some, e2, Option.bind_some, if_pos e3]
    exact go _ _ _ _ e4
  rw [if_neg c1]
  by_cases c2 : x3 = 2
  · obtain ⟨q, e1, q2, e2, e3, e4⟩ := iv_mesh (a0 := a1) (a1 := a2) (a2 := a3) (a3 := a4) (a4 := a5) h
    rw [if_pos c2, e1, Option.bind_some, e2, Option.bind_some, if_pos e3]
    exact go _ _ _ _ e4
  rw [if_neg c2]
  by_cases c3 : x3 = 3
  · obtain ⟨q, e1, q2, e2, e3, e4⟩ := iv_epicycle (a0 := a1) (a1 := a2) (a2 := a3) (a3 := a4) (a4 := a5) h
    rw [if_pos c3, e1, Option.bind_some, e2, Option.bind_some, if_pos e3]
    exact go _ _ _ _ e4
  rw [if_neg c3]
  by_cases c4 : x3 = 4
  · obtain ⟨q, e1, q2, e2, e3, e4⟩ := iv_escape (a0 := a1) (a1 := a2) h
    rw [if_pos c4, e1, Option.bind_some, e2, Option.bind_some, if_pos e3]
    exact go _ _ _ _ e4
  rw [if_neg c4]
  by_cases c5 : x3 = 5
  · obtain ⟨q, e1, q2, e2, e3, e4⟩ := iv_balance (a0 := a1) (a1 := a2) (a2 := a3) (a3 := a4) h
    rw [if_pos c5, e1, Option.bind_some, e2, Option.bind_some, if_pos e3]
    exact go _ _ _ _ e4
  rw [if_neg c5]
  by_cases c6 : x3 = 6
  · obtain ⟨q, e1, q2, e2, e3, e4⟩ := iv_barrel (a0 := a1) h
    rw [if_pos c6, e1, Option.bind_some, e2, Option.bind_some, if_pos e3]
    exact go _ _ _ _ e4
  rw [if_neg c6]
  by_cases c7 : x3 = 7
  · obtain ⟨q, e1, q2, e2, e3, e4⟩ := iv_torque (a0 := a1) (a1 := a2) h
    rw [if_pos c7, e1, Option.bind_some, e2, Option.bind_some, if_pos e3]
    exact go _ _ _ _ e4
  rw [if_neg c7]
  by_cases c8 : x3 = 8
  · obtain ⟨q, e1, q2, e2, e3, e4⟩ := iv_dial (a0 := a1) (a1 := a2) h
    rw [if_pos c8, e1, Option.bind_some, e2, Option.bind_some, if_pos e3]
    exact go _ _ _ _ e4
  rw [if_neg c8]
  by_cases c9 : x3 = 9
  · obtain ⟨q, e1, q2, e2, e3, e4⟩ := iv_calendar (a0 := a1) (a1 := a2) (a2 := a3) (a3 := a4) (a4 := a5) h
    rw [if_pos c9, e1, Option.bind_some, e2, Option.bind_some, if_pos e3]
    exact go _ _ _ _ e4
  rw [if_neg c9]
  by_cases c10 : x3 = 10
  · obtain ⟨q, e1, q2, e2, e3, e4⟩ := iv_strike (a0 := a1) (a1 := a2) h
    rw [if_pos c10, e1, Option.bind_some, e2, Option.bind_some, if_pos e3]
    exact go _ _ _ _ e4
  rw [if_neg c10]
  by_cases c11 : x3 = 11
  · obtain ⟨q, e1, q2, e2, e3, e4⟩ := iv_chronograph (a0 := a1) h
    rw [if_pos c11, e1, Option.bind_some, e2, Option.bind_some, if_pos e3]
    exact go _ _ _ _ e4
  rw [if_neg c11]
  by_cases c12 : x3 = 12
  · obtain ⟨q, e1, q2, e2, e3, e4⟩ := iv_go  h
    rw [if_pos c12, e1, Option.bind_some, e2, Option.bind_some, if_pos e3]
    exact go _ _ _ _ e4
  rw [if_neg c12]
  by_cases c13 : x3 = 13
  · obtain ⟨q, e1, q2, e2, e3, e4⟩ := iv_run (a0 := a1) h
    rw [if_pos c13, e1, Option.bind_some, e2, Option.bind_some, if_pos e3]
    exact go _ _ _ _ e4
  rw [if_neg c13]
  by_cases c14 : x3 = 14
  · obtain ⟨q, e1, q2, e2, e3, e4⟩ := iv_shock (a0 := a1) h
    rw [if_pos c14, e1, Option.bind_some, e2, Option.bind_some, if_pos e3]
    exact go _ _ _ _ e4
  rw [if_neg c14]
  by_cases c15 : x3 = 15
  · obtain ⟨q, e1, q2, e2, e3, e4⟩ := iv_wind (a0 := a1) h
    rw [if_pos c15, e1, Option.bind_some, e2, Option.bind_some, if_pos e3]
    exact go _ _ _ _ e4
  rw [if_neg c15]
  by_cases c16 : x3 = 16
  · obtain ⟨q, e1, q2, e2, e3, e4⟩ := iv_press (a0 := a1) (a1 := a2) h
    rw [if_pos c16, e1, Option.bind_some, e2, Option.bind_some, if_pos e3]
    exact go _ _ _ _ e4
  rw [if_neg c16]
  by_cases c17 : x3 = 17
  · obtain ⟨q, e1, q2, e2, e3, e4⟩ := iv_correct (a0 := a1) (a1 := a2) (a2 := a3) h
    rw [if_pos c17, e1, Option.bind_some, e2, Option.bind_some, if_pos e3]
    exact go _ _ _ _ e4
  rw [if_neg c17]
  by_cases c18 : x3 = 18
  · obtain ⟨q, e1, q2, e2, e3, e4⟩ := iv_trip (a0 := a1) h
    rw [if_pos c18, e1, Option.bind_some, e2, Option.bind_some, if_pos e3]
    exact go _ _ _ _ e4
  rw [if_neg c18]
  by_cases c19 : x3 = 19
  · obtain ⟨q, e1, q2, e2, e3, e4⟩ := iv_back (a0 := a1) h
    rw [if_pos c19, e1, Option.bind_some, e2, Option.bind_some, if_pos e3]
    exact go _ _ _ _ e4
  rw [if_neg c19]
  by_cases c20 : x3 = 20
  · obtain ⟨q, e1, q2, e2, e3, e4⟩ := iv_speed (a0 := a1) (a1 := a2) h
    rw [if_pos c20, e1, Option.bind_some, e2, Option.bind_some, if_pos e3]
    exact go _ _ _ _ e4
  rw [if_neg c20]
  by_cases c21 : x3 = 21
  · obtain ⟨q, e1, q2, e2, e3, e4⟩ := iv_state (a0 := a1) h
    rw [if_pos c21, e1, Option.bind_some, e2, Option.bind_some, if_pos e3]
    exact go _ _ _ _ e4
  rw [if_neg c21]
  by_cases c22 : x3 = 22
  · obtain ⟨v, e1, e2⟩ := op_tick (a0 := a1) (a1 := a2) h.2
    rw [if_pos c22, e1, Option.bind_some, e2, Option.bind_some, if_pos rfl]
    exact go _ _ _ _ (INV_mono h)
  rw [if_neg c22]
  by_cases c23 : x3 = 23
  · obtain ⟨q, e1, q2, e2, e3, e4⟩ := iv_shows (a0 := a1) (a1 := a2) h
    rw [if_pos c23, e1, Option.bind_some, e2, Option.bind_some, if_pos e3]
    exact go _ _ _ _ e4
  rw [if_neg c23]
  by_cases c24 : x3 = 24
  · obtain ⟨v, e1, e2⟩ := op_struck (a0 := a1) (a1 := a2) h.2
    rw [if_pos c24, e1, Option.bind_some, e2, Option.bind_some, if_pos rfl]
    exact go _ _ _ _ (INV_mono h)
  rw [if_neg c24]
  by_cases c25 : x3 = 25
  · obtain ⟨v, e1, e2⟩ := op_hand (a0 := a1) (a1 := a2) h.2
    rw [if_pos c25, e1, Option.bind_some, e2, Option.bind_some, if_pos rfl]
    exact go _ _ _ _ (INV_mono h)
  rw [if_neg c25]
  by_cases c26 : x3 = 26
  · rw [if_pos c26, if_pos (op_count h.2)]
    exact go _ _ _ _ (INV_mono h)
  rw [if_neg c26]
  by_cases c27 : x3 = 27
  · obtain ⟨q, e1, q2, e2, e3, e4⟩ := iv_teeth (a0 := a1) (a1 := a2) (a2 := a3) h
    rw [if_pos c27, e1, Option.bind_some, e2, Option.bind_some, if_pos e3]
    exact go _ _ _ _ e4
  rw [if_neg c27]
  by_cases c28 : x3 = 28
  · obtain ⟨q, e1, q2, e2, e3, e4⟩ := iv_search (a0 := a1) (a1 := a2) (a2 := a3) h
    rw [if_pos c28, e1, Option.bind_some, e2, Option.bind_some, if_pos e3]
    exact go _ _ _ _ e4
  rw [if_neg c28]
  by_cases c29 : x3 = 29
  · obtain ⟨q, e1, q2, e2, e3⟩ := op_train (a0 := a1) (a1 := a2) (L := L) h.1.2.2.2
    rw [if_pos c29, e1, Option.bind_some, e2, Option.bind_some, if_pos e3]
    exact go _ _ _ _ (INV_mono h)
  rw [if_neg c29]
  by_cases c30 : x3 = 30
  · rw [if_pos c30, if_pos (op_error h.1.2.2.2)]
    exact go _ _ _ _ (INV_mono h)
  rw [if_neg c30]
  by_cases c31 : x3 = 31
  · obtain ⟨q, e1, q2, e2, e3, e4⟩ := iv_chain  h
    rw [if_pos c31, e1, Option.bind_some, e2, Option.bind_some, if_pos e3]
    exact go _ _ _ _ e4
  rw [if_neg c31]
  by_cases c32 : x3 = 32
  · obtain ⟨q, e1, q2, e2, e3, e4⟩ := iv_size (a0 := a1) (a1 := a2) (a2 := a3) (a3 := a4) h
    rw [if_pos c32, e1, Option.bind_some, e2, Option.bind_some, if_pos e3]
    exact go _ _ _ _ e4
  rw [if_neg c32]
  by_cases c33 : x3 = 33
  · obtain ⟨q, e1, q2, e2, e3⟩ := op_limit (a0 := a1) (L := L) h.1.2.2.1
    rw [if_pos c33, e1, Option.bind_some, e2, Option.bind_some, if_pos e3]
    exact go _ _ _ _ (INV_mono h)
  rw [if_neg c33]
  by_cases c34 : x3 = 34
  · obtain ⟨q, e1, q2, e2, e3, e4⟩ := iv_ways (a0 := a1) (a1 := a2) h
    rw [if_pos c34, e1, Option.bind_some, e2, Option.bind_some, if_pos e3]
    exact go _ _ _ _ e4
  rw [if_neg c34]
  by_cases c35 : x3 = 35
  · obtain ⟨q, e1, q2, e2, e3, e4⟩ := iv_rate (a0 := a1) (a1 := a2) h
    rw [if_pos c35, e1, Option.bind_some, e2, Option.bind_some, if_pos e3]
    exact go _ _ _ _ e4
  rw [if_neg c35]
  by_cases c36 : x3 = 36
  · obtain ⟨q, e1, q2, e2, e3⟩ := op_verdict (a0 := a1) (L := L) h.1.1
    rw [if_pos c36, e1, Option.bind_some, e2, Option.bind_some, if_pos e3]
    exact go _ _ _ _ (INV_mono h)
  rw [if_neg c36]
  by_cases c37 : x3 = 37
  · obtain ⟨q, e1, q2, e2, e3, e4⟩ := iv_change (a0 := a1) (a1 := a2) (a2 := a3) h
    rw [if_pos c37, e1, Option.bind_some, e2, Option.bind_some, if_pos e3]
    exact go _ _ _ _ e4
  rw [if_neg c37]
  by_cases c38 : x3 = 38
  · obtain ⟨q, e1, q2, e2, e3, e4⟩ := iv_merge (a0 := a1) h
    rw [if_pos c38, e1, Option.bind_some, e2, Option.bind_some, if_pos e3]
    exact go _ _ _ _ e4
  rw [if_neg c38]
  by_cases c39 : x3 = 39
  · obtain ⟨q, e1, q2, e2, e3⟩ := op_conflict (a0 := a1) (a1 := a2) (L := L) h.1.2.1
    rw [if_pos c39, e1, Option.bind_some, e2, Option.bind_some, if_pos e3]
    exact go _ _ _ _ (INV_mono h)
  rw [if_neg c39]
  by_cases c40 : x3 = 40
  · obtain ⟨q, e1, q2, e2, e3, e4⟩ := iv_settle (a0 := a1) (a1 := a2) (a2 := a3) h
    rw [if_pos c40, e1, Option.bind_some, e2, Option.bind_some, if_pos e3]
    exact go _ _ _ _ e4
  rw [if_neg c40]
  by_cases c41 : x3 = 41
  · obtain ⟨q, e1, q2, e2, e3⟩ := op_setting (a0 := a1) (a1 := a2) (L := L) h.1.2.1
    rw [if_pos c41, e1, Option.bind_some, e2, Option.bind_some, if_pos e3]
    exact go _ _ _ _ (INV_mono h)
  rw [if_neg c41]
  by_cases c42 : x3 = 42
  · obtain ⟨q, e1, q2, e2, e3⟩ := op_version (a0 := a1) (L := L) h.1.2.1
    rw [if_pos c42, e1, Option.bind_some, e2, Option.bind_some, if_pos e3]
    exact go _ _ _ _ (INV_mono h)
  rw [if_neg c42]
  by_cases c43 : x3 = 43
  · obtain ⟨q2, e2, e3⟩ := op_never (a0 := a1) (L := L) (show ivN I from h.2.2.1)
    rw [if_pos c43, e2, Option.bind_some, if_pos e3]
    exact go _ _ _ _ (INV_mono h)
  rw [if_neg c43]
  exact go _ _ _ _ (INV_mono h)
theorem law_go {sL : Nat} {xs : Nat → Int32} (hs : sL ≤ 384) : ∀ (m k : Nat) (S : List xSh) (Rf : Nat → Nat → Option Nat) (I : Nat → Nat → Int32) (L : Nat → Nat → Int64), INV k S Rf I L → k ≤ 64 → sL < 6 * k + 6 * m + 6 → ∀ N, m < N → LWR sL xs N (jN (6 * k)) S Rf I L := by
  have fin : ∀ (k N : Nat) (S : List xSh) (Rf : Nat → Nat → Option Nat) (I : Nat → Nat → Int32) (L : Nat → Nat → Int64), INV k S Rf I L → k ≤ 64 → sL < 6 * k + 6 → LWR sL xs (N + 1) (jN (6 * k)) S Rf I L := by
    intro k N S Rf I L h hk hl
    have c1 : nI sL - 6 < jN (6 * k) := (lw_lt hs (by omega)).mpr hl
    exact ⟨(1, S, I, L, Rf), by rw [f_Law_law_L18, if_pos c1], rfl, h.2.1.1⟩
  intro m
  induction m with
  | zero =>
    intro k S Rf I L h hk hl N hN
    obtain ⟨N, rfl⟩ : ∃ k, N = k + 1 := ⟨N - 1, by omega⟩
    exact fin k N S Rf I L h hk (by omega)
  | succ m ih =>
    intro k S Rf I L h hk hl N hN
    obtain ⟨N, rfl⟩ : ∃ k, N = k + 1 := ⟨N - 1, by omega⟩
    by_cases c : sL < 6 * k + 6
    · exact fin k N S Rf I L h hk c
    · refine law_step hs (by omega) h (fun S' Rf' I' L' h' => ?_)
      have e : jN (6 * k) + 6 = jN (6 * (k + 1)) := by
        have := jN_add (6 * k) 6
        rw [show (6 : Int32) = jN 6 from rfl, this]
        rfl
      rw [e]
      exact ih (k + 1) S' Rf' I' L' h' (by omega) (by omega) N (by omega)

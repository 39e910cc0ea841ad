/-! the movement's gears: rounds until nothing is told -/
def GS (I J : Nat → Nat → Int32) (L K : Nat → Nat → Int64) (A0 A nl : Nat) : Prop := (I 2 0 = jN A0 ∧ A0 ≤ A ∧ A ≤ 24 ∧ I 2 1 = jN nl ∧ nl ≤ 40 ∧ J 34 0 = jN A ∧ J 34 1 = jN nl) ∧ (∀ l, l < nl → LK I J A0 l) ∧ ∀ a, a < A → sk L J K a
/-- how many are not known -/
def cU (L : Nat → Nat → Int64) : Nat → Nat
  | 0 => 0
  | n + 1 => cU L n + if L 4 n = 0 then 1 else 0
theorem cU_le (L : Nat → Nat → Int64) : ∀ n, cU L n ≤ n := by
  intro n
  induction n with
  | zero => exact Nat.le_refl _
  | succ n ih => rw [cU]; split <;> omega
theorem cU_eq {L L' : Nat → Nat → Int64} (h : ∀ a, L' 4 a = L 4 a) : ∀ n, cU L' n = cU L n := by
  intro n
  induction n with
  | zero => rfl
  | succ n ih => rw [cU, cU, ih, h]
theorem cU_lt {L L' : Nat → Nat → Int64} {a : Nat} (h1 : L 4 a = 0) (h2 : ¬ L' 4 a = 0) (h : ∀ b, b ≠ a → L' 4 b = L 4 b) : ∀ n, cU L' n + (if a < n then 1 else 0) = cU L n := by
  intro n
  induction n with
  | zero => rfl
  | succ n ih =>
    rw [cU, cU]
    by_cases e : n = a
    · subst e
      have e1 : (if n < n + 1 then 1 else 0 : Nat) = 1 := if_pos (by omega)
      rw [if_neg h2, if_pos h1, e1]
      rw [if_neg (by omega)] at ih
      omega
    · rw [h n e]
      by_cases c : a < n
      · have e1 : (if a < n + 1 then 1 else 0 : Nat) = 1 := if_pos (by omega)
        rw [if_pos c] at ih
        rw [e1]
        omega
      · have e1 : (if a < n + 1 then 1 else 0 : Nat) = 0 := if_neg (by omega)
        rw [if_neg c] at ih
        rw [e1]
        omega
section GEG
variable {I J : Nat → Nat → Int32} {L K : Nat → Nat → Int64} {l A0 A nl : Nat}
theorem LK_ext {J' : Nat → Nat → Int32} (h : LK I J A0 l) (e : ∀ a j, 35 ≤ a → a ≤ 40 → J' a j = J a j) : LK I J' A0 l := by
  unfold LK at h ⊢
  rw [e 35 l (by decide) (by decide), e 36 l (by decide) (by decide), e 37 l (by decide) (by decide), e 38 l (by decide) (by decide), e 39 l (by decide) (by decide), e 40 l (by decide) (by decide)]
  exact h
theorem gs_same {L' K' : Nat → Nat → Int64} (h : GS I J L K A0 A nl) (e1 : ∀ a, L' 3 a = L 3 a ∧ L' 4 a = L 4 a) (e2 : ∀ a, K' 58 a = K 58 a ∧ K' 59 a = K 59 a) : GS I J L' K' A0 A nl := by
  refine ⟨h.1, h.2.1, fun a ha => ?_⟩
  have := h.2.2 a ha
  unfold sk at this ⊢
  rw [(e1 a).1, (e1 a).2, (e2 a).1, (e2 a).2]
  exact this
theorem abs_le {x : Int64} (h : bd x 4611686018427387904) (c : ¬ (10000000 : Int64) < Jabs x) : bd x 10000000 := by
  have e : (10000000 : Int64).toInt = 10000000 := by decide
  unfold bd at *
  have := lg_abs (x := x) (by omega)
  by_cases d : 10000000 < (x.toInt.natAbs : Int)
  · exact absurd (lg_lt.mpr (by rw [e, this]; exact d)) c
  · omega
theorem ls (h : GS I J L K A0 A nl) (hl : l < nl) (t : Int32) : ∃ t' L' J' K', (∀ N, f_Ge_tellRound_L4 (N + 1) t (jN l) I L = f_Ge_tellRound_L4 N t' (jN (l + 1)) I L') ∧ (∀ k51 N, f_Md_speeds_L59 k51 (N + 1) t (jN l) J K = f_Md_speeds_L59 k51 N t' (jN (l + 1)) J' K') ∧ GS I J' L' K' A0 A nl ∧ ((t' = t ∧ cU L' 24 = cU L 24) ∨ (t' = 1 ∧ cU L' 24 < cU L 24)) := by
  obtain ⟨⟨g1, g2, g3, g4, g5, g6, g7⟩, g8, g9⟩ := id h
  obtain ⟨many, arb, pl⟩ := lk_pl (L := L) (K := K) g1 (by omega) (by omega) (g8 l hl)
  obtain ⟨h1, h2, h3, h4, h5⟩ := id pl
  have hm : many ≤ 3 := by omega
  have hk : ∀ i, i < many → sk L J K (arb i) := fun i hi => g9 _ (by have := (h2 i hi).1; omega)
  obtain ⟨c, ec, c1, _⟩ := cu_val (L := L) (K := K) g1 (by omega) (by omega) pl
  have d1 : ¬ jN nl ≤ jN l := fun q => by have := (jN_le (by omega) (by omega)).mp q; omega
  have d2 : 0 ≤ jN l ∧ jN l < 40 := jN_in (n := 40) (by omega) (by decide)
  have cls : ∀ N, f_Ge_tellRound_L4 (N + 1) t (jN l) I L = if c = 1 then ((f_Ge_tellBy (jN l) I L).bind fun q6 => (if q6.1 = (0 : Int32) then (f_Ge_tellRound_L4 N t (jN (l + 1)) q6.2.1 q6.2.2) else (f_Ge_tellRound_L4 N (1 : Int32) (jN (l + 1)) q6.2.1 q6.2.2))) else f_Ge_tellRound_L4 N t (jN (l + 1)) I L := by
    intro N
    rw [f_Ge_tellRound_L4, g4, if_neg d1, ec, Option.bind_some, jN_1]
  have ref : ∀ k51 N, f_Md_speeds_L59 k51 (N + 1) t (jN l) J K = f_Md_speeds_L92 k51 (f_Md_speeds_L59 k51 N) xF t (jN l) (jN many) 0 0 0 J K := by
    intro k51 N
    rw [f_Md_speeds_L59, g7, if_neg d1, if_pos d2, jN_tc (by omega)]
    rcases h1 with rfl | rfl
    · rw [if_neg (h3 rfl).2.1]; rfl
    · rw [if_pos (h4 rfl)]; rfl
  by_cases hu : ∃ p, U1 L many arb p
  · obtain ⟨p, up⟩ := hu
    have hc := c1.mpr ⟨p, up⟩
    obtain ⟨x, y, ⟨hy, hx⟩, s1, s2⟩ := h5 p up.1 (fun i hi hn => ⟨hk i hi, up.2.2 i hi hn⟩)
    have tb := tb_val g1 (by omega) (by omega) pl up s1 (x := x) (y := y) (by simp [uL]) (by simp [uL]) hy
    have rf := fun k51 N => r92_yes (k51 := k51) (k59 := f_Md_speeds_L59 k51 N) (t := t) (by omega) pl hk up s2 (x := x) (y := y) (by simp [uL]) (by simp [uL])
    have same : GS I J (uL (uL (uL (uL L 2 10 0) 2 11 0) 2 10 x) 2 11 y) (uL (uL K 34 51 x) 34 52 y) A0 A nl := gs_same h (fun a => by simp [uL]) (fun a => by simp [uL])
    have sameU : cU (uL (uL (uL (uL L 2 10 0) 2 11 0) 2 10 x) 2 11 y) 24 = cU L 24 := cU_eq (fun a => by simp [uL]) 24
    by_cases q1 : (10000000 : Int64) < Jabs x
    · refine ⟨t, (uL (uL (uL (uL L 2 10 0) 2 11 0) 2 10 x) 2 11 y), J, (uL (uL K 34 51 x) 34 52 y), fun N => ?_, fun k51 N => ?_, same, Or.inl ⟨rfl, sameU⟩⟩
      · rw [cls N, if_pos hc, tb, if_pos q1, Option.bind_some, if_pos rfl]
      · rw [ref k51 N, rf k51 N, if_pos q1]
    · by_cases q2 : y ≤ 10000000
      · have q2' : ¬ (10000000 : Int64) < y := Int64.not_lt.mpr q2
        have e7 : (10000000 : Int64).toInt = 10000000 := by decide
        have q3 := lg_le.mp q2
        rw [e7] at q3
        have ap := (h2 p up.1).1
        refine ⟨1, uL (uL (uL (uL (uL (uL L 2 10 0) 2 11 0) 2 10 x) 2 11 y) 3 (arb p) x) 4 (arb p) y, uI J 57 (arb p) 1, uL (uL (uL (uL K 34 51 x) 34 52 y) 58 (arb p) x) 59 (arb p) y, fun N => ?_, fun k51 N => ?_, ?_, Or.inr ⟨rfl, ?_⟩⟩
        · rw [cls N, if_pos hc, tb, if_neg q1, if_pos q2, Option.bind_some, if_neg (show ¬ (1 : Int32) = 0 by decide)]
        · rw [ref k51 N, rf k51 N, if_neg q1, if_neg q2']
        · refine ⟨⟨g1, g2, g3, g4, g5, by simp [uI, g6], by simp [uI, g7]⟩, fun l hl => LK_ext (g8 l hl) (fun a j a1 a2 => by
            have : a ≠ 57 := by omega
            simp [uI, this]), fun a ha => ?_⟩
          by_cases ea : a = arb p
          · subst ea
            right
            refine ⟨by simp [uI], by simp [uL], by simp [uL], ?_, ?_⟩
            · simp [uL]; omega
            · simp [uL]; exact abs_le hx q1
          · have := g9 a ha
            unfold sk at this ⊢
            simp [uI, uL, ea]
            exact this
        · have := cU_lt (L := L) (L' := uL (uL (uL (uL (uL (uL L 2 10 0) 2 11 0) 2 10 x) 2 11 y) 3 (arb p) x) 4 (arb p) y) (a := arb p) up.2.1 (by
            simp [uL]
            intro e
            rw [e, lg_0] at hy
            omega) (fun b hb => by simp [uL, hb]) 24
          rw [if_pos (by omega)] at this
          omega
      · have q2' : (10000000 : Int64) < y := Int64.not_le.mp q2
        refine ⟨t, (uL (uL (uL (uL L 2 10 0) 2 11 0) 2 10 x) 2 11 y), J, (uL (uL K 34 51 x) 34 52 y), fun N => ?_, fun k51 N => ?_, same, Or.inl ⟨rfl, sameU⟩⟩
        · rw [cls N, if_pos hc, tb, if_neg q1, if_neg q2, Option.bind_some, if_pos rfl]
        · rw [ref k51 N, rf k51 N, if_neg q1, if_pos q2']
  · have hc : ¬ c = 1 := fun q => hu (c1.mp q)
    exact ⟨t, L, J, K, fun N => by rw [cls N, if_neg hc], fun k51 N => by rw [ref k51 N, r92_no (by omega) pl hk hu], h, Or.inl ⟨rfl, rfl⟩⟩
theorem rnd : ∀ (m l : Nat) (t : Int32) (J : Nat → Nat → Int32) (L K : Nat → Nat → Int64), l + m = nl → (t = 0 ∨ t = 1) → GS I J L K A0 A nl → ∃ t' L' J' K', (∀ N, m < N → f_Ge_tellRound_L4 N t (jN l) I L = some (t', I, L')) ∧ (∀ k51 N, m < N → f_Md_speeds_L59 k51 N t (jN l) J K = k51 t' J' K') ∧ (t' = 0 ∨ t' = 1) ∧ GS I J' L' K' A0 A nl ∧ ((t' = t ∧ cU L' 24 = cU L 24) ∨ (t' = 1 ∧ cU L' 24 < cU L 24)) := by
  intro m
  induction m with
  | zero =>
    intro l t J L K h1 ht h
    have e : l = nl := by omega
    subst e
    refine ⟨t, L, J, K, fun N hN => ?_, fun k51 N hN => ?_, ht, h, Or.inl ⟨rfl, rfl⟩⟩
    · obtain ⟨N, rfl⟩ : ∃ k, N = k + 1 := ⟨N - 1, by omega⟩
      rw [f_Ge_tellRound_L4, h.1.2.2.2.1, if_pos (Int32.le_refl _), if_pos ht]
    · obtain ⟨N, rfl⟩ : ∃ k, N = k + 1 := ⟨N - 1, by omega⟩
      rw [f_Md_speeds_L59, h.1.2.2.2.2.2.2, if_pos (Int32.le_refl _)]
  | succ m ih =>
    intro l t J L K h1 ht h
    obtain ⟨t1, L1, J1, K1, a1, a2, a3, a4⟩ := ls h (show l < nl by omega) t
    have ht1 : t1 = 0 ∨ t1 = 1 := by
      rcases a4 with q | q
      · rw [q.1]; exact ht
      · exact Or.inr q.1
    obtain ⟨t2, L2, J2, K2, b1, b2, b3, b4, b5⟩ := ih (l + 1) t1 J1 L1 K1 (by omega) ht1 a3
    refine ⟨t2, L2, J2, K2, fun N hN => ?_, fun k51 N hN => ?_, b3, b4, ?_⟩
    · obtain ⟨N, rfl⟩ : ∃ k, N = k + 1 := ⟨N - 1, by omega⟩
      rw [a1 N, b1 N (by omega)]
    · obtain ⟨N, rfl⟩ : ∃ k, N = k + 1 := ⟨N - 1, by omega⟩
      rw [a2 k51 N, b2 k51 N (by omega)]
    · rcases a4 with q | q <;> rcases b5 with r | r
      · exact Or.inl ⟨by rw [r.1, q.1], by omega⟩
      · exact Or.inr ⟨r.1, by omega⟩
      · exact Or.inr ⟨by rw [r.1, q.1], by omega⟩
      · exact Or.inr ⟨r.1, by omega⟩
theorem fx : ∀ (m r N N' : Nat) (J : Nat → Nat → Int32) (L K : Nat → Nat → Int64), cU L 24 ≤ m → cU L 24 + r ≤ 24 → m + 1 < N → m + 1 < N' → GS I J L K A0 A nl → ∃ L' J' K', f_Ge_findSpeeds_L39 N 1 (jN r) I L = f_Ge_findSpeeds_L62 xF 0 I L' ∧ f_Md_speeds_L51 N' 1 J K = some (J', K') ∧ GS I J' L' K' A0 A nl := by
  intro m
  induction m with
  | zero =>
    intro r N N' J L K h1 h2 h3 h4 h
    obtain ⟨N, rfl⟩ : ∃ k, N = k + 1 + 1 := ⟨N - 2, by omega⟩
    obtain ⟨N', rfl⟩ : ∃ k, N' = k + 1 + 1 := ⟨N' - 2, by omega⟩
    obtain ⟨t, L', J', K', b1, b2, b3, b4, b5⟩ := rnd nl 0 0 J L K (by omega) (Or.inl rfl) h
    have hn : nl < xF := xF_lt (by have := h.1.2.2.2.2.1; omega)
    have t0 : t = 0 := by
      rcases b5 with q | q
      · exact q.1
      · omega
    refine ⟨L', J', K', ?_, ?_, b4⟩
    · have c1 : ¬ (24 : Int32) < jN r := fun q => by have := (jN_lt (a := 24) (by decide) (by omega)).mp q; omega
      have e : f_Ge_tellRound I L = some (t, I, L') := b1 xF hn
      rw [f_Ge_findSpeeds_L39, if_neg (by decide), if_neg c1, e, Option.bind_some, f_Ge_findSpeeds_L39, if_pos t0]
    · have e : f_Md_speeds_L59 (f_Md_speeds_L51 (N' + 1)) xF 0 0 J K = f_Md_speeds_L51 (N' + 1) t J' K' := b2 _ xF hn
      rw [f_Md_speeds_L51, if_neg (by decide), e, f_Md_speeds_L51, if_pos t0]
  | succ m ih =>
    intro r N N' J L K h1 h2 h3 h4 h
    obtain ⟨N, rfl⟩ : ∃ k, N = k + 1 := ⟨N - 1, by omega⟩
    obtain ⟨N', rfl⟩ : ∃ k, N' = k + 1 := ⟨N' - 1, by omega⟩
    obtain ⟨t, L', J', K', b1, b2, b3, b4, b5⟩ := rnd nl 0 0 J L K (by omega) (Or.inl rfl) h
    have hn : nl < xF := xF_lt (by have := h.1.2.2.2.2.1; omega)
    have c1 : ¬ (24 : Int32) < jN r := fun q => by have := (jN_lt (a := 24) (by decide) (by omega)).mp q; omega
    have e : f_Ge_tellRound I L = some (t, I, L') := b1 xF hn
    have e' : f_Md_speeds_L59 (f_Md_speeds_L51 N') xF 0 0 J K = f_Md_speeds_L51 N' t J' K' := b2 _ xF hn
    rw [f_Ge_findSpeeds_L39, if_neg (by decide), if_neg c1, e, Option.bind_some, f_Md_speeds_L51, if_neg (by decide), e', jN_1]
    rcases b5 with q | q
    · obtain ⟨N, rfl⟩ : ∃ k, N = k + 1 := ⟨N - 1, by omega⟩
      obtain ⟨N', rfl⟩ : ∃ k, N' = k + 1 := ⟨N' - 1, by omega⟩
      exact ⟨L', J', K', by rw [f_Ge_findSpeeds_L39, if_pos q.1], by rw [f_Md_speeds_L51, if_pos q.1], b4⟩
    · rw [q.1]
      exact ih (r + 1) N N' J' L' K' (by omega) (by omega) (by omega) (by omega) b4
end GEG

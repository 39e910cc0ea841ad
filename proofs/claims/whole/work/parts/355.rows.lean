/-! the movement: rows of the book: run, shock, wind -/
def BKOK (J : Nat → Nat → Int32) : Prop := J 34 43 = 0 → ∃ r, r < 2000 ∧ J 34 42 = jN r
/-- a row written -/
def WRT (q0 q1 q2 q3 : Int32) (J J' : Nat → Nat → Int32) : Prop := (∀ a j, a ≠ 55 → ¬ (a = 34 ∧ j = 42) → J' a j = J a j) ∧ (¬ J 34 43 = 0 → J' = J) ∧ (J 34 43 = 0 → ∀ r, r < 2000 → J 34 42 = jN r → J' 34 42 = jN (r + 1) ∧ (J' 55 (4 * r) = q0 ∧ J' 55 (4 * r + 1) = q1 ∧ J' 55 (4 * r + 2) = q2 ∧ J' 55 (4 * r + 3) = q3) ∧ ∀ j, j < 4 * r → J' 55 j = J 55 j)
theorem wr_ok {J : Nat → Nat → Int32} {K : Nat → Nat → Int64} (q0 q1 q2 q3 : Int32) (h : BKOK J) : ∃ J', f_Md_write q0 q1 q2 q3 J K = some (J', K) ∧ WRT q0 q1 q2 q3 J J' := by
  by_cases z : J 34 43 = 0
  · obtain ⟨r, r1, r2⟩ := h z
    have e0 : 4 * jN r = jN (4 * r) := jN_mul 4 r
    have e1 : jN (4 * r) + 1 = jN (4 * r + 1) := jN_add _ 1
    have e2 : jN (4 * r) + 2 = jN (4 * r + 2) := jN_add _ 2
    have e3 : jN (4 * r) + 3 = jN (4 * r + 3) := jN_add _ 3
    have c0 : 0 ≤ jN (4 * r) ∧ jN (4 * r) < 8000 := jN_in (n := 8000) (by omega) (by decide)
    have c1 : 0 ≤ jN (4 * r + 1) ∧ jN (4 * r + 1) < 8000 := jN_in (n := 8000) (by omega) (by decide)
    have c2 : 0 ≤ jN (4 * r + 2) ∧ jN (4 * r + 2) < 8000 := jN_in (n := 8000) (by omega) (by decide)
    have c3 : 0 ≤ jN (4 * r + 3) ∧ jN (4 * r + 3) < 8000 := jN_in (n := 8000) (by omega) (by decide)
    refine ⟨uI (uI (uI (uI (uI J 55 (4 * r) q0) 55 (4 * r + 1) q1) 55 (4 * r + 2) q2) 55 (4 * r + 3) q3) 34 42 (jN (r + 1)), ?_, fun a j h1 h2 => ?_, fun q => absurd z q, fun _ r' hr' hj => ?_⟩
    · rw [f_Md_write, if_pos z, r2, e0, e1, e2, e3, if_pos c0, if_pos c1, if_pos c2, if_pos c3, jN_1, jN_tc (by omega), jN_tc (by omega), jN_tc (by omega), jN_tc (by omega)]
    · simp only [uI]
      rw [if_neg h2, if_neg (fun q => h1 q.1), if_neg (fun q => h1 q.1), if_neg (fun q => h1 q.1), if_neg (fun q => h1 q.1)]
    · rw [r2] at hj
      have e : r' = r := ((jN_inj (by omega) (by omega)).mp hj).symm
      subst e
      refine ⟨by simp [uI], ⟨by simp [uI], by simp [uI], by simp [uI], by simp [uI]⟩, fun j hj' => ?_⟩
      have n0 : j ≠ 4 * r' := by omega
      have n1 : j ≠ 4 * r' + 1 := by omega
      have n2 : j ≠ 4 * r' + 2 := by omega
      have n3 : j ≠ 4 * r' + 3 := by omega
      simp [uI, n0, n1, n2, n3]
  · exact ⟨J, by rw [f_Md_write, if_neg z], fun _ _ _ _ => rfl, fun _ => rfl, fun q => absurd q z⟩
theorem bf_0 {J : Nat → Nat → Int32} {K : Nat → Nat → Int64} (h : BKOK J) : f_Md_isBookFull J K = 0 := by
  rw [f_Md_isBookFull]
  by_cases c : J 34 42 = 2000
  · rw [if_pos c]
    by_cases z : J 34 43 = 0
    · obtain ⟨r, r1, r2⟩ := h z
      rw [r2] at c
      have := (jN_inj (b := 2000) (by omega) (by decide)).mp c
      omega
    · rw [if_neg z]
  · rw [if_neg c]
theorem BK_2 {J J' : Nat → Nat → Int32} (h : BKOK J) (f : FJ2 J J') : BKOK J' := by
  intro z
  rw [f 34 43 (by decide) (by decide) (by decide) (by decide) (by decide) (by decide) (by decide) (by simp)] at z
  rw [f 34 42 (by decide) (by decide) (by decide) (by decide) (by decide) (by decide) (by decide) (by simp)]
  exact h z
/-- a row carried out by the class (x) and by the reference (y) -/
def CR (S : List xSh) (Rf : Nat → Nat → Option Nat) (A T nc nw : Nat) (pc pw : Nat → Nat) (rr : Nat) (x y : Option (Int32 × (Nat → Nat → Int32) × (Nat → Nat → Int64))) (q0 q1 q2 q3 : Int32) (I J : Nat → Nat → Int32) (L K : Nat → Nat → Int64) : Prop := ∃ v n' s' I' J' J'' L' K', x = some (v, I', L') ∧ y = some (v, J'', K') ∧ WRT q0 q1 q2 q3 J' J'' ∧ MV S Rf A T nc nw pc pw (rr + 1) n' s' I' J' L' K' ∧ FI2 I I' ∧ FJ2 J J' ∧ (∀ a j, ¬ (a = 1 ∧ j = 7) → L' a j = L a j) ∧ ∀ a j, ¬ (a = 34 ∧ j = 32) → K' a j = K a j
section COR
variable {S : List xSh} {Rf : Nat → Nat → Option Nat} {I J : Nat → Nat → Int32} {L K : Nat → Nat → Int64} {A T nc nw rr n s : Nat} {pc pw : Nat → Nat}
theorem MV_rr (h : MV S Rf A T nc nw pc pw rr n s I J L K) : MV S Rf A T nc nw pc pw (rr + 1) n s I J L K := by
  obtain ⟨h1, h2, h3, h4, h5, h6, h7, h8, h9, h10⟩ := h
  exact ⟨h1, h2, h3, h4, h5, h6, h7, h8, STK_w h9 (by omega), h10⟩
theorem cr_run {q : Nat} (h : MV S Rf A T nc nw pc pw rr n s I J L K) (hr : rr ≤ 2000) (hg : ¬ J 34 24 = 0) (hb : BKOK J) (hq : q ≤ 20000) (hs : s + q ≤ 200000) : CR S Rf A T nc nw pc pw rr (f_H_takeSteps S Rf (jN q) I L) (f_Md_run (jN q) J K) 0 (jN q) 0 0 I J L K := by
  obtain ⟨n', I', J', a1, a2, a3, a4, a5, a6⟩ := steps_go (L := L) (K := K) hr hq (jN n) q 0 n s 0 I J (by omega) hs h
  obtain ⟨J'', w1, w2⟩ := wr_ok (K := K) 0 (jN q) 0 0 (BK_2 hb a6)
  refine ⟨jN (n' - n), n', s + q, I', J', J'', L, K, ?_, ?_, w2, MV_rr a4, a5, a6, fun _ _ _ => rfl, fun _ _ _ => rfl⟩
  · rw [f_H_takeSteps, h.1.2.1.1]
    have := a1 xF (xF_lt (by omega))
    rw [jN_sub a3] at this
    exact this
  · have e : f_Md_within (jN q).toInt64 0 20000 = f_H_isWithin (jN q) 0 20000 := w_eq rfl rfl
    have w : ¬ f_H_isWithin (jN q) 0 20000 = 0 := wi_ne.mpr ⟨jN_ge0 (by omega), (jN_le (b := 20000) (by omega) (by decide)).mpr hq⟩
    have e2 : J 34 26 + jN q = jN (s + q) := by rw [h.1.2.2.1.2, jN_add]
    have c : ¬ (200000 : Int32) < jN (s + q) := fun z => by have := (jN_lt (a := 200000) (by decide) (by omega)).mp z; omega
    rw [f_Md_run, e]
    simp only [bnd]
    rw [if_neg w, if_neg hg, e2, if_neg c, if_pos (bf_0 hb)]
    have := a2 xF (xF_lt (by omega))
    rw [w1, Option.bind_some, Nat.zero_add] at this
    exact this
theorem cr_shock {a0 : Int32} (h : MV S Rf A T nc nw pc pw rr n s I J L K) (hg : ¬ J 34 24 = 0) (hb : BKOK J) (hq : -1000000 ≤ a0 ∧ a0 ≤ 1000000) : CR S Rf A T nc nw pc pw rr (f_Es_push a0 I L) (f_Md_shock a0 J K) 1 a0 0 0 I J L K := by
  obtain ⟨h1, h2, h3, h4, h5, h6, h7, h8, h9, h10⟩ := h
  obtain ⟨⟨a1, a2⟩, ⟨b1, b2, b3⟩, ⟨c1, c2⟩, ⟨d1, d2, d3⟩, ⟨e1, e2, e3⟩, ⟨f1, f2⟩, g1, g2, ⟨k1, k2⟩, k3⟩ := id h1
  have vb := hv_bd ((I 1 9).toInt64 + a0.toInt64)
  have fJ : FJ2 J (uI J 34 28 (f_Es_held ((I 1 9).toInt64 + a0.toInt64))) := fun a j _ _ _ _ _ _ _ z => by
    simp only [uI]
    rw [if_neg (fun q => z ⟨q.1, by omega⟩)]
  obtain ⟨J'', w1, w2⟩ := wr_ok (K := K) 1 a0 0 0 (BK_2 hb fJ)
  have hx : f_Es_push a0 I L = some (f_Es_held ((I 1 9).toInt64 + a0.toInt64), uI I 1 9 (f_Es_held ((I 1 9).toInt64 + a0.toInt64)), L) := rfl
  have hy : f_Md_shock a0 J K = some (J'' 34 28, J'', K) := by
    have e : f_Md_within a0.toInt64 (-1000000) 1000000 = f_H_isWithin a0 (-1000000) 1000000 := w_eq rfl rfl
    rw [f_Md_shock, e]
    simp only [bnd]
    rw [if_neg (wi_ne.mpr hq), if_neg hg, if_pos (bf_0 hb), sV, Option.bind_some, ← e1]
    simp only []
    rw [w1, Option.bind_some]
  have hv : J'' 34 28 = f_Es_held ((I 1 9).toInt64 + a0.toInt64) := by
    rw [w2.1 34 28 (by decide) (by simp)]; simp [uI]
  rw [hv] at hy
  generalize f_Es_held ((I 1 9).toInt64 + a0.toInt64) = V at *
  have ne : ∀ c, c < nc → pc c ≠ 1 := fun c hc => by have := (h6.1 c hc).2.2; omega
  have nw' : ∀ w, w < nw → pw w ≠ 1 := fun w hw => by have := (h6.2.1 w hw).2.1; omega
  refine ⟨V, n, s, uI I 1 9 V, uI J 34 28 V, J'', L, K, hx, hy, w2, ⟨?_, ?_, ?_, ?_, ?_, h6, ?_, ?_, ?_, h10⟩, fun a j _ _ _ z _ _ => ?_, fJ, fun _ _ _ => rfl, fun _ _ _ => rfl⟩
  · exact ⟨⟨a1, a2⟩, ⟨by simp [uI, b1], by simp [uI, b2], by simp [uI, b3]⟩, ⟨by simp [uI, c1], by simp [uI, c2]⟩, ⟨by simp [uI, d1], by simp [uI, d2], by simp [uI, d3]⟩, ⟨by simp [uI], by simp [uI, vb.1], by simp [uI, vb.2]⟩, ⟨by simp [uI, f1], by rcases f2 with f | f <;> simp [uI, f]⟩, by simp [uI, g1], by simp [uI, g2], ⟨by simp [uI, k1], by simp [uI, k2]⟩, fun j hj hj2 => by simp [uI]; exact k3 j hj hj2⟩
  · exact WND_up h3 h2 h2.1.1 (Nat.le_refl _) (by simp [uI, b1]) (by simp [uI, b2]) (by simp [uI]) (by simp [uI])
  · exact SPR_ext h3 (by simp [uI]) (by simp [uI]) (fun i => by simp [uI])
  · exact CB_ext h4 (fun j q1 q2 => uI_o (by omega)) (fun j q1 q2 => uI_o (by omega))
  · intro j hj; simp [uI]; exact h5 j hj
  · exact CK_ext h7 (by simp [uI]) (fun c hc j => by simp [uI, ne c hc]) (by simp [uI]) (fun a i q => uI_o (by omega))
  · exact ⟨by simp [uI, h8.1], by simp [uI, h8.2.1], h8.2.2.1, fun w hw => WR_ext (h8.2.2.2 w hw) (fun j => by simp [uI, nw' w hw]) (fun i _ => by simp [uI]) (fun a q1 q2 => uI_o (by omega))⟩
  · exact STK_w (STK_ext h9 (by simp [uI]) (by simp [uI]) (by simp [uI]) (by simp [uI]) (fun j => by simp [uI]) (fun j => by simp [uI])) (by omega)
  · simp only [uI]
    rw [if_neg (fun q => z ⟨q.1, by omega⟩)]
theorem cr_wind {q k : Nat} (h : MV S Rf A T nc nw pc pw rr n s I J L K) (hg : ¬ J 34 24 = 0) (hb : BKOK J) (hq : q ≤ 100000) (hk : k < A) (hj : J 34 14 = jN k) (hz : ¬ L 4 k = 0) : CR S Rf A T nc nw pc pw rr (f_Es_windUp (jN q) I L) (f_Md_wind (jN q) J K) 2 (jN q) 0 0 I J L K := by
  obtain ⟨h1, h2, h3, h4, h5, h6, h7, h8, h9, h10⟩ := h
  obtain ⟨d, d1, d2, d3, d4, d5⟩ := ld_ok h3 h2
  obtain ⟨⟨w1, w2, w3, w4, w5⟩, w6⟩ := id h2
  have hI5 : I 1 5 = jN k := by rw [w4]; exact hj
  have hA := h3.1.1
  have hbar : f_Md_hasBarrel J K = some 1 := by
    rw [f_Md_hasBarrel, hj, kn_yes h3 hk hz, Option.bind_some, if_pos (Or.inr rfl)]
  -- d
  obtain ⟨t1, t2⟩ := tv_int (p := 256) (P := 256) h3 hk hz w1 (by decide) (by omega)
  have wb : 0 ≤ (L 1 7).toInt ∧ (L 1 7).toInt ≤ (tv L k (jN n) 256).toInt := by
    rcases w6 with ⟨z, _⟩ | ⟨k', k1, k2, _, k4⟩
    · rw [hI5] at z
      have : (0 : Int32) ≤ jN k := jN_ge0 (by omega)
      rw [z] at this
      exact absurd this (by decide)
    · rw [hI5] at k2
      have e : k = k' := (jN_inj (by omega) (by omega)).mp k2
      subst e
      exact k4 hz
  have hd : d = tv L k (jN n) 256 - L 1 7 := by
    have e : f_Es_letDown I L = some (tv L k (jN n) 256 - L 1 7) := by
      rw [f_Es_letDown, hI5, w2, tu_yes h3 hk hz, Option.bind_some]
      rfl
    rw [d1] at e
    exact Option.some.inj e
  have dI : d.toInt = (tv L k (jN n) 256).toInt - (L 1 7).toInt := by rw [hd, lg_sub (by omega) (by omega)]
  have tq : (jN q).toInt64.toInt = q := by rw [Int32.toInt_toInt64, jN_toInt (by omega)]
  obtain ⟨x, hx⟩ : ∃ x, x = Jmin (jN q).toInt64 d := ⟨_, rfl⟩
  have xb : 0 ≤ x.toInt ∧ x.toInt ≤ 100000 ∧ x.toInt ≤ d.toInt := by
    rw [hx]
    unfold Jmin
    by_cases c : d < (jN q).toInt64
    · rw [if_pos c]
      have := lg_lt.mp c
      omega
    · rw [if_neg c]
      have : ¬ d.toInt < (jN q).toInt64.toInt := fun z => c (lg_lt.mpr z)
      omega
  have x32 : (x.toInt32).toInt64 = x := by
    rw [lg_eq, Int32.toInt_toInt64, Int64.toInt_toInt32, Int.bmod_eq_of_le (by omega) (by omega)]
  have sum : (L 1 7 + x).toInt = (L 1 7).toInt + x.toInt := lg_add (by omega) (by omega)
  obtain ⟨J'', v1, v2⟩ := wr_ok (J := J) (K := uL K 34 32 (L 1 7 + x)) 2 (jN q) 0 0 hb
  have pne : ∀ c, c < nc → pc c ≠ 1 := fun c hc => by have := (h6.1 c hc).2.2; omega
  refine ⟨x.toInt32, n, s, I, J, J'', uL L 1 7 (L 1 7 + x), uL K 34 32 (L 1 7 + x), ?_, ?_, v2, ⟨h1, ?_, ?_, h4, h5, h6, h7, h8, STK_w h9 (by omega), h10⟩, FI2.rf, FJ2.rf, fun a j z => ?_, fun a j z => ?_⟩
  · rw [f_Es_windUp, d1, Option.bind_some, ← hx]
    try rfl
  · have e : f_Md_within (jN q).toInt64 0 100000 = f_H_isWithin (jN q) 0 100000 := w_eq rfl rfl
    have w : ¬ f_H_isWithin (jN q) 0 100000 = 0 := wi_ne.mpr ⟨jN_ge0 (by omega), (jN_le (b := 100000) (by omega) (by decide)).mpr hq⟩
    rw [f_Md_wind, e]
    simp only [bnd]
    rw [if_neg w, if_neg hg, hbar, Option.bind_some, if_neg (by decide), if_pos (bf_0 hb), d2, Option.bind_some, ← hx, x32, ← w5, v1, Option.bind_some]
  · refine ⟨⟨w1, w2, w3, w4, by simp [uL]⟩, Or.inr ⟨k, hk, hI5, fun z => absurd (by simpa [uL] using z) hz, fun _ => ?_⟩⟩
    have e : tv (uL L 1 7 (L 1 7 + x)) k (jN n) 256 = tv L k (jN n) 256 := by unfold tv; simp [uL]
    rw [e]
    have e2 : (uL L 1 7 (L 1 7 + x)) 1 7 = L 1 7 + x := by simp [uL]
    rw [e2, sum]
    omega
  · obtain ⟨p1, p2, p3⟩ := h3
    refine ⟨by simpa [uL] using p1, fun a ha => ?_, fun a ha => by simp [uL]; exact p3 a ha⟩
    have := p2 a ha
    unfold sk at this ⊢
    simp [uL]
    exact this
  · simp only [uL]; rw [if_neg z]
  · simp only [uL]; rw [if_neg z]
end COR

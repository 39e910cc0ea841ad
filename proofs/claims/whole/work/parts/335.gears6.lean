/-! the movement's gears: a link is told, both -/
section GEF
variable {I J : Nat → Nat → Int32} {L K : Nat → Nat → Int64} {l A0 many : Nat} {arb : Nat → Nat}
theorem tb_val {p : Nat} {x y : Int64} {L1 : Nat → Nat → Int64} (h0 : I 2 0 = jN A0) (hA : A0 ≤ 24) (hl : l < 40) (h : PL I J L K A0 l many arb) (hu : U1 L many arb p) (hs : f_Ge_solve (jN l) (jN p) I L = some (I, L1)) (e1 : L1 2 10 = x) (e2 : L1 2 11 = y) (hy : 0 < y.toInt) : f_Ge_tellBy (jN l) I L = if (10000000 : Int64) < Jabs x then some (0, I, L1) else if y ≤ 10000000 then some (1, I, uL (uL L1 3 (arb p) x) 4 (arb p) y) else some (0, I, L1) := by
  obtain ⟨h1, h2, h3, h4, _⟩ := h
  obtain ⟨hp, hz, ho⟩ := hu
  obtain ⟨N, hN⟩ := xF_10
  rw [f_Ge_tellBy, hN, show N + 10 = N + 6 + 1 + 1 + 1 + 1 by omega, show f_Ge_tellBy_L2 (N + 6 + 1 + 1 + 1 + 1) (jN l) 0 I L = f_Ge_tellBy_L2 (N + 6 + 1 + 1 + 1 + 1) (jN l) (jN 0) I L from rfl]
  have hm : many ≤ 3 := by omega
  obtain ⟨pp, qp, _⟩ := h2 p hp
  have : p = 0 ∨ p = 1 ∨ p = 2 := by omega
  rcases this with rfl | rfl | rfl
  · exact tb_hit h0 hA pp hl (by decide) qp hz hs e1 e2 hy
  · obtain ⟨p0, q0, _⟩ := h2 0 (by omega)
    rw [tb_skip h0 hA p0 hl (by decide) q0 (ho 0 (by omega) (by decide))]
    exact tb_hit h0 hA pp hl (by decide) qp hz hs e1 e2 hy
  · obtain ⟨p0, q0, _⟩ := h2 0 (by omega)
    obtain ⟨p1, q1, _⟩ := h2 1 (by omega)
    rw [tb_skip h0 hA p0 hl (by decide) q0 (ho 0 (by omega) (by decide)), tb_skip h0 hA p1 hl (by decide) q1 (ho 1 (by omega) (by decide))]
    exact tb_hit h0 hA pp hl (by decide) qp hz hs e1 e2 hy
theorem sk_57 {a : Nat} (h : sk L J K a) : J 57 a = 0 ↔ L 4 a = 0 := by
  rcases h with h | h
  · simp [h.1, h.2.1]
  · constructor
    · intro q; rw [h.1] at q; exact absurd q (by decide)
    · intro q
      have := h.2.2.2.1.1
      rw [q, lg_0] at this
      omega
section RF
variable {k51 : Int32 → (Nat → Nat → Int32) → (Nat → Nat → Int64) → Option ((Nat → Nat → Int32) × (Nat → Nat → Int64))} {k59 : Int32 → Int32 → (Nat → Nat → Int32) → (Nat → Nat → Int64) → Option ((Nat → Nat → Int32) × (Nat → Nat → Int64))}
theorem r92_no {t : Int32} (hA : A0 ≤ 24) (h : PL I J L K A0 l many arb) (hk : ∀ i, i < many → sk L J K (arb i)) (hu : ¬ ∃ p, U1 L many arb p) : f_Md_speeds_L92 k51 k59 xF t (jN l) (jN many) 0 0 0 J K = k59 t (jN (l + 1)) J K := by
  obtain ⟨h1, h2, h3, h4, _⟩ := h
  obtain ⟨N, hN⟩ := xF_10
  rw [hN, show N + 10 = N + 6 + 1 + 1 + 1 + 1 by omega, show f_Md_speeds_L92 k51 k59 (N + 6 + 1 + 1 + 1 + 1) t (jN l) (jN many) 0 0 0 J K = f_Md_speeds_L92 k51 k59 (N + 6 + 1 + 1 + 1 + 1) t (jN l) (jN many) 0 0 (jN 0) J K from rfl]
  rcases h1 with rfl | rfl
  · obtain ⟨p0, _, r0⟩ := h2 0 (by decide)
    obtain ⟨p1, _, r1⟩ := h2 1 (by decide)
    have f0 := sk_57 (hk 0 (by decide))
    have f1 := sk_57 (hk 1 (by decide))
    rw [rf_step (by decide) (by decide) (by omega) (r0 K)]
    by_cases a0 : J 57 (arb 0) = 0
    · rw [if_pos a0, rf_step (by decide) (by decide) (by omega) (r1 K)]
      by_cases a1 : J 57 (arb 1) = 0
      · rw [if_pos a1]; exact rf_end0 (by decide)
      · exact absurd ⟨0, by decide, f0.mp a0, fun i hi hn => by
          have : i = 1 := by omega
          subst this; exact fun q => a1 (f1.mpr q)⟩ hu
    · rw [if_neg a0, rf_step (by decide) (by decide) (by omega) (r1 K)]
      by_cases a1 : J 57 (arb 1) = 0
      · exact absurd ⟨1, by decide, f1.mp a1, fun i hi hn => by
          have : i = 0 := by omega
          subst this; exact fun q => a0 (f0.mpr q)⟩ hu
      · rw [if_neg a1]; exact rf_end0 (by decide)
  · obtain ⟨p0, _, r0⟩ := h2 0 (by decide)
    obtain ⟨p1, _, r1⟩ := h2 1 (by decide)
    obtain ⟨p2, _, r2⟩ := h2 2 (by decide)
    have f0 := sk_57 (hk 0 (by decide))
    have f1 := sk_57 (hk 1 (by decide))
    have f2 := sk_57 (hk 2 (by decide))
    rw [rf_step (by decide) (by decide) (by omega) (r0 K)]
    by_cases a0 : J 57 (arb 0) = 0 <;> by_cases a1 : J 57 (arb 1) = 0 <;> by_cases a2 : J 57 (arb 2) = 0
    · rw [if_pos a0, rf_step (by decide) (by decide) (by omega) (r1 K), if_pos a1, rf_step (by decide) (by decide) (by omega) (r2 K), if_pos a2]; exact rf_end0 (by decide)
    · rw [if_pos a0, rf_step (by decide) (by decide) (by omega) (r1 K), if_pos a1, rf_step (by decide) (by decide) (by omega) (r2 K), if_neg a2]; exact rf_end0 (by decide)
    · rw [if_pos a0, rf_step (by decide) (by decide) (by omega) (r1 K), if_neg a1, rf_step (by decide) (by decide) (by omega) (r2 K), if_pos a2]; exact rf_end0 (by decide)
    · exact absurd ⟨0, by decide, f0.mp a0, fun i hi hn => by
          have : i = 1 ∨ i = 2 := by omega
          rcases this with rfl | rfl
          · exact fun q => a1 (f1.mpr q)
          · exact fun q => a2 (f2.mpr q)⟩ hu
    · rw [if_neg a0, rf_step (by decide) (by decide) (by omega) (r1 K), if_pos a1, rf_step (by decide) (by decide) (by omega) (r2 K), if_pos a2]; exact rf_end0 (by decide)
    · exact absurd ⟨1, by decide, f1.mp a1, fun i hi hn => by
          have : i = 0 ∨ i = 2 := by omega
          rcases this with rfl | rfl
          · exact fun q => a0 (f0.mpr q)
          · exact fun q => a2 (f2.mpr q)⟩ hu
    · exact absurd ⟨2, by decide, f2.mp a2, fun i hi hn => by
          have : i = 0 ∨ i = 1 := by omega
          rcases this with rfl | rfl
          · exact fun q => a0 (f0.mpr q)
          · exact fun q => a1 (f1.mpr q)⟩ hu
    · rw [if_neg a0, rf_step (by decide) (by decide) (by omega) (r1 K), if_neg a1, rf_step (by decide) (by decide) (by omega) (r2 K), if_neg a2]; exact rf_end0 (by decide)
theorem r92_yes {t : Int32} {p : Nat} {x y : Int64} {K1 : Nat → Nat → Int64} (hA : A0 ≤ 24) (h : PL I J L K A0 l many arb) (hk : ∀ i, i < many → sk L J K (arb i)) (hu : U1 L many arb p) (ht : f_Md_tells (jN l) (jN p) J K = some (J, K1)) (e1 : K1 34 51 = x) (e2 : K1 34 52 = y) : f_Md_speeds_L92 k51 k59 xF t (jN l) (jN many) 0 0 0 J K = if (10000000 : Int64) < Jabs x then k59 t (jN (l + 1)) J K1 else if (10000000 : Int64) < y then k59 t (jN (l + 1)) J K1 else k59 1 (jN (l + 1)) (uI J 57 (arb p) 1) (uL (uL K1 58 (arb p) x) 59 (arb p) y) := by
  obtain ⟨h1, h2, h3, h4, _⟩ := h
  obtain ⟨hp, hz, ho⟩ := hu
  obtain ⟨N, hN⟩ := xF_10
  obtain ⟨pp, _, rp⟩ := h2 p hp
  have fz : J 57 (arb p) = 0 := (sk_57 (hk p hp)).mpr hz
  have fo : ∀ i, i < many → i ≠ p → ¬ J 57 (arb i) = 0 := fun i hi hn q => ho i hi hn ((sk_57 (hk i hi)).mp q)
  have one : (0 : Int32) + 1 = 1 := by decide
  rw [hN, show N + 10 = N + 6 + 1 + 1 + 1 + 1 by omega, show f_Md_speeds_L92 k51 k59 (N + 6 + 1 + 1 + 1 + 1) t (jN l) (jN many) 0 0 0 J K = f_Md_speeds_L92 k51 k59 (N + 6 + 1 + 1 + 1 + 1) t (jN l) (jN many) 0 0 (jN 0) J K from rfl]
  rcases h1 with rfl | rfl
  · obtain ⟨p0, _, r0⟩ := h2 0 (by decide)
    obtain ⟨p1, _, r1⟩ := h2 1 (by decide)
    have : p = 0 ∨ p = 1 := by omega
    rcases this with rfl | rfl
    · rw [rf_step (by decide) (by decide) (by omega) (r0 K), if_pos fz, rf_step (by decide) (by decide) (by omega) (r1 K), if_neg (fo 1 (by decide) (by decide)), one]
      exact rf_end1 (by omega) ht e1 e2 (rp K1)
    · rw [rf_step (by decide) (by decide) (by omega) (r0 K), if_neg (fo 0 (by decide) (by decide)), rf_step (by decide) (by decide) (by omega) (r1 K), if_pos fz, one]
      exact rf_end1 (by omega) ht e1 e2 (rp K1)
  · obtain ⟨p0, _, r0⟩ := h2 0 (by decide)
    obtain ⟨p1, _, r1⟩ := h2 1 (by decide)
    obtain ⟨p2, _, r2⟩ := h2 2 (by decide)
    have : p = 0 ∨ p = 1 ∨ p = 2 := by omega
    rcases this with rfl | rfl | rfl
    · rw [rf_step (by decide) (by decide) (by omega) (r0 K), if_pos fz, rf_step (by decide) (by decide) (by omega) (r1 K), if_neg (fo 1 (by decide) (by decide)), rf_step (by decide) (by decide) (by omega) (r2 K), if_neg (fo 2 (by decide) (by decide)), one]
      exact rf_end1 (by omega) ht e1 e2 (rp K1)
    · rw [rf_step (by decide) (by decide) (by omega) (r0 K), if_neg (fo 0 (by decide) (by decide)), rf_step (by decide) (by decide) (by omega) (r1 K), if_pos fz, rf_step (by decide) (by decide) (by omega) (r2 K), if_neg (fo 2 (by decide) (by decide)), one]
      exact rf_end1 (by omega) ht e1 e2 (rp K1)
    · rw [rf_step (by decide) (by decide) (by omega) (r0 K), if_neg (fo 0 (by decide) (by decide)), rf_step (by decide) (by decide) (by omega) (r1 K), if_neg (fo 1 (by decide) (by decide)), rf_step (by decide) (by decide) (by omega) (r2 K), if_pos fz, one]
      exact rf_end1 (by omega) ht e1 e2 (rp K1)
end RF
end GEF

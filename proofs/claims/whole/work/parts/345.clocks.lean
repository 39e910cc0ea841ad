/-! the movement: chronographs at a tick, both -/
/-- the objects: pc the chronographs', pw the works' -/
def OBJ (S : List xSh) (Rf : Nat → Nat → Option Nat) (nc nw : Nat) (pc pw : Nat → Nat) : Prop := (∀ c, c < nc → Rf 12 c = some (pc c) ∧ S[pc c]? = some (.inl 3) ∧ 75 ≤ pc c) ∧ (∀ w, w < nw → Rf 11 w = some (pw w) ∧ 75 ≤ pw w ∧ (S[pw w]? = some (.inl 4) ∨ S[pw w]? = some (.inl 1) ∨ S[pw w]? = some (.inl 8))) ∧ (∀ a b, a < nc → b < nc → pc a = pc b → a = b) ∧ ∀ a b, a < nw → b < nw → pw a = pw b → a = b
theorem obj_ne {S : List xSh} {Rf : Nat → Nat → Option Nat} {nc nw : Nat} {pc pw : Nat → Nat} (h : OBJ S Rf nc nw pc pw) {c w : Nat} (hc : c < nc) (hw : w < nw) : pc c ≠ pw w := by
  intro e
  have h1 := (h.1 c hc).2.1
  have h2 := (h.2.1 w hw).2.2
  rw [e] at h1
  rw [h1] at h2
  simp at h2
def ckr (p c : Nat) (I J : Nat → Nat → Int32) : Prop := I p 0 = J 47 c ∧ I p 1 = J 49 c ∧ I p 2 = J 50 c ∧ I p 4 = J 52 c ∧ (I p 4 = 0 ∨ I p 4 = 1) ∧ (I p 1 = 0 ∨ I p 1 = 1 ∨ I p 1 = 2) ∧ I p 3 = (if I p 4 = 0 then J 50 c else J 51 c)
def CK (nc : Nat) (pc : Nat → Nat) (I J : Nat → Nat → Int32) : Prop := I 0 7 = jN nc ∧ J 34 22 = jN nc ∧ nc ≤ 4 ∧ ∀ c, c < nc → ckr (pc c) c I J
section CLK
variable {S : List xSh} {Rf : Nat → Nat → Option Nat} {nc nw : Nat} {pc pw : Nat → Nat} {L K : Nat → Nat → Int64}
theorem ck_tick (ho : OBJ S Rf nc nw pc pw) : ∀ (m c : Nat) (I J : Nat → Nat → Int32), c + m = nc → CK nc pc I J → ∃ I' J', (∀ N, m < N → f_H_passTick_L2 S Rf N (jN c) I L = f_H_passTick_L41 S Rf xF (I' 1 12) 0 I' L) ∧ (∀ N, m < N → f_Md_ticked_L2 N (jN c) J K = f_Md_ticked_L42 xF 0 J' K) ∧ CK nc pc I' J' ∧ (∀ a j, (∀ c, c < nc → a ≠ pc c) → I' a j = I a j) ∧ ∀ a j, a ≠ 50 → J' a j = J a j := by
  intro m
  induction m with
  | zero =>
    intro c I J h1 h
    have e : c = nc := by omega
    subst e
    refine ⟨I, J, fun N hN => ?_, fun N hN => ?_, h, fun _ _ _ => rfl, fun _ _ _ => rfl⟩
    · obtain ⟨N, rfl⟩ : ∃ k, N = k + 1 := ⟨N - 1, by omega⟩
      rw [f_H_passTick_L2, h.1, if_pos (Int32.le_refl _)]
    · obtain ⟨N, rfl⟩ : ∃ k, N = k + 1 := ⟨N - 1, by omega⟩
      rw [f_Md_ticked_L2, h.2.1, if_pos (Int32.le_refl _)]
  | succ m ih =>
    intro c I J h1 h
    have hc : c < nc := by omega
    obtain ⟨g1, g2, g3, g4⟩ := id h
    obtain ⟨o1, o2, o3⟩ := ho.1 c hc
    obtain ⟨k0, k1, k2, k3, k4, k5, k6⟩ := g4 c hc
    have c1 : ¬ jN nc ≤ jN c := fun q => by have := (jN_le (by omega) (by omega)).mp q; omega
    have c2 : 0 ≤ jN c ∧ jN c < 4 := jN_in (n := 4) (by omega) (by decide)
    have cls : ∀ N, f_H_passTick_L2 S Rf (N + 1) (jN c) I L = (f_Cr_countTick (pc c) I L).bind fun q38 => f_H_passTick_L2 S Rf N (jN (c + 1)) q38.1 q38.2 := by
      intro N
      rw [f_H_passTick_L2, g1, if_neg c1, if_pos c2, jN_tc (by omega), o1, jN_1]
      show (if S[pc c]? = some (.inl 3) then _ else _) = _
      rw [if_pos o2]
    -- one chronograph
    have one : ∃ I1 J1, f_Cr_countTick (pc c) I L = some (I1, L) ∧ (∀ N, f_Md_ticked_L2 (N + 1) (jN c) J K = f_Md_ticked_L2 N (jN (c + 1)) J1 K) ∧ CK nc pc I1 J1 ∧ (∀ a j, a ≠ pc c → I1 a j = I a j) ∧ ∀ a j, a ≠ 50 → J1 a j = J a j := by
      have ref : ∀ N, f_Md_ticked_L2 (N + 1) (jN c) J K = f_Md_ticked_L2 N (jN (c + 1)) (uI J 50 c (if I (pc c) 1 = 1 then J 50 c + 1 else J 50 c + 0)) K := by
        intro N
        rw [f_Md_ticked_L2, g2, if_neg c1, if_pos c2, if_pos c2, jN_tc (by omega), jN_1, k1]
        by_cases q : J 49 c = 1
        · rw [if_pos q, if_pos q]
          simp only [bnd]
          rw [if_pos c2]
        · rw [if_neg q, if_neg q]
          simp only [bnd]
          rw [if_pos c2]
      have ne7 : pc c ≠ 0 := by omega
      by_cases q : I (pc c) 1 = 1
      · simp only [if_pos q] at ref
        by_cases z : I (pc c) 4 = 0
        · refine ⟨uI (uI I (pc c) 2 (I (pc c) 2 + 1)) (pc c) 3 (I (pc c) 2 + 1), _, ?_, ref, ⟨by simp [uI, ne7.symm, g1], by simp [uI, g2], g3, fun d hd => ?_⟩, fun a j ha => by simp [uI, ha], fun a j ha => by simp [uI, ha]⟩
          · rw [f_Cr_countTick, if_pos q, f_Cr_setCount]
            have : (uI I (pc c) 2 (I (pc c) 2 + 1)) (pc c) 4 = 0 := by simp [uI, z]
            rw [if_pos this, Option.bind_some]
          · by_cases e : d = c
            · subst e
              refine ⟨by simp [uI, k0], by simp [uI, k1], by simp [uI, k2], by simp [uI, k3], by simp [uI]; exact k4, by simp [uI]; exact k5, ?_⟩
              simp [uI, z, k2]
            · have e' : pc d ≠ pc c := fun q => e (ho.2.2.1 d c hd hc q)
              have := g4 d hd
              unfold ckr at this ⊢
              simp [uI, e, e']
              exact this
        · refine ⟨uI I (pc c) 2 (I (pc c) 2 + 1), _, ?_, ref, ⟨by simp [uI, ne7.symm, g1], by simp [uI, g2], g3, fun d hd => ?_⟩, fun a j ha => by simp [uI, ha], fun a j ha => by simp [uI, ha]⟩
          · rw [f_Cr_countTick, if_pos q, f_Cr_setCount]
            have : ¬ (uI I (pc c) 2 (I (pc c) 2 + 1)) (pc c) 4 = 0 := by simp [uI, z]
            rw [if_neg this, Option.bind_some]
          · by_cases e : d = c
            · subst e
              refine ⟨by simp [uI, k0], by simp [uI, k1], by simp [uI, k2], by simp [uI, k3], by simp [uI]; exact k4, by simp [uI]; exact k5, ?_⟩
              rw [if_neg z] at k6
              simp [uI, z, k6]
            · have e' : pc d ≠ pc c := fun q => e (ho.2.2.1 d c hd hc q)
              have := g4 d hd
              unfold ckr at this ⊢
              simp [uI, e, e']
              exact this
      · simp only [if_neg q, Int32.add_zero] at ref
        refine ⟨I, _, ?_, ref, ⟨g1, by simp [uI, g2], g3, fun d hd => ?_⟩, fun a j ha => rfl, fun a j ha => by simp [uI, ha]⟩
        · rw [f_Cr_countTick, if_neg q]
        · have := g4 d hd
          unfold ckr at this ⊢
          by_cases e : d = c
          · subst e
            simp [uI]
            exact this
          · simp [uI, e]
            exact this
    obtain ⟨I1, J1, a1, a2, a3, a4, a5⟩ := one
    obtain ⟨I2, J2, b1, b2, b3, b4, b5⟩ := ih (c + 1) I1 J1 (by omega) a3
    refine ⟨I2, J2, fun N hN => ?_, fun N hN => ?_, b3, fun a j ha => ?_, fun a j ha => ?_⟩
    · obtain ⟨N, rfl⟩ : ∃ k, N = k + 1 := ⟨N - 1, by omega⟩
      rw [cls N, a1, Option.bind_some]
      exact b1 N (by omega)
    · obtain ⟨N, rfl⟩ : ∃ k, N = k + 1 := ⟨N - 1, by omega⟩
      rw [a2 N]
      exact b2 N (by omega)
    · rw [b4 a j ha, a4 a j (ha c hc)]
    · rw [b5 a j ha, a5 a j ha]
end CLK

/-! merge, put together -/
theorem mrg_x {I I' : Nat → Nat → Int32} {b t w : Nat} (h : ivB I) (g1 : ∀ i, I' 71 i = I 71 i) (g2 : ∀ i, I' 72 i = I 72 i) (g3 : ∀ i, I' 74 i = I 74 i) : rcv I' b t w = kcv I b t w ∧ row I' b t w = kow I b t w := by
  obtain ⟨h1, h2, h3, h4, h5, h6, h7, h8⟩ := h
  constructor
  · funext k; simp only [rcv, kcv, g1, g2, g3, h3, h4, h5]
  · funext k; simp only [row, kow, g1, g2, h3, h4]
theorem op_merge {I : Nat → Nat → Int32} {L : Nat → Nat → Int64} {a0 : Int32} (h : ivB I) : wp (f_H_merge a0 I L) (fun q => wp (f_Md_merge a0 q.2.1 q.2.2) (fun q' => q.1 = q'.1 ∧ ivB q'.2.1)) := by
  have e0 : f_Md_within a0.toInt64 0 3 = f_H_isWithin a0 0 3 := w_eq rfl rfl
  by_cases v : 0 ≤ a0 ∧ a0 ≤ 3
  · have n1 : ¬ f_Be_has a0 0 = 0 := fun q => has_0.mp q ⟨v, by decide⟩
    have n2 : ¬ f_H_isWithin a0 0 3 = 0 := fun q => wi_0.mp q v
    have h0 := h
    obtain ⟨h1, h2, h3, h4, h5, h6, h7, h8⟩ := h
    obtain ⟨b, hb, rfl⟩ := jN_ex (n := 3) v.1 v.2 (by decide)
    obtain ⟨w, hw, ew⟩ := jN_ex (n := 500) h6.1 h6.2 (by decide)
    have hb4 : b < 4 := by omega
    obtain ⟨t, ht, et⟩ := jN_ex (n := w) (h7 b).1 (by rw [← ew]; exact (h7 b).2) (by omega)
    have ht5 : t ≤ 500 := by omega
    have hc := b_count (L := L) hb4 ht5 hw et ew 32 xF 0 0 rfl (xF_big (by decide))
    have hk := b_keeps (L := L) hb4 ht5 hw et ew 32 xF 0 rfl (xF_big (by decide))
    have tk0 : tk I b t w 0 = I := by
      funext a i
      simp only [tk]
      rw [if_neg (by omega), if_neg (by omega)]
    have hT := b_take (L := L) hb4 ht5 hw et ew 32 xF 0 rfl (xF_big (by decide))
    rw [tk0] at hT
    have j0 : (0 : Int32) = jN 0 := rfl
    simp only [← j0] at hc hk hT
    have c1 : 0 ≤ jN b ∧ jN b < 4 := jN_in (n := 4) hb4 (by decide)
    have hbc : (jN b).toNatClampNeg = b := jN_tc (by omega)
    have mscan : ∀ I' : Nat → Nat → Int32, (∀ i, I' 71 i = I 71 i) → (∀ i, I' 72 i = I 72 i) → (∀ i, I' 73 i = I 73 i) → (∀ i, I' 74 i = I 74 i) → I' 34 75 = I 34 75 → f_Md_merge (jN b) I' L = m_end I' L b (0 + cN (kcv I b t w) 0 32) (kN (kow I b t w) 0 32) := by
      intro I' g1 g2 g3 g4 g5
      have q := m_scan (I := I') (L := L) hb4 ht5 hw (by rw [g3, ← h2, et]) (by rw [g5, ← h1, ew]) 32 xF 0 0 0 (Or.inl rfl) rfl (xF_big (by decide))
      rw [(mrg_x (b := b) (t := t) (w := w) h0 g1 g2 g4).1, (mrg_x (b := b) (t := t) (w := w) h0 g1 g2 g4).2, ← j0] at q
      have z : ∀ x : Int32, (0 : Int32) ||| x = x := fun x => by simp
      rw [z] at q
      simp only [f_Md_merge, bnd, e0, if_neg n2, q]
    have hP : f_H_merge (jN b) I L = (f_Be_mergeCopy (jN b) I L).bind fun q2 => (some (q2.1, q2.2.1, q2.2.2)) := by
      simp only [f_H_merge, if_neg n1]
    rw [hP]
    simp only [f_Be_mergeCopy, f_Be_countConflicts, hc, f_Be_keepsOwn, hk, Option.bind_some]
    generalize (0 : Int32) + cN (kcv I b t w) 0 32 = c at mscan
    have hf : kN (kow I b t w) 0 32 = 0 → ∀ k, k < 32 → I 32 (b * 32 + k) = I 31 (t * 32 + k) ∨ I 32 (b * 32 + k) = I 31 (w * 32 + k) := by
      intro z k hk32
      have := kN_0 z k (Nat.zero_le _) (by omega)
      unfold kow at this
      grind
    have hk01 := kN_01 (kow I b t w) 0 32
    generalize kN (kow I b t w) 0 32 = o at mscan hf hk01
    by_cases c0 : c ≤ 0
    · by_cases o0 : o = 0
      · simp only [if_pos c0, if_pos o0, f_Be_mergeCopy_L35, f_Be_takeOthers, hT, Option.bind_some, bnd, if_pos c1, hbc, wp_some]
        have r29 : tk I b t w 32 29 0 = jN w := by simp [tk, ew]
        rw [r29]
        generalize hI1 : uI (tk I b t w 32) 30 b (jN w) = I1
        have q71 : ∀ i, I1 71 i = I 71 i := fun i => by rw [← hI1]; simp [uI, tk]
        have q72 : ∀ i, I1 72 i = I 72 i := fun i => by rw [← hI1]; simp [uI, tk]
        have q73 : ∀ i, I1 73 i = I 73 i := fun i => by rw [← hI1]; simp [uI, tk]
        have q74 : ∀ i, I1 74 i = I 74 i := fun i => by rw [← hI1]; simp [uI, tk]
        have q34 : ∀ i, I1 34 i = I 34 i := fun i => by rw [← hI1]; simp [uI, tk]
        have mk0 : mk I1 b t w w 0 = I1 := by
          funext a i
          simp only [mk]
          rw [if_neg (by omega), if_neg (by omega), if_neg (by omega)]
        have hM := m_take (I := I1) (L := L) hb4 ht (Nat.le_refl w) hw (by rw [q73, ← h2, et]) (by rw [q34, ← h1, ew]) 32 xF 0 rfl (xF_big (by decide))
        rw [mk0, ← j0] at hM
        have e75 : I1 34 75 = jN w := by rw [q34, ← h1, ew]
        show wp (f_Md_merge (jN b) I1 L) (fun q' => (0 : Int32) = q'.1 ∧ ivB q'.2.1)
        simp only [mscan I1 q71 q72 q73 q74 (q34 75), m_end, if_pos c0, if_pos o0, f_Md_merge_L139, bnd, e75, hM, wp_some]
        refine ⟨trivial, ?_, ?_, ?_, ?_, ?_, ?_, ?_, ?_⟩
        · rw [← hI1]; simp [uI, mk, tk, ew]
        · intro j
          rw [← hI1]
          have := h2 j
          simp only [uI, mk, tk]
          by_cases q : j = b <;> simp [q, this]
        · intro j
          have k1 : uI (uI (mk I1 b t w w 32) 34 75 (jN w)) 73 b (jN w) 31 j = I 31 j := by rw [← hI1]; simp [uI, mk, tk]
          have k2 : uI (uI (mk I1 b t w w 32) 34 75 (jN w)) 73 b (jN w) 71 j = mk I1 b t w w 32 71 j := by simp [uI]
          rw [k1, k2, mk_71]
          by_cases q : w * 32 ≤ j ∧ j < w * 32 + 32
          · rw [if_pos q, q72, q71, q71, ← h4, ← h3, ← h3]
            have hh := hf o0 (j - w * 32) (by omega)
            have ej : w * 32 + (j - w * 32) = j := by omega
            rw [ej] at hh ⊢
            unfold mg
            split
            · rfl
            · rename_i g
              rcases hh with hh | hh
              · exact absurd hh g
              · exact hh.symm
          · rw [if_neg q, q71, h3]
        · intro j
          have k1 : uI (uI (mk I1 b t w w 32) 34 75 (jN w)) 73 b (jN w) 32 j = tk I b t w 32 32 j := by rw [← hI1]; simp [uI, mk]
          have k2 : uI (uI (mk I1 b t w w 32) 34 75 (jN w)) 73 b (jN w) 72 j = mk I1 b t w w 32 72 j := by simp [uI]
          rw [k1, k2]
          simp only [mk_72, tk_32, q71, q72, ← h4, ← h3]
        · intro j
          have k1 : uI (uI (mk I1 b t w w 32) 34 75 (jN w)) 73 b (jN w) 33 j = tk I b t w 32 33 j := by rw [← hI1]; simp [uI, mk]
          have k2 : uI (uI (mk I1 b t w w 32) 34 75 (jN w)) 73 b (jN w) 74 j = mk I1 b t w w 32 74 j := by simp [uI]
          rw [k1, k2]
          simp only [mk_74, tk_33, q74, ← h5]
        · have k1 : uI (uI (mk I1 b t w w 32) 34 75 (jN w)) 73 b (jN w) 29 0 = I 29 0 := by rw [← hI1]; simp [uI, mk, tk]
          rw [k1]; exact h6
        · intro j
          have k1 : uI (uI (mk I1 b t w w 32) 34 75 (jN w)) 73 b (jN w) 29 0 = I 29 0 := by rw [← hI1]; simp [uI, mk, tk]
          have k2 : uI (uI (mk I1 b t w w 32) 34 75 (jN w)) 73 b (jN w) 30 j = if j = b then jN w else I 30 j := by
            rw [← hI1]; simp [uI, mk, tk]
          rw [k1, k2]
          split
          · rw [ew]; exact ⟨jN_ge0 (by omega), Int32.le_refl _⟩
          · exact h7 j
        · intro j
          have k1 : uI (uI (mk I1 b t w w 32) 34 75 (jN w)) 73 b (jN w) 33 j = tk I b t w 32 33 j := by rw [← hI1]; simp [uI, mk]
          rw [k1, tk_33]
          split
          · exact Or.inl rfl
          · exact h8 j
      · by_cases f : w = 500
        · have g : ¬ I 29 0 < 500 := by
            rw [ew, f]
            decide
          have g2 : I 34 75 = 500 := by rw [← h1, ew, f]; rfl
          simp only [if_pos c0, if_neg o0, if_neg g, Option.bind_some, wp_some]
          rw [mscan I (fun _ => rfl) (fun _ => rfl) (fun _ => rfl) (fun _ => rfl) rfl]
          simp only [m_end, if_pos c0, if_neg o0, if_pos g2, wp_some]
          exact ⟨trivial, h0⟩
        · have hw1 : w + 1 ≤ 500 := by omega
          have g : I 29 0 < 500 := by
            rw [ew]
            exact (jN_lt (b := 500) (by omega) (by decide)).mpr (by omega)
          have g2 : ¬ I 34 75 = 500 := by
            rw [← h1, ew]
            exact fun q => f ((jN_inj (b := 500) (by omega) (by decide)).mp q)
          have r29 : tk I b t w 32 29 0 = jN w := by simp [tk, ew]
          have eb : jN b * (32 : Int32) = jN (b * 32) := jN_mul b 32
          have ew1 : jN (w + 1) * (32 : Int32) = jN ((w + 1) * 32) := jN_mul (w + 1) 32
          have p1 : ¬ jN (b * 32) < 0 := fun q => by have := (jN_lt (b := 0) (by omega) (by decide)).mp q; omega
          have p2 : ¬ jN ((w + 1) * 32) < 0 := fun q => by have := (jN_lt (b := 0) (by omega) (by decide)).mp q; omega
          have t32 : (32 : Int32).toNatClampNeg = 32 := by decide
          have p3 : b * 32 + 32 ≤ 128 := by omega
          have p4 : (w + 1) * 32 + 32 ≤ 16032 := by omega
          simp only [if_pos c0, if_neg o0, if_pos g, f_Be_mergeCopy_L35, f_Be_takeOthers, hT, Option.bind_some, bnd, if_pos c1, hbc, r29, jN_1, eb, ew1, p1, p2, not_false_eq_true, if_true, t32, jN_tc (show b * 32 < 2147483648 by omega), jN_tc (show (w + 1) * 32 < 2147483648 by omega), if_pos p3, if_pos p4, wp_some]
          generalize hI1 : uI (uC (uI (tk I b t w 32) 29 0 (jN (w + 1))) 32 (b * 32) 31 ((w + 1) * 32) 32) 30 b (jN (w + 1)) = I1
          have q71 : ∀ i, I1 71 i = I 71 i := fun i => by rw [← hI1]; simp [uI, uC, tk]
          have q72 : ∀ i, I1 72 i = I 72 i := fun i => by rw [← hI1]; simp [uI, uC, tk]
          have q73 : ∀ i, I1 73 i = I 73 i := fun i => by rw [← hI1]; simp [uI, uC, tk]
          have q74 : ∀ i, I1 74 i = I 74 i := fun i => by rw [← hI1]; simp [uI, uC, tk]
          have q34 : ∀ i, I1 34 i = I 34 i := fun i => by rw [← hI1]; simp [uI, uC, tk]
          have q32 : ∀ i, I1 32 i = tk I b t w 32 32 i := fun i => by rw [← hI1]; simp [uI, uC]
          have q33 : ∀ i, I1 33 i = tk I b t w 32 33 i := fun i => by rw [← hI1]; simp [uI, uC]
          have q29 : I1 29 0 = jN (w + 1) := by rw [← hI1]; simp [uI, uC]
          have q30 : ∀ i, I1 30 i = if i = b then jN (w + 1) else I 30 i := fun i => by rw [← hI1]; simp [uI, uC, tk]
          have q31 : ∀ i, I1 31 i = if (w + 1) * 32 ≤ i ∧ i < (w + 1) * 32 + 32 then tk I b t w 32 32 (b * 32 + (i - (w + 1) * 32)) else I 31 i := fun i => by rw [← hI1]; simp [uI, uC]; simp [tk]
          clear hI1
          have mk0 : mk I1 b t w (w + 1) 0 = I1 := by
            funext a i
            simp only [mk]
            rw [if_neg (by omega), if_neg (by omega), if_neg (by omega)]
          have hM := m_take (I := I1) (L := L) hb4 ht (Nat.le_succ w) hw1 (by rw [q73, ← h2, et]) (by rw [q34, ← h1, ew]) 32 xF 0 rfl (xF_big (by decide))
          rw [mk0, ← j0] at hM
          have e75 : I1 34 75 = jN w := by rw [q34, ← h1, ew]
          have g3 : ¬ jN w = 500 := by rw [← ew, h1]; exact g2
          show wp (f_Md_merge (jN b) I1 L) (fun q' => (0 : Int32) = q'.1 ∧ ivB q'.2.1)
          simp only [mscan I1 q71 q72 q73 q74 (q34 75), m_end, if_pos c0, if_neg o0, f_Md_merge_L139, bnd, e75, if_neg g3, jN_1, hM, wp_some]
          have w29 : uI (uI (mk I1 b t w (w + 1) 32) 34 75 (jN (w + 1))) 73 b (jN (w + 1)) 29 0 = jN (w + 1) := by simp [uI, mk, q29]
          have w30 : ∀ j, uI (uI (mk I1 b t w (w + 1) 32) 34 75 (jN (w + 1))) 73 b (jN (w + 1)) 30 j = if j = b then jN (w + 1) else I 30 j := fun j => by simp [uI, mk, q30]
          have w31 : ∀ j, uI (uI (mk I1 b t w (w + 1) 32) 34 75 (jN (w + 1))) 73 b (jN (w + 1)) 31 j = if (w + 1) * 32 ≤ j ∧ j < (w + 1) * 32 + 32 then tk I b t w 32 32 (b * 32 + (j - (w + 1) * 32)) else I 31 j := fun j => by simp [uI, mk, q31]
          have w32 : ∀ j, uI (uI (mk I1 b t w (w + 1) 32) 34 75 (jN (w + 1))) 73 b (jN (w + 1)) 32 j = tk I b t w 32 32 j := fun j => by simp [uI, mk, q32]
          have w33 : ∀ j, uI (uI (mk I1 b t w (w + 1) 32) 34 75 (jN (w + 1))) 73 b (jN (w + 1)) 33 j = tk I b t w 32 33 j := fun j => by simp [uI, mk, q33]
          have w71 : ∀ j, uI (uI (mk I1 b t w (w + 1) 32) 34 75 (jN (w + 1))) 73 b (jN (w + 1)) 71 j = mk I1 b t w (w + 1) 32 71 j := fun j => by simp [uI]
          have w72 : ∀ j, uI (uI (mk I1 b t w (w + 1) 32) 34 75 (jN (w + 1))) 73 b (jN (w + 1)) 72 j = mk I1 b t w (w + 1) 32 72 j := fun j => by simp [uI]
          have w74 : ∀ j, uI (uI (mk I1 b t w (w + 1) 32) 34 75 (jN (w + 1))) 73 b (jN (w + 1)) 74 j = mk I1 b t w (w + 1) 32 74 j := fun j => by simp [uI]
          have w73 : ∀ j, uI (uI (mk I1 b t w (w + 1) 32) 34 75 (jN (w + 1))) 73 b (jN (w + 1)) 73 j = if j = b then jN (w + 1) else I 30 j := fun j => by simp [uI, mk, q73, h2]
          have w34 : uI (uI (mk I1 b t w (w + 1) 32) 34 75 (jN (w + 1))) 73 b (jN (w + 1)) 34 75 = jN (w + 1) := by simp [uI]
          refine ⟨trivial, by rw [w29, w34], fun j => by rw [w30, w73], ?_, ?_, ?_, ?_, ?_, ?_⟩
          · intro j
            rw [w31, w71, mk_71]
            by_cases q : (w + 1) * 32 ≤ j ∧ j < (w + 1) * 32 + 32
            · rw [if_pos q, if_pos q, q72, q71, q71, ← h4, ← h3, ← h3, tk_32, if_pos (by omega)]
              have : b * 32 + (j - (w + 1) * 32) - b * 32 = j - (w + 1) * 32 := by omega
              rw [this]
            · rw [if_neg q, if_neg q, q71, h3]
          · intro j
            rw [w32, w72]
            simp only [mk_72, tk_32, q71, q72, ← h4, ← h3]
          · intro j
            rw [w33, w74]
            simp only [mk_74, tk_33, q74, ← h5]
          · rw [w29]
            exact ⟨jN_ge0 (by omega), (jN_le (b := 500) (by omega) (by decide)).mpr hw1⟩
          · intro j
            rw [w29, w30]
            split
            · exact ⟨jN_ge0 (by omega), Int32.le_refl _⟩
            · refine ⟨(h7 j).1, Int32.le_trans (h7 j).2 ?_⟩
              rw [ew]
              exact (jN_le (by omega) (by omega)).mpr (by omega)
          · intro j
            rw [w33, tk_33]
            split
            · exact Or.inl rfl
            · exact h8 j
    · simp only [if_neg c0, Option.bind_some, wp_some]
      rw [mscan I (fun _ => rfl) (fun _ => rfl) (fun _ => rfl) (fun _ => rfl) rfl]
      simp only [m_end, if_neg c0, wp_some]
      exact ⟨trivial, h0⟩
  · have n1 : f_Be_has a0 0 = 0 := has_0.mpr (fun q => v q.1)
    have n2 : f_H_isWithin a0 0 3 = 0 := wi_0.mpr v
    simp only [f_H_merge, f_Md_merge, bnd, e0, if_pos n1, if_pos n2, wp_some]
    exact ⟨trivial, h⟩

/-! a movement that is built: links; balance, barrel, torque -/
section LNQ
variable {S : List xSh} {Rf : Nat → Nat → Option Nat} {I J : Nat → Nat → Int32} {L K : Nat → Nat → Int64} {A A0 T nl nc nw k : Nat} {pc pw : Nat → Nat}
def I3of (I : Nat → Nat → Int32) (nl : Nat) (a0 a1 a2 a3 a4 a5 : Int32) : Nat → Nat → Int32 := uI (uI (uI (uI (uI (uI (uI I 6 (nl * 3) a0) 7 (nl * 3) a1) 6 (nl * 3 + 1) a2) 7 (nl * 3 + 1) a3) 6 (nl * 3 + 2) a4) 7 (nl * 3 + 2) a5) 2 1 (jN (nl + 1))
def J3of (J : Nat → Nat → Int32) (nl : Nat) (kd a m b n c : Int32) : Nat → Nat → Int32 := uI (uI (uI (uI (uI (uI (uI J 35 nl kd) 36 nl a) 39 nl m) 37 nl b) 40 nl n) 38 nl c) 34 1 (jN (nl + 1))
theorem i3_o {a0 a1 a2 a3 a4 a5 : Int32} (a j : Nat) (q1 : ¬ (a = 2 ∧ j = 1)) (q2 : ¬ (a = 6 ∧ nl * 3 ≤ j ∧ j ≤ nl * 3 + 2)) (q3 : ¬ (a = 7 ∧ nl * 3 ≤ j ∧ j ≤ nl * 3 + 2)) : I3of I nl a0 a1 a2 a3 a4 a5 a j = I a j := by
  unfold I3of
  rw [uI_o q1, uI_o (by omega), uI_o (by omega), uI_o (by omega), uI_o (by omega), uI_o (by omega), uI_o (by omega)]
theorem j3_o {kd x m b n c : Int32} (a j : Nat) (q1 : ¬ (a = 34 ∧ j = 1)) (q2 : ¬ (35 ≤ a ∧ a ≤ 40 ∧ j = nl)) : J3of J nl kd x m b n c a j = J a j := by
  unfold J3of
  rw [uI_o q1, uI_o (by omega), uI_o (by omega), uI_o (by omega), uI_o (by omega), uI_o (by omega), uI_o (by omega)]
theorem LK_l {I' J' : Nat → Nat → Int32} {l : Nat} (h : LK I J A l) (e6 : ∀ i, i < 3 → I' 6 (l * 3 + i) = I 6 (l * 3 + i)) (e7 : ∀ i, i < 3 → I' 7 (l * 3 + i) = I 7 (l * 3 + i)) (eJ : ∀ a, 35 ≤ a → a ≤ 40 → J' a l = J a l) : LK I' J' A l := by
  unfold LK at h ⊢
  rw [e6 0 (by decide), e6 1 (by decide), e6 2 (by decide), e7 0 (by decide), e7 1 (by decide), e7 2 (by decide), eJ 35 (by decide) (by decide), eJ 36 (by decide) (by decide), eJ 37 (by decide) (by decide), eJ 38 (by decide) (by decide), eJ 39 (by decide) (by decide), eJ 40 (by decide) (by decide)]
  exact h
theorem link_ok {a0 a1 a2 a3 a4 a5 kd n c : Int32} (h : MOV k S Rf I J L K) (hg : I 0 8 = 0) (g1 : GRS A A0 T nl I J L) (hL : nl < 40 → LK (I3of I nl a0 a1 a2 a3 a4 a5) (J3of J nl kd a0 a1 a2 n c) A nl) : RES (k + 1) S Rf (f_Ge_addLink a0 a1 a2 a3 a4 a5 I L) (f_Md_link kd a0 a1 a2 n c J K) := by
  have h3 := h.2.2.1.1
  have m0 : J 34 24 = 0 := by rw [← h3]; exact hg
  obtain ⟨A', A0', T', nl', nc, nw, pc, pw, y1, g2, g3, g4, g5⟩ := MOV_d h hg
  have eA : A' = A := by
    have := y1.2.1.symm.trans g1.2.1
    exact (jN_inj (by have := y1.1.1.2.2.1; omega) (by have := g1.1.1.2.2.1; omega)).mp this
  subst eA
  obtain ⟨⟨⟨u1, u2, u3, u4, u5, u6, u7⟩, lk, es⟩, i0, x3, x4, x5, x6, x7⟩ := id g1
  have i1 : I 2 1 = jN nl := by simpa [uI] using u4
  by_cases hl : nl < 40
  · have c1 : jN nl < (40 : Int32) := (jN_lt (b := 40) (by omega) (by decide)).mpr hl
    have c2 : ¬ jN nl = 40 := fun q => by have := (jN_inj (b := 40) (by omega) (by decide)).mp q; omega
    have c3 : 0 ≤ jN nl ∧ jN nl < 40 := jN_in (n := 40) hl (by decide)
    have e1 : jN (nl + 1) - 1 = jN nl := jN_sub (a := nl + 1) (b := 1) (by omega)
    have p0 : jN nl * 3 = jN (nl * 3) := jN_mul nl 3
    have p1 : jN (nl * 3) + 1 = jN (nl * 3 + 1) := jN_add _ 1
    have p2 : jN (nl * 3) + 2 = jN (nl * 3 + 2) := jN_add _ 2
    have d0 : 0 ≤ jN (nl * 3) ∧ jN (nl * 3) < 120 := jN_in (n := 120) (by omega) (by decide)
    have d1 : 0 ≤ jN (nl * 3 + 1) ∧ jN (nl * 3 + 1) < 120 := jN_in (n := 120) (by omega) (by decide)
    have d2 : 0 ≤ jN (nl * 3 + 2) ∧ jN (nl * 3 + 2) < 120 := jN_in (n := 120) (by omega) (by decide)
    have hG : GH (I3of I nl a0 a1 a2 a3 a4 a5) (J3of J nl kd a0 a1 a2 n c) A' A' (nl + 1) := by
      refine ⟨⟨by rw [i3_o 2 0 (by omega) (by omega) (by omega)]; exact i0, Nat.le_refl _, u3, by simp [I3of, uI], by omega, by rw [j3_o 34 0 (by omega) (by omega)]; exact u6, by simp [J3of, uI]⟩, fun l hl' => ?_, ?_⟩
      · by_cases e : l = nl
        · subst e; exact hL hl
        · refine LK_l (LK_mono (lk l (by omega)) u2) (fun i hi => ?_) (fun i hi => ?_) (fun a q1 q2 => j3_o a l (by omega) (by omega))
          · rw [i3_o 6 _ (by omega) (by omega) (by omega)]; simp [uI]
          · rw [i3_o 7 _ (by omega) (by omega) (by omega)]; simp [uI]
      · rw [i3_o 2 2 (by omega) (by omega) (by omega), j3_o 34 8 (by omega) (by omega)]
        rcases es with q | ⟨e, q1, q2, q3⟩
        · exact Or.inl ⟨by simpa [uI] using q.1, q.2⟩
        · exact Or.inr ⟨e, by omega, by simpa [uI] using q2, q3⟩
    obtain ⟨I', L', z1, z2, z3⟩ := refind h hg g1 g2 g3 g4 g5 hG (T' := T) ⟨x4.1, by rw [i3_o 2 3 (by omega) (by omega) (by omega)]; exact x4.2.1, by rw [j3_o 34 9 (by omega) (by omega)]; exact x4.2.2⟩ (by
      rw [i3_o 2 2 (by omega) (by omega) (by omega)]
      rcases x5 with q | q
      · exact Or.inl q
      · exact Or.inr q.1) (fun a j q1 q2 q3 => i3_o a j (by omega) (by omega) (by omega)) (fun a j q1 q2 => j3_o a j (by omega) (by omega))
    refine ⟨jN nl, I', L', J3of J nl kd a0 a1 a2 n c, K, ?_, ?_, z3⟩
    · have v1 : (uI (uI I 6 (nl * 3) a0) 7 (nl * 3) a1) 2 1 = jN nl := by simp [uI, i1]
      have v2 : (uI (uI (uI (uI I 6 (nl * 3) a0) 7 (nl * 3) a1) 6 (nl * 3 + 1) a2) 7 (nl * 3 + 1) a3) 2 1 = jN nl := by simp [uI, i1]
      have v3 : (uI (uI (uI (uI (uI (uI I 6 (nl * 3) a0) 7 (nl * 3) a1) 6 (nl * 3 + 1) a2) 7 (nl * 3 + 1) a3) 6 (nl * 3 + 2) a4) 7 (nl * 3 + 2) a5) 2 1 = jN nl := by simp [uI, i1]
      have v4 : I' 2 1 = jN (nl + 1) := by rw [z2]; simp [I3of, uI]
      rw [f_Ge_addLink, i1, if_pos c1, p0, f_Ge_setPlace, if_pos d0, if_pos d0, jN_tc (by omega), Option.bind_some]
      simp only []
      rw [v1, p0, p1, f_Ge_setPlace, if_pos d1, if_pos d1, jN_tc (by omega), Option.bind_some]
      simp only []
      rw [v2, p0, p2, f_Ge_setPlace, if_pos d2, if_pos d2, jN_tc (by omega), Option.bind_some]
      simp only [bnd]
      rw [v3, jN_1]
      have z1' := z1
      unfold I3of at z1'
      rw [z1', Option.bind_some]
      simp only []
      rw [v4, e1]
    · rw [f_Md_link, if_pos m0, u7, if_neg c2, if_pos c3, if_pos c3, if_pos c3, if_pos c3, if_pos c3, if_pos c3, jN_1]
      simp only [bnd]
      rw [e1, jN_tc (by omega)]
      rfl
  · have e40 : nl = 40 := by omega
    subst e40
    refine RES.nop (v := -3) h ?_ ?_
    · rw [f_Ge_addLink, i1, if_neg (by decide)]
    · rw [f_Md_link, if_pos m0, u7, if_pos (by decide)]
theorem op_mesh {a0 a1 a2 a3 a4 : Int32} (h : MOV k S Rf I J L K) : RES (k + 1) S Rf (f_H_mesh a0 a1 a2 a3 a4 I L) (f_Md_mesh a0 a1 a2 a3 a4 J K) := by
  obtain ⟨h1, h2, ⟨h3, h4⟩, A, A0, T, nl, nc, nw, pc, pw, r, n', s, g1, g2, g3, g4, g5⟩ := id h
  have A24 := g1.1.1.2.2.1
  have j0 := g1.1.1.2.2.2.2.2.1
  have n10 : ¬ (1 : Int32) = 0 := by decide
  have w1 : f_Md_within a1.toInt64 1 200 = f_H_isWithin a1 1 200 := w_eq rfl rfl
  have w3 : f_Md_within a3.toInt64 1 200 = f_H_isWithin a3 1 200 := w_eq rfl rfl
  have w4 : f_Md_within a4.toInt64 0 1 = f_H_isWithin a4 0 1 := w_eq rfl rfl
  by_cases ha : ∃ c, c < A ∧ a0 = jN c
  · obtain ⟨a, ha, rfl⟩ := ha
    obtain ⟨z1, z2⟩ := ar_y (L := L) (K := K) g1.2.1 j0 A24 ha
    rw [f_H_mesh, if_neg (by rw [z1]; decide), f_Md_mesh, z2, Option.bind_some, if_neg n10]
    by_cases hb : ∃ c, c < A ∧ a2 = jN c
    · obtain ⟨b, hb, rfl⟩ := hb
      obtain ⟨y1, y2⟩ := ar_y (L := L) (K := K) g1.2.1 j0 A24 hb
      rw [if_neg (by rw [y1]; decide), y2, Option.bind_some, if_neg n10, w1, w3, w4]
      simp only [bnd]
      by_cases e : jN a = jN b
      · rw [if_pos e, if_pos e]; exact RES.nop h rfl rfl
      rw [if_neg e, if_neg e]
      by_cases v1 : f_H_isWithin a1 1 200 = 0
      · rw [if_pos v1, if_pos v1]; exact RES.nop h rfl rfl
      rw [if_neg v1, if_neg v1]
      by_cases v3 : f_H_isWithin a3 1 200 = 0
      · rw [if_pos v3, if_pos v3]; exact RES.nop h rfl rfl
      rw [if_neg v3, if_neg v3]
      by_cases v4 : f_H_isWithin a4 0 1 = 0
      · rw [if_pos v4, if_pos v4]; exact RES.nop h rfl rfl
      rw [if_neg v4, if_neg v4, bi3, f_H_mesh_L97, f_H_mesh_L97, bi3, bi3]
      obtain ⟨m, rfl, m1, m2⟩ := ra (a := 1) (b := 200) (wi_ne.mp v1) (by decide) (by decide)
      obtain ⟨n, rfl, q1, q2⟩ := ra (a := 1) (b := 200) (wi_ne.mp v3) (by decide) (by decide)
      obtain ⟨t, rfl, t1, t2⟩ := ra (a := 0) (b := 1) (wi_ne.mp v4) (by decide) (by decide)
      have hab : a ≠ b := fun q => e (by rw [q])
      rcases h4 with hg | hg
      · rw [if_pos hg]
        have : t = 0 ∨ t = 1 := by omega
        rcases this with rfl | rfl
        · rw [if_neg (by decide)]
          exact link_ok h hg g1 (fun _ => ⟨a, b, m, n, ⟨ha, hb, hab, m1, m2, q1, q2⟩, ⟨by simp [I3of, uI], by simp [J3of, uI], by simp [I3of, uI], by simp [J3of, uI], by simp [I3of, uI], by simp [J3of, uI], by simp [J3of, uI]⟩, Or.inl ⟨by simp [J3of, uI]; rfl, by simp [I3of, uI], by simp [I3of, uI]⟩⟩)
        · rw [if_pos (by decide)]
          exact link_ok h hg g1 (fun _ => ⟨a, b, m, n, ⟨ha, hb, hab, m1, m2, q1, q2⟩, ⟨by simp [I3of, uI], by simp [J3of, uI], by simp [I3of, uI], by simp [J3of, uI], by simp [I3of, uI], by simp [J3of, uI], by simp [J3of, uI]⟩, Or.inr (Or.inl ⟨by simp [J3of, uI]; rfl, by simp [I3of, uI], by simp [I3of, uI]⟩)⟩)
      · have n0 : ¬ I 0 8 = 0 := by rw [hg]; decide
        rw [if_neg n0]
        exact RES.nop h rfl (by rw [f_Md_link, if_neg (by rw [← h3]; exact n0)])
    · obtain ⟨y1, y2⟩ := ar_n (L := L) (K := K) g1.2.1 j0 A24 hb
      rw [if_pos y1, y2, Option.bind_some, if_pos rfl]
      exact RES.nop h rfl rfl
  · obtain ⟨z1, z2⟩ := ar_n (L := L) (K := K) g1.2.1 j0 A24 ha
    exact RES.nop (v := -1) h (by rw [f_H_mesh, if_pos z1]) (by rw [f_Md_mesh, z2, Option.bind_some, if_pos rfl])
theorem op_epicycle {a0 a1 a2 a3 a4 : Int32} (h : MOV k S Rf I J L K) : RES (k + 1) S Rf (f_H_epicycle a0 a1 a2 a3 a4 I L) (f_Md_epicycle a0 a1 a2 a3 a4 J K) := by
  obtain ⟨h1, h2, ⟨h3, h4⟩, A, A0, T, nl, nc, nw, pc, pw, r, n', s, g1, g2, g3, g4, g5⟩ := id h
  have A24 := g1.1.1.2.2.1
  have j0 := g1.1.1.2.2.2.2.2.1
  have n10 : ¬ (1 : Int32) = 0 := by decide
  have w1 : f_Md_within a1.toInt64 1 200 = f_H_isWithin a1 1 200 := w_eq rfl rfl
  have w3 : f_Md_within a3.toInt64 1 200 = f_H_isWithin a3 1 200 := w_eq rfl rfl
  by_cases ha : ∃ c, c < A ∧ a0 = jN c
  · obtain ⟨a, ha, rfl⟩ := ha
    obtain ⟨z1, z2⟩ := ar_y (L := L) (K := K) g1.2.1 j0 A24 ha
    rw [f_H_epicycle, if_neg (by rw [z1]; decide), f_Md_epicycle, z2, Option.bind_some, if_neg n10]
    by_cases hb : ∃ c, c < A ∧ a2 = jN c
    · obtain ⟨b, hb, rfl⟩ := hb
      obtain ⟨y1, y2⟩ := ar_y (L := L) (K := K) g1.2.1 j0 A24 hb
      rw [if_neg (by rw [y1]; decide), y2, Option.bind_some, if_neg n10]
      by_cases hc : ∃ c, c < A ∧ a4 = jN c
      · obtain ⟨c, hc, rfl⟩ := hc
        obtain ⟨x1, x2⟩ := ar_y (L := L) (K := K) g1.2.1 j0 A24 hc
        rw [if_neg (by rw [x1]; decide), x2, Option.bind_some, if_neg n10, w1, w3]
        simp only [bnd]
        by_cases e : jN a = jN b
        · rw [if_pos e, if_pos e]; exact RES.nop h rfl rfl
        rw [if_neg e, if_neg e]
        by_cases e2 : jN a = jN c
        · rw [if_pos e2, if_pos e2]; exact RES.nop h rfl rfl
        rw [if_neg e2, if_neg e2]
        by_cases e3 : jN b = jN c
        · rw [if_pos e3, if_pos e3]; exact RES.nop h rfl rfl
        rw [if_neg e3, if_neg e3]
        by_cases v1 : f_H_isWithin a1 1 200 = 0
        · rw [if_pos v1, if_pos v1]; exact RES.nop h rfl rfl
        rw [if_neg v1, if_neg v1]
        by_cases v3 : f_H_isWithin a3 1 200 = 0
        · rw [if_pos v3, if_pos v3]; exact RES.nop h rfl rfl
        rw [if_neg v3, if_neg v3, bi3, bi3]
        obtain ⟨m, rfl, m1, m2⟩ := ra (a := 1) (b := 200) (wi_ne.mp v1) (by decide) (by decide)
        obtain ⟨n, rfl, q1, q2⟩ := ra (a := 1) (b := 200) (wi_ne.mp v3) (by decide) (by decide)
        rcases h4 with hg | hg
        · rw [if_pos hg]
          exact link_ok h hg g1 (fun _ => ⟨a, b, m, n, ⟨ha, hb, fun q => e (by rw [q]), m1, m2, q1, q2⟩, ⟨by simp [I3of, uI], by simp [J3of, uI], by simp [I3of, uI], by simp [J3of, uI], by simp [I3of, uI], by simp [J3of, uI], by simp [J3of, uI]⟩, Or.inr (Or.inr ⟨by simp [J3of, uI], by simp [I3of, uI], c, ⟨hc, fun q => e2 (by rw [q]), fun q => e3 (by rw [q])⟩, by simp [I3of, uI], by simp [J3of, uI], by simp [I3of, uI]⟩)⟩)
        · have n0 : ¬ I 0 8 = 0 := by rw [hg]; decide
          rw [if_neg n0]
          exact RES.nop h rfl (by rw [f_Md_link, if_neg (by rw [← h3]; exact n0)])
      · obtain ⟨y1, y2⟩ := ar_n (L := L) (K := K) g1.2.1 j0 A24 hc
        rw [if_pos y1, y2, Option.bind_some, if_pos rfl]
        exact RES.nop h rfl rfl
    · obtain ⟨y1, y2⟩ := ar_n (L := L) (K := K) g1.2.1 j0 A24 hb
      rw [if_pos y1, y2, Option.bind_some, if_pos rfl]
      exact RES.nop h rfl rfl
  · obtain ⟨z1, z2⟩ := ar_n (L := L) (K := K) g1.2.1 j0 A24 ha
    exact RES.nop (v := -1) h (by rw [f_H_epicycle, if_pos z1]) (by rw [f_Md_epicycle, z2, Option.bind_some, if_pos rfl])
theorem MOV_cfg {I' J' : Nat → Nat → Int32} (h : MOV k S Rf I J L K) (hg : I 0 8 = 0) (g1 : GRS A A0 T nl I J L) (g2 : COR S Rf A nc nw pc pw 0 0 0 I J L K) (g3 : BOK 0 I J) (g4 : STI S nc nw pc pw I I L L) (g5 : STJ A nc nw J J K K) (fI : ∀ a j, ¬ (a = 1 ∧ 1 ≤ j ∧ j ≤ 5) → a ≠ 8 → I' a j = I a j) (fJ : ∀ a j, ¬ (a = 34 ∧ 10 ≤ j ∧ j ≤ 14) → a ≠ 41 → J' a j = J a j) (cb : CB I' J') (hp : ∀ j, j < 9 → I' 8 j = J' 41 j) (hb : I' 1 5 = J' 34 14) (hk : I' 1 5 = -1 ∨ ∃ b, b < A ∧ I' 1 5 = jN b) : MOV (k + 1) S Rf I' J' L K := by
  have h3 := h.2.2.1.1
  have m0 : J 34 24 = 0 := by rw [← h3]; exact hg
  have g1' : GRS A A0 T nl I' J' L := GRS_ext g1 (fun a j q => fI a j (by omega) (by omega)) (fun j q => fJ 34 j (by omega) (by omega)) (fun a j q1 q2 => fJ a j (by omega) (by omega)) (fun _ _ _ => rfl)
  exact MOV_b (SHP_mono h.1 (by omega)) (fun j => by rw [fJ 56 j (by omega) (by omega)]; exact h.2.1 j) (by rw [fI 0 8 (by omega) (by omega)]; exact hg) (by rw [fJ 34 24 (by omega) (by omega)]; exact m0) g1' (COR_new g2 (Nat.le_refl _) (WND_b g1' ⟨by rw [fI 1 12 (by omega) (by omega)]; exact g4.2.1.2.2.2.2.1, by rw [fJ 34 25 (by omega) (by omega)]; exact g5.2.1.1⟩ hb hk g4.2.2.1 g5.2.2.1) cb hp (fun a j q => fI a j (by omega) (by omega)) (fun a j q => fJ a j (by omega) (by omega))) (BOK_ext g3 (fun a j q => fI a j (by omega) (by omega)) (fun j q => fJ 34 j (by omega) (by omega)) (fun j => fJ 55 j (by omega) (by omega))) (STI_b g2.2.2.2.2.1 g2.2.2.2.2.2.2.2.2 g4 (fun j q => fI 1 j (by omega) (by omega)) (fI 9 3 (by omega) (by omega)) (fI 13 3 (by omega) (by omega)) (fun a j q => fI a j (by omega) (by omega)) rfl) (STJ_b g5 (fun j q1 q2 => fJ 34 j (by omega) (by omega)) (fun a j q => fJ a j (by omega) (by omega)) rfl)
theorem op_balance {a0 a1 a2 a3 : Int32} (h : MOV k S Rf I J L K) : RES (k + 1) S Rf (f_H_balance a0 a1 a2 a3 I L) (f_Md_balance a0 a1 a2 a3 J K) := by
  have h3 := h.2.2.1.1
  have w0 : f_Md_within a0.toInt64 1 4096 = f_H_isWithin a0 1 4096 := w_eq rfl rfl
  have w1 : f_Md_within a1.toInt64 0 1000 = f_H_isWithin a1 0 1000 := w_eq rfl rfl
  have w2 : f_Md_within a2.toInt64 0 65536 = f_H_isWithin a2 0 65536 := w_eq rfl rfl
  have w3 : f_Md_within a3.toInt64 1 10000000 = f_H_isWithin a3 1 10000000 := w_eq rfl rfl
  rw [f_H_balance, f_Md_balance, w0, w1, w2, w3]
  simp only [bnd]
  by_cases v0 : f_H_isWithin a0 1 4096 = 0
  · rw [if_pos v0, if_pos v0]; exact RES.nop h rfl rfl
  rw [if_neg v0, if_neg v0]
  by_cases v1 : f_H_isWithin a1 0 1000 = 0
  · rw [if_pos v1, if_pos v1]; exact RES.nop h rfl rfl
  rw [if_neg v1, if_neg v1]
  by_cases v2 : f_H_isWithin a2 0 65536 = 0
  · rw [if_pos v2, if_pos v2]; exact RES.nop h rfl rfl
  rw [if_neg v2, if_neg v2]
  by_cases v3 : f_H_isWithin a3 1 10000000 = 0
  · rw [if_pos v3, if_pos v3]; exact RES.nop h rfl rfl
  rw [if_neg v3, if_neg v3]
  rcases h.2.2.1.2 with hg | hg
  · have m0 : J 34 24 = 0 := by rw [← h3]; exact hg
    obtain ⟨A, A0, T, nl, nc, nw, pc, pw, g1, g2, g3, g4, g5⟩ := MOV_d h hg
    rw [if_pos hg, if_pos m0, f_Es_setBalance, Option.bind_some]
    simp only []
    refine ⟨0, _, L, _, K, rfl, rfl, MOV_cfg h hg g1 g2 g3 g4 g5 (fun a j q1 q2 => ?_) (fun a j q1 q2 => ?_) ?_ (fun j hj => ?_) ?_ ?_⟩
    · rw [uI_o (by omega), uI_o (by omega), uI_o (by omega), uI_o (by omega)]
    · rw [uI_o (by omega), uI_o (by omega), uI_o (by omega), uI_o (by omega)]
    · exact ⟨⟨by simp [uI], by simp [uI], by simp [uI], by simp [uI]⟩, by simp [uI]; exact wi_ne.mp v1, by simp [uI]; exact wi_ne.mp v3⟩
    · simp [uI]; exact g2.2.2.2.1 j hj
    · simp [uI]; exact g2.2.1.1.2.2.2.1
    · simp [uI]; exact barK g2.2.1
  · have n0 : ¬ I 0 8 = 0 := by rw [hg]; decide
    rw [if_neg n0, if_neg (by rw [← h3]; exact n0)]
    exact RES.nop h rfl rfl
theorem op_barrel {a0 : Int32} (h : MOV k S Rf I J L K) : RES (k + 1) S Rf (f_H_barrel a0 I L) (f_Md_barrel a0 J K) := by
  obtain ⟨h1, h2, ⟨h3, h4⟩, A, A0, T, nl, nc, nw, pc, pw, r, n', s, y1, _⟩ := id h
  have A24 := y1.1.1.2.2.1
  have j0 := y1.1.1.2.2.2.2.2.1
  have fin : (a0 = -1 ∨ ∃ b, b < A ∧ a0 = jN b) → RES (k + 1) S Rf (f_H_barrel_L18 a0 I L) (f_Md_barrel_L15 a0 J K) := by
    intro hb
    rw [f_H_barrel_L18, f_Md_barrel_L15]
    rcases h4 with hg | hg
    · have m0 : J 34 24 = 0 := by rw [← h3]; exact hg
      obtain ⟨A', A0, T, nl, nc, nw, pc, pw, g1, g2, g3, g4, g5⟩ := MOV_d h hg
      have eA : A' = A := (jN_inj (by have := g1.1.1.2.2.1; omega) (by omega)).mp (g1.2.1.symm.trans y1.2.1)
      subst eA
      rw [if_pos hg, if_pos m0]
      refine ⟨0, _, L, _, K, rfl, rfl, MOV_cfg h hg g1 g2 g3 g4 g5 (fun a j q1 q2 => uI_o (by omega)) (fun a j q1 q2 => uI_o (by omega)) ?_ (fun j hj => ?_) ?_ ?_⟩
      · exact CB_ext g2.2.2.1 (fun j _ _ => uI_o (by omega)) (fun j _ _ => uI_o (by omega))
      · simp [uI]; exact g2.2.2.2.1 j hj
      · simp [uI]
      · simp [uI]; exact hb
    · have n0 : ¬ I 0 8 = 0 := by rw [hg]; decide
      rw [if_neg n0, if_neg (by rw [← h3]; exact n0)]
      exact RES.nop h rfl rfl
  rw [f_H_barrel, f_Md_barrel]
  by_cases e : a0 = -1
  · rw [if_pos e, if_pos e]; exact fin (Or.inl e)
  · rw [if_neg e, if_neg e]
    by_cases ha : ∃ c, c < A ∧ a0 = jN c
    · have ha' := ha
      obtain ⟨a, ha, rfl⟩ := ha
      obtain ⟨z1, z2⟩ := ar_y (L := L) (K := K) y1.2.1 j0 A24 ha
      rw [if_neg (by rw [z1]; decide), z2, Option.bind_some, if_neg (show ¬ (1 : Int32) = 0 by decide)]
      exact fin (Or.inr ha')
    · obtain ⟨z1, z2⟩ := ar_n (L := L) (K := K) y1.2.1 j0 A24 ha
      rw [if_pos z1, z2, Option.bind_some, if_pos rfl]
      exact RES.nop h rfl rfl
theorem op_torque {a0 a1 : Int32} (h : MOV k S Rf I J L K) : RES (k + 1) S Rf (f_H_torque a0 a1 I L) (f_Md_torque a0 a1 J K) := by
  have h3 := h.2.2.1.1
  have w0 : f_Md_within a0.toInt64 0 8 = f_H_isWithin a0 0 8 := w_eq rfl rfl
  have w1 : f_Md_within a1.toInt64 0 1000000 = f_H_isWithin a1 0 1000000 := w_eq rfl rfl
  rw [f_H_torque, f_Md_torque, w0, w1]
  simp only [bnd]
  by_cases v0 : f_H_isWithin a0 0 8 = 0
  · rw [if_pos v0, if_pos v0]; exact RES.nop h rfl rfl
  rw [if_neg v0, if_neg v0]
  by_cases v1 : f_H_isWithin a1 0 1000000 = 0
  · rw [if_pos v1, if_pos v1]; exact RES.nop h rfl rfl
  rw [if_neg v1, if_neg v1]
  rcases h.2.2.1.2 with hg | hg
  · have m0 : J 34 24 = 0 := by rw [← h3]; exact hg
    obtain ⟨A, A0, T, nl, nc, nw, pc, pw, g1, g2, g3, g4, g5⟩ := MOV_d h hg
    obtain ⟨t, rfl, t1, t2⟩ := ra (a := 0) (b := 8) (wi_ne.mp v0) (by decide) (by decide)
    have c : 0 ≤ jN t ∧ jN t < 9 := jN_in (n := 9) (by omega) (by decide)
    rw [if_pos hg, if_pos m0, if_pos c, if_pos c, if_pos c, if_pos c, jN_tc (by omega)]
    refine ⟨I 8 t, _, L, _, K, rfl, by rw [g2.2.2.2.1 t (by omega)], MOV_cfg h hg g1 g2 g3 g4 g5 (fun a j q1 q2 => uI_o (by omega)) (fun a j q1 q2 => uI_o (by omega)) ?_ (fun j hj => ?_) ?_ ?_⟩
    · exact CB_ext g2.2.2.1 (fun j _ _ => uI_o (by omega)) (fun j _ _ => uI_o (by omega))
    · by_cases e : j = t
      · subst e; simp [uI]
      · simp [uI, e]; exact g2.2.2.2.1 j hj
    · simp [uI]; exact g2.2.1.1.2.2.2.1
    · simp [uI]; exact barK g2.2.1
  · have n0 : ¬ I 0 8 = 0 := by rw [hg]; decide
    rw [if_neg n0, if_neg (by rw [← h3]; exact n0)]
    exact RES.nop h rfl rfl
end LNQ

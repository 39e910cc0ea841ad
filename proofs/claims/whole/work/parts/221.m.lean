theorem dX12_run_0 : decode cX12_run 0 = .ok (.iload_n 1, 1) := by decide +kernel
theorem dX12_run_1 : decode cX12_run 1 = .ok (.i2l, 1) := by decide +kernel
theorem dX12_run_2 : decode cX12_run 2 = .ok (.lconst 0, 1) := by decide +kernel
theorem dX12_run_3 : decode cX12_run 3 = .ok (.ldc2_w 376, 3) := by decide +kernel
theorem dX12_run_6 : decode cX12_run 6 = .ok (.invokestatic 140, 3) := by decide +kernel
theorem dX12_run_9 : decode cX12_run 9 = .ok (.ifCond .ne 5, 3) := by decide +kernel
theorem dX12_run_12 : decode cX12_run 12 = .ok (.iconst (-1), 1) := by decide +kernel
theorem dX12_run_13 : decode cX12_run 13 = .ok (.ireturn, 1) := by decide +kernel
theorem dX12_run_14 : decode cX12_run 14 = .ok (.aload_n 0, 1) := by decide +kernel
theorem dX12_run_15 : decode cX12_run 15 = .ok (.getfield 178, 3) := by decide +kernel
theorem dX12_run_18 : decode cX12_run 18 = .ok (.ifCond .ne 6, 3) := by decide +kernel
theorem dX12_run_21 : decode cX12_run 21 = .ok (.bipush (-2), 2) := by decide +kernel
theorem dX12_run_23 : decode cX12_run 23 = .ok (.ireturn, 1) := by decide +kernel
theorem dX12_run_24 : decode cX12_run 24 = .ok (.aload_n 0, 1) := by decide +kernel
theorem dX12_run_25 : decode cX12_run 25 = .ok (.getfield 188, 3) := by decide +kernel
theorem dX12_run_28 : decode cX12_run 28 = .ok (.iload_n 1, 1) := by decide +kernel
theorem dX12_run_29 : decode cX12_run 29 = .ok (.iadd, 1) := by decide +kernel
theorem dX12_run_30 : decode cX12_run 30 = .ok (.ldc_w 378, 3) := by decide +kernel
theorem dX12_run_33 : decode cX12_run 33 = .ok (.if_icmp .gt 10, 3) := by decide +kernel
theorem dX12_run_36 : decode cX12_run 36 = .ok (.aload_n 0, 1) := by decide +kernel
theorem dX12_run_37 : decode cX12_run 37 = .ok (.invokevirtual 379, 3) := by decide +kernel
theorem dX12_run_40 : decode cX12_run 40 = .ok (.ifCond .eq 6, 3) := by decide +kernel
theorem dX12_run_43 : decode cX12_run 43 = .ok (.bipush (-3), 2) := by decide +kernel
theorem dX12_run_45 : decode cX12_run 45 = .ok (.ireturn, 1) := by decide +kernel
theorem dX12_run_46 : decode cX12_run 46 = .ok (.iconst 0, 1) := by decide +kernel
theorem dX12_run_47 : decode cX12_run 47 = .ok (.istore_n 2, 1) := by decide +kernel
theorem dX12_run_48 : decode cX12_run 48 = .ok (.iconst 0, 1) := by decide +kernel
theorem dX12_run_49 : decode cX12_run 49 = .ok (.istore_n 3, 1) := by decide +kernel
theorem dX12_run_50 : decode cX12_run 50 = .ok (.iload_n 3, 1) := by decide +kernel
theorem dX12_run_51 : decode cX12_run 51 = .ok (.iload_n 1, 1) := by decide +kernel
theorem dX12_run_52 : decode cX12_run 52 = .ok (.if_icmp .ge 24, 3) := by decide +kernel
theorem dX12_run_55 : decode cX12_run 55 = .ok (.iload_n 2, 1) := by decide +kernel
theorem dX12_run_56 : decode cX12_run 56 = .ok (.aload_n 0, 1) := by decide +kernel
theorem dX12_run_57 : decode cX12_run 57 = .ok (.invokevirtual 382, 3) := by decide +kernel
theorem dX12_run_60 : decode cX12_run 60 = .ok (.ifCond .eq 7, 3) := by decide +kernel
theorem dX12_run_63 : decode cX12_run 63 = .ok (.iconst 1, 1) := by decide +kernel
theorem dX12_run_64 : decode cX12_run 64 = .ok (.goto 4, 3) := by decide +kernel
theorem dX12_run_67 : decode cX12_run 67 = .ok (.iconst 0, 1) := by decide +kernel
theorem dX12_run_68 : decode cX12_run 68 = .ok (.iadd, 1) := by decide +kernel
theorem dX12_run_69 : decode cX12_run 69 = .ok (.istore_n 2, 1) := by decide +kernel
theorem dX12_run_70 : decode cX12_run 70 = .ok (.iinc 3 1, 3) := by decide +kernel
theorem dX12_run_73 : decode cX12_run 73 = .ok (.goto (-23), 3) := by decide +kernel
theorem dX12_run_76 : decode cX12_run 76 = .ok (.aload_n 0, 1) := by decide +kernel
theorem dX12_run_77 : decode cX12_run 77 = .ok (.iconst 0, 1) := by decide +kernel
theorem dX12_run_78 : decode cX12_run 78 = .ok (.iload_n 1, 1) := by decide +kernel
theorem dX12_run_79 : decode cX12_run 79 = .ok (.iconst 0, 1) := by decide +kernel
theorem dX12_run_80 : decode cX12_run 80 = .ok (.iconst 0, 1) := by decide +kernel
theorem dX12_run_81 : decode cX12_run 81 = .ok (.invokevirtual 385, 3) := by decide +kernel
theorem dX12_run_84 : decode cX12_run 84 = .ok (.iload_n 2, 1) := by decide +kernel
theorem dX12_run_85 : decode cX12_run 85 = .ok (.ireturn, 1) := by decide +kernel
def f_Md_run_L50 : Nat → Int32 → Int32 → Int32 → (Nat → Nat → Int32) → (Nat → Nat → Int64) → Option (Int32 × (Nat → Nat → Int32) × (Nat → Nat → Int64))
  | 0, _, _, _, _, _ => none
  | n + 1, l1, l2, l3, I, L => (if l1 ≤ l3 then ((f_Md_write (0 : Int32) l1 (0 : Int32) (0 : Int32) I L).bind fun q7 => (some (l2, q7.1, q7.2))) else ((f_Md_step I L).bind fun q9 => (if q9.1 = (0 : Int32) then (bnd (l2 + (0 : Int32)) fun x12 => (f_Md_run_L50 n l1 x12 (l3 + (1 : Int32)) q9.2.1 q9.2.2)) else (bnd (l2 + (1 : Int32)) fun x13 => (f_Md_run_L50 n l1 x13 (l3 + (1 : Int32)) q9.2.1 q9.2.2)))))
set_option maxRecDepth 100000 in
set_option maxHeartbeats 4000000 in
theorem x_Md_run_L50 {G : xG} {S : List xSh} {Rf : Nat → Nat → Option Nat} (hT : xTM S Rf) : ∀ (n : Nat) {l1 : Int32} {l2 : Int32} {l3 : Int32} {I : Nat → Nat → Int32} {L : Nat → Nat → Int64} {q : (Int32 × (Nat → Nat → Int32) × (Nat → Nat → Int64))}, f_Md_run_L50 n l1 l2 l3 I L = some q → X G 8 m_Md_run 50 [(0, .ref (xP G 34)), (1, .int l1), (2, .int l2), (3, .int l3)] [] (S, I, L, Rf) (some (.int q.1), (S, q.2.1, q.2.2, Rf)) := by
  intro n
  induction n with
  | zero =>
    intro l1 l2 l3 I L q hf
    exact absurd (show none = some q from hf) (by simp)
  | succ n ih =>
    intro l1 l2 l3 I L q hf
    replace hf := (f_Md_run_L50.eq_2 _ _ _ _ _ _).symm.trans hf
    refine X_iload_n (pc := 50) (i := 3) 3 dX12_run_50 rfl rfl ?_
    refine X_iload_n (pc := 51) (i := 1) 1 dX12_run_51 rfl rfl ?_
    by_cases c6 : l1 ≤ l3
    · replace hf := (if_pos c6).symm.trans hf
      refine X_icmp_ge_t (pc := 52) 76 dX12_run_52 (by decide) c6 ?_
      refine X_aload_n (pc := 76) (i := 0) 0 dX12_run_76 rfl rfl ?_
      refine X_iconst (pc := 77) (0 : Int32) dX12_run_77 (by decide) ?_
      refine X_iload_n (pc := 78) (i := 1) 1 dX12_run_78 rfl rfl ?_
      refine X_iconst (pc := 79) (0 : Int32) dX12_run_79 (by decide) ?_
      refine X_iconst (pc := 80) (0 : Int32) dX12_run_80 (by decide) ?_
      obtain ⟨q7, c8, hf⟩ := bd_some hf
      refine X_invV_v (pc := 81) (c_Md_write hT c8) ok_Md_write (ci := 11) (sh_34 hT) k_1639 k_1641 k_63 nd_2 (by decide) rfl (Nat.le_of_ble_eq_true rfl) dX12_run_81 ?_
      refine X_iload_n (pc := 84) (i := 2) 2 dX12_run_84 rfl rfl ?_
      cases hf
      exact X_ireturn (pc := 85) rfl dX12_run_85
    · replace hf := (if_neg c6).symm.trans hf
      refine X_icmp_ge_f (pc := 52) 76 dX12_run_52 (by decide) c6 ?_
      refine X_iload_n (pc := 55) (i := 2) 2 dX12_run_55 rfl rfl ?_
      refine X_aload_n (pc := 56) (i := 0) 0 dX12_run_56 rfl rfl ?_
      obtain ⟨q9, c10, hf⟩ := bd_some hf
      refine X_invV_i (pc := 57) (c_Md_step hT c10) ok_Md_step (ci := 11) (sh_34 hT) k_1583 k_1585 k_52 nd_11 (by decide) rfl (Nat.le_of_ble_eq_true rfl) dX12_run_57 ?_
      by_cases c11 : q9.1 = (0 : Int32)
      · replace hf := (if_pos c11).symm.trans hf
        refine X_if_eq_t (pc := 60) 67 dX12_run_60 (by decide) c11 ?_
        refine X_iconst (pc := 67) (0 : Int32) dX12_run_67 (by decide) ?_
        refine X_iadd (pc := 68) dX12_run_68 ?_
        obtain ⟨x12, ex12, hf⟩ := bnd_e hf
        refine X_tope ex12 ?_
        refine X_istore_n (pc := 69) (i := 2) [(2, .int x12), (0, .ref (xP G 34)), (1, .int l1), (3, .int l3)] dX12_run_69 rfl (by decide) rfl ?_
        refine X_iinc (pc := 70) (i := 3) (q := 3) (v := (l3 + (1 : Int32))) [(3, .int (l3 + (1 : Int32))), (2, .int x12), (0, .ref (xP G 34)), (1, .int l1)] dX12_run_70 rfl rfl (by decide) rfl ?_
        refine X_goto (pc := 73) 50 dX12_run_73 (by decide) ?_
        exact X_lvs [2, 3, 1, 0] rfl (ih hf)
      · replace hf := (if_neg c11).symm.trans hf
        refine X_if_eq_f (pc := 60) 67 dX12_run_60 (by decide) c11 ?_
        refine X_iconst (pc := 63) (1 : Int32) dX12_run_63 (by decide) ?_
        refine X_goto (pc := 64) 68 dX12_run_64 (by decide) ?_
        refine X_iadd (pc := 68) dX12_run_68 ?_
        obtain ⟨x13, ex13, hf⟩ := bnd_e hf
        refine X_tope ex13 ?_
        refine X_istore_n (pc := 69) (i := 2) [(2, .int x13), (0, .ref (xP G 34)), (1, .int l1), (3, .int l3)] dX12_run_69 rfl (by decide) rfl ?_
        refine X_iinc (pc := 70) (i := 3) (q := 3) (v := (l3 + (1 : Int32))) [(3, .int (l3 + (1 : Int32))), (2, .int x13), (0, .ref (xP G 34)), (1, .int l1)] dX12_run_70 rfl rfl (by decide) rfl ?_
        refine X_goto (pc := 73) 50 dX12_run_73 (by decide) ?_
        exact X_lvs [2, 3, 1, 0] rfl (ih hf)
theorem u_Md_run_L50 {S : List xSh} : ∀ (n : Nat) {l1 : Int32} {l2 : Int32} {l3 : Int32} {I : Nat → Nat → Int32} {L : Nat → Nat → Int64} {q : (Int32 × (Nat → Nat → Int32) × (Nat → Nat → Int64))}, f_Md_run_L50 n l1 l2 l3 I L = some q → FR S [48, 50, 53, 54, 55, 56, 4425, 4426, 4427, 4428, 4429, 4430, 4431, 4440, 4442, 4445, 4446, 4447] [] I q.2.1 L q.2.2 := by
  intro n
  induction n with
  | zero =>
    intro l1 l2 l3 I L q hf
    exact absurd (show none = some q from hf) (by simp)
  | succ n ih =>
    intro l1 l2 l3 I L q hf
    replace hf := (f_Md_run_L50.eq_2 _ _ _ _ _ _).symm.trans hf
    by_cases c6 : l1 ≤ l3
    · replace hf := (if_pos c6).symm.trans hf
      obtain ⟨q7, c8, hf⟩ := bd_some hf
      cases hf
      exact (FR.tr FR.rf (u_Md_write (q := q7) c8) (by decide) (by decide))
    · replace hf := (if_neg c6).symm.trans hf
      obtain ⟨q9, c10, hf⟩ := bd_some hf
      by_cases c11 : q9.1 = (0 : Int32)
      · replace hf := (if_pos c11).symm.trans hf
        obtain ⟨x12, ex12, hf⟩ := bnd_e hf
        exact FR.tr (FR.tr FR.rf (u_Md_step (q := q9) c10) (by decide) (by decide)) (ih hf) (by decide) (by decide)
      · replace hf := (if_neg c11).symm.trans hf
        obtain ⟨x13, ex13, hf⟩ := bnd_e hf
        exact FR.tr (FR.tr FR.rf (u_Md_step (q := q9) c10) (by decide) (by decide)) (ih hf) (by decide) (by decide)
def f_Md_run (a0 : Int32) (I : Nat → Nat → Int32) (L : Nat → Nat → Int64) : Option (Int32 × (Nat → Nat → Int32) × (Nat → Nat → Int64)) := (bnd (f_Md_within (Int32.toInt64 a0) (0 : Int64) (20000 : Int64)) fun x1 => (if x1 = (0 : Int32) then (some ((-1 : Int32), I, L)) else (if (I 34 24) = (0 : Int32) then (some ((-2 : Int32), I, L)) else (if (200000 : Int32) < ((I 34 26) + a0) then (some ((-3 : Int32), I, L)) else (if (f_Md_isBookFull I L) = (0 : Int32) then (f_Md_run_L50 xF a0 (0 : Int32) (0 : Int32) I L) else (some ((-3 : Int32), I, L)))))))
set_option maxRecDepth 100000 in
set_option maxHeartbeats 4000000 in
theorem c_Md_run {G : xG} {S : List xSh} {Rf : Nat → Nat → Option Nat} (hT : xTM S Rf) {a0 : Int32} {I : Nat → Nat → Int32} {L : Nat → Nat → Int64} {q : (Int32 × (Nat → Nat → Int32) × (Nat → Nat → Int64))} (hf : f_Md_run a0 I L = some q) : CT G 8 m_Md_run [.ref (xP G 34), .int a0] (S, I, L, Rf) (some (.int q.1), (S, q.2.1, q.2.2, Rf)) := by
  refine CT.of (by decide +kernel) (Nat.le_of_ble_eq_true rfl) ?_
  show X G 8 m_Md_run 0 [(0, .ref (xP G 34)), (1, .int a0)] [] (S, I, L, Rf) (some (.int q.1), (S, q.2.1, q.2.2, Rf))
  replace hf := (f_Md_run.eq_1 _ _ _).symm.trans hf
  refine X_iload_n (pc := 0) (i := 1) 1 dX12_run_0 rfl rfl ?_
  refine X_i2l (pc := 1) dX12_run_1 ?_
  refine X_lconst (pc := 2) (0 : Int64) dX12_run_2 (by decide) ?_
  refine X_ldc2 (pc := 3) (20000 : Int64) k_1577 dX12_run_3 ?_
  refine X_invS_i (pc := 6) (c_Md_within hT rfl) ok_Md_within k_1482 k_1483 nd_33 (by decide) rfl (Nat.le_of_ble_eq_true rfl) dX12_run_6 ?_
  obtain ⟨x1, ex1, hf⟩ := bnd_e hf
  refine X_tope ex1 ?_
  by_cases c2 : x1 = (0 : Int32)
  · replace hf := (if_pos c2).symm.trans hf
    refine X_if_ne_f (pc := 9) 14 dX12_run_9 (by decide) c2 ?_
    refine X_iconst (pc := 12) (-1 : Int32) dX12_run_12 (by decide) ?_
    cases hf
    exact X_ireturn (pc := 13) rfl dX12_run_13
  · replace hf := (if_neg c2).symm.trans hf
    refine X_if_ne_t (pc := 9) 14 dX12_run_9 (by decide) c2 ?_
    refine X_aload_n (pc := 14) (i := 0) 0 dX12_run_14 rfl rfl ?_
    refine X_get (pc := 15) (a := 34) (ci := 11) (j := 24) (.int (I 34 24)) (sh_34 hT) (by decide) k_1252 rfl dX12_run_15 ?_
    by_cases c3 : (I 34 24) = (0 : Int32)
    · replace hf := (if_pos c3).symm.trans hf
      refine X_if_ne_f (pc := 18) 24 dX12_run_18 (by decide) c3 ?_
      refine X_bipush (pc := 21) (-2 : Int32) dX12_run_21 (by decide) ?_
      cases hf
      exact X_ireturn (pc := 23) rfl dX12_run_23
    · replace hf := (if_neg c3).symm.trans hf
      refine X_if_ne_t (pc := 18) 24 dX12_run_18 (by decide) c3 ?_
      refine X_aload_n (pc := 24) (i := 0) 0 dX12_run_24 rfl rfl ?_
      refine X_get (pc := 25) (a := 34) (ci := 11) (j := 26) (.int (I 34 26)) (sh_34 hT) (by decide) k_1254 rfl dX12_run_25 ?_
      refine X_iload_n (pc := 28) (i := 1) 1 dX12_run_28 rfl rfl ?_
      refine X_iadd (pc := 29) dX12_run_29 ?_
      refine X_ldcw (pc := 30) (200000 : Int32) k_1578 dX12_run_30 ?_
      by_cases c4 : (200000 : Int32) < ((I 34 26) + a0)
      · replace hf := (if_pos c4).symm.trans hf
        refine X_icmp_gt_t (pc := 33) 43 dX12_run_33 (by decide) c4 ?_
        refine X_bipush (pc := 43) (-3 : Int32) dX12_run_43 (by decide) ?_
        cases hf
        exact X_ireturn (pc := 45) rfl dX12_run_45
      · replace hf := (if_neg c4).symm.trans hf
        refine X_icmp_gt_f (pc := 33) 43 dX12_run_33 (by decide) c4 ?_
        refine X_aload_n (pc := 36) (i := 0) 0 dX12_run_36 rfl rfl ?_
        refine X_invV_i (pc := 37) (c_Md_isBookFull hT rfl) ok_Md_isBookFull (ci := 11) (sh_34 hT) k_1579 k_1581 k_51 nd_11 (by decide) rfl (Nat.le_of_ble_eq_true rfl) dX12_run_37 ?_
        by_cases c5 : (f_Md_isBookFull I L) = (0 : Int32)
        · replace hf := (if_pos c5).symm.trans hf
          refine X_if_eq_t (pc := 40) 46 dX12_run_40 (by decide) c5 ?_
          refine X_iconst (pc := 46) (0 : Int32) dX12_run_46 (by decide) ?_
          refine X_istore_n (pc := 47) (i := 2) [(2, .int (0 : Int32)), (0, .ref (xP G 34)), (1, .int a0)] dX12_run_47 rfl (by decide) rfl ?_
          refine X_iconst (pc := 48) (0 : Int32) dX12_run_48 (by decide) ?_
          refine X_istore_n (pc := 49) (i := 3) [(3, .int (0 : Int32)), (2, .int (0 : Int32)), (0, .ref (xP G 34)), (1, .int a0)] dX12_run_49 rfl (by decide) rfl ?_
          exact X_lvs [2, 3, 1, 0] rfl (x_Md_run_L50 hT xF hf)
        · replace hf := (if_neg c5).symm.trans hf
          refine X_if_eq_f (pc := 40) 46 dX12_run_40 (by decide) c5 ?_
          refine X_bipush (pc := 43) (-3 : Int32) dX12_run_43 (by decide) ?_
          cases hf
          exact X_ireturn (pc := 45) rfl dX12_run_45
theorem u_Md_run {S : List xSh} {a0 : Int32} {I : Nat → Nat → Int32} {L : Nat → Nat → Int64} {q : (Int32 × (Nat → Nat → Int32) × (Nat → Nat → Int64))} (hf : f_Md_run a0 I L = some q) : FR S [48, 50, 53, 54, 55, 56, 4425, 4426, 4427, 4428, 4429, 4430, 4431, 4440, 4442, 4445, 4446, 4447] [] I q.2.1 L q.2.2 := by
  replace hf := (f_Md_run.eq_1 _ _ _).symm.trans hf
  obtain ⟨x1, ex1, hf⟩ := bnd_e hf
  by_cases c2 : x1 = (0 : Int32)
  · replace hf := (if_pos c2).symm.trans hf
    cases hf
    exact FR.rf
  · replace hf := (if_neg c2).symm.trans hf
    by_cases c3 : (I 34 24) = (0 : Int32)
    · replace hf := (if_pos c3).symm.trans hf
      cases hf
      exact FR.rf
    · replace hf := (if_neg c3).symm.trans hf
      by_cases c4 : (200000 : Int32) < ((I 34 26) + a0)
      · replace hf := (if_pos c4).symm.trans hf
        cases hf
        exact FR.rf
      · replace hf := (if_neg c4).symm.trans hf
        by_cases c5 : (f_Md_isBookFull I L) = (0 : Int32)
        · replace hf := (if_pos c5).symm.trans hf
          exact FR.tr FR.rf (u_Md_run_L50 xF hf) (by decide) (by decide)
        · replace hf := (if_neg c5).symm.trans hf
          cases hf
          exact FR.rf
theorem dX12_shock_0 : decode cX12_shock 0 = .ok (.iload_n 1, 1) := by decide +kernel
theorem dX12_shock_1 : decode cX12_shock 1 = .ok (.i2l, 1) := by decide +kernel
theorem dX12_shock_2 : decode cX12_shock 2 = .ok (.ldc2_w 334, 3) := by decide +kernel
theorem dX12_shock_5 : decode cX12_shock 5 = .ok (.ldc2_w 251, 3) := by decide +kernel
theorem dX12_shock_8 : decode cX12_shock 8 = .ok (.invokestatic 140, 3) := by decide +kernel
theorem dX12_shock_11 : decode cX12_shock 11 = .ok (.ifCond .ne 5, 3) := by decide +kernel
theorem dX12_shock_14 : decode cX12_shock 14 = .ok (.iconst (-1), 1) := by decide +kernel
theorem dX12_shock_15 : decode cX12_shock 15 = .ok (.ireturn, 1) := by decide +kernel
theorem dX12_shock_16 : decode cX12_shock 16 = .ok (.aload_n 0, 1) := by decide +kernel
theorem dX12_shock_17 : decode cX12_shock 17 = .ok (.getfield 178, 3) := by decide +kernel
theorem dX12_shock_20 : decode cX12_shock 20 = .ok (.ifCond .ne 6, 3) := by decide +kernel
theorem dX12_shock_23 : decode cX12_shock 23 = .ok (.bipush (-2), 2) := by decide +kernel
theorem dX12_shock_25 : decode cX12_shock 25 = .ok (.ireturn, 1) := by decide +kernel
theorem dX12_shock_26 : decode cX12_shock 26 = .ok (.aload_n 0, 1) := by decide +kernel
theorem dX12_shock_27 : decode cX12_shock 27 = .ok (.invokevirtual 379, 3) := by decide +kernel
theorem dX12_shock_30 : decode cX12_shock 30 = .ok (.ifCond .eq 6, 3) := by decide +kernel
theorem dX12_shock_33 : decode cX12_shock 33 = .ok (.bipush (-3), 2) := by decide +kernel
theorem dX12_shock_35 : decode cX12_shock 35 = .ok (.ireturn, 1) := by decide +kernel
theorem dX12_shock_36 : decode cX12_shock 36 = .ok (.aload_n 0, 1) := by decide +kernel
theorem dX12_shock_37 : decode cX12_shock 37 = .ok (.aload_n 0, 1) := by decide +kernel
theorem dX12_shock_38 : decode cX12_shock 38 = .ok (.getfield 194, 3) := by decide +kernel
theorem dX12_shock_41 : decode cX12_shock 41 = .ok (.i2l, 1) := by decide +kernel
theorem dX12_shock_42 : decode cX12_shock 42 = .ok (.iload_n 1, 1) := by decide +kernel
theorem dX12_shock_43 : decode cX12_shock 43 = .ok (.i2l, 1) := by decide +kernel
theorem dX12_shock_44 : decode cX12_shock 44 = .ok (.ladd, 1) := by decide +kernel
theorem dX12_shock_45 : decode cX12_shock 45 = .ok (.invokevirtual 342, 3) := by decide +kernel
theorem dX12_shock_48 : decode cX12_shock 48 = .ok (.aload_n 0, 1) := by decide +kernel
theorem dX12_shock_49 : decode cX12_shock 49 = .ok (.iconst 1, 1) := by decide +kernel
theorem dX12_shock_50 : decode cX12_shock 50 = .ok (.iload_n 1, 1) := by decide +kernel
theorem dX12_shock_51 : decode cX12_shock 51 = .ok (.iconst 0, 1) := by decide +kernel
theorem dX12_shock_52 : decode cX12_shock 52 = .ok (.iconst 0, 1) := by decide +kernel
theorem dX12_shock_53 : decode cX12_shock 53 = .ok (.invokevirtual 385, 3) := by decide +kernel
theorem dX12_shock_56 : decode cX12_shock 56 = .ok (.aload_n 0, 1) := by decide +kernel
theorem dX12_shock_57 : decode cX12_shock 57 = .ok (.getfield 194, 3) := by decide +kernel
theorem dX12_shock_60 : decode cX12_shock 60 = .ok (.ireturn, 1) := by decide +kernel
def f_Md_shock (a0 : Int32) (I : Nat → Nat → Int32) (L : Nat → Nat → Int64) : Option (Int32 × (Nat → Nat → Int32) × (Nat → Nat → Int64)) := (bnd (f_Md_within (Int32.toInt64 a0) (-1000000 : Int64) (1000000 : Int64)) fun x1 => (if x1 = (0 : Int32) then (some ((-1 : Int32), I, L)) else (if (I 34 24) = (0 : Int32) then (some ((-2 : Int32), I, L)) else (if (f_Md_isBookFull I L) = (0 : Int32) then ((f_Md_setV ((Int32.toInt64 (I 34 28)) + (Int32.toInt64 a0)) I L).bind fun q5 => ((f_Md_write (1 : Int32) a0 (0 : Int32) (0 : Int32) q5.1 q5.2).bind fun q7 => (some ((q7.1 34 28), q7.1, q7.2)))) else (some ((-3 : Int32), I, L))))))
set_option maxRecDepth 100000 in
set_option maxHeartbeats 4000000 in
theorem c_Md_shock {G : xG} {S : List xSh} {Rf : Nat → Nat → Option Nat} (hT : xTM S Rf) {a0 : Int32} {I : Nat → Nat → Int32} {L : Nat → Nat → Int64} {q : (Int32 × (Nat → Nat → Int32) × (Nat → Nat → Int64))} (hf : f_Md_shock a0 I L = some q) : CT G 2 m_Md_shock [.ref (xP G 34), .int a0] (S, I, L, Rf) (some (.int q.1), (S, q.2.1, q.2.2, Rf)) := by
  refine CT.of (by decide +kernel) (Nat.le_of_ble_eq_true rfl) ?_
  show X G 2 m_Md_shock 0 [(0, .ref (xP G 34)), (1, .int a0)] [] (S, I, L, Rf) (some (.int q.1), (S, q.2.1, q.2.2, Rf))
  replace hf := (f_Md_shock.eq_1 _ _ _).symm.trans hf
  refine X_iload_n (pc := 0) (i := 1) 1 dX12_shock_0 rfl rfl ?_
  refine X_i2l (pc := 1) dX12_shock_1 ?_
  refine X_ldc2 (pc := 2) (-1000000 : Int64) k_1591 dX12_shock_2 ?_
  refine X_ldc2 (pc := 5) (1000000 : Int64) k_1516 dX12_shock_5 ?_
  refine X_invS_i (pc := 8) (c_Md_within hT rfl) ok_Md_within k_1482 k_1483 nd_33 (by decide) rfl (Nat.le_of_ble_eq_true rfl) dX12_shock_8 ?_
  obtain ⟨x1, ex1, hf⟩ := bnd_e hf
  refine X_tope ex1 ?_
  by_cases c2 : x1 = (0 : Int32)
  · replace hf := (if_pos c2).symm.trans hf
    refine X_if_ne_f (pc := 11) 16 dX12_shock_11 (by decide) c2 ?_
    refine X_iconst (pc := 14) (-1 : Int32) dX12_shock_14 (by decide) ?_
    cases hf
    exact X_ireturn (pc := 15) rfl dX12_shock_15
  · replace hf := (if_neg c2).symm.trans hf
    refine X_if_ne_t (pc := 11) 16 dX12_shock_11 (by decide) c2 ?_
    refine X_aload_n (pc := 16) (i := 0) 0 dX12_shock_16 rfl rfl ?_
    refine X_get (pc := 17) (a := 34) (ci := 11) (j := 24) (.int (I 34 24)) (sh_34 hT) (by decide) k_1252 rfl dX12_shock_17 ?_
    by_cases c3 : (I 34 24) = (0 : Int32)
    · replace hf := (if_pos c3).symm.trans hf
      refine X_if_ne_f (pc := 20) 26 dX12_shock_20 (by decide) c3 ?_
      refine X_bipush (pc := 23) (-2 : Int32) dX12_shock_23 (by decide) ?_
      cases hf
      exact X_ireturn (pc := 25) rfl dX12_shock_25
    · replace hf := (if_neg c3).symm.trans hf
      refine X_if_ne_t (pc := 20) 26 dX12_shock_20 (by decide) c3 ?_
      refine X_aload_n (pc := 26) (i := 0) 0 dX12_shock_26 rfl rfl ?_
      refine X_invV_i (pc := 27) (c_Md_isBookFull hT rfl) ok_Md_isBookFull (ci := 11) (sh_34 hT) k_1579 k_1581 k_51 nd_11 (by decide) rfl (Nat.le_of_ble_eq_true rfl) dX12_shock_27 ?_
      by_cases c4 : (f_Md_isBookFull I L) = (0 : Int32)
      · replace hf := (if_pos c4).symm.trans hf
        refine X_if_eq_t (pc := 30) 36 dX12_shock_30 (by decide) c4 ?_
        refine X_aload_n (pc := 36) (i := 0) 0 dX12_shock_36 rfl rfl ?_
        refine X_aload_n (pc := 37) (i := 0) 0 dX12_shock_37 rfl rfl ?_
        refine X_get (pc := 38) (a := 34) (ci := 11) (j := 28) (.int (I 34 28)) (sh_34 hT) (by decide) k_1256 rfl dX12_shock_38 ?_
        refine X_i2l (pc := 41) dX12_shock_41 ?_
        refine X_iload_n (pc := 42) (i := 1) 1 dX12_shock_42 rfl rfl ?_
        refine X_i2l (pc := 43) dX12_shock_43 ?_
        refine X_ladd (pc := 44) dX12_shock_44 ?_
        obtain ⟨q5, c6, hf⟩ := bd_some hf
        refine X_invV_v (pc := 45) (c_Md_setV hT c6) ok_Md_setV (ci := 11) (sh_34 hT) k_1587 k_1589 k_53 nd_36 (by decide) rfl (Nat.le_of_ble_eq_true rfl) dX12_shock_45 ?_
        refine X_aload_n (pc := 48) (i := 0) 0 dX12_shock_48 rfl rfl ?_
        refine X_iconst (pc := 49) (1 : Int32) dX12_shock_49 (by decide) ?_
        refine X_iload_n (pc := 50) (i := 1) 1 dX12_shock_50 rfl rfl ?_
        refine X_iconst (pc := 51) (0 : Int32) dX12_shock_51 (by decide) ?_
        refine X_iconst (pc := 52) (0 : Int32) dX12_shock_52 (by decide) ?_
        obtain ⟨q7, c8, hf⟩ := bd_some hf
        refine X_invV_v (pc := 53) (c_Md_write hT c8) ok_Md_write (ci := 11) (sh_34 hT) k_1639 k_1641 k_63 nd_2 (by decide) rfl (Nat.le_of_ble_eq_true rfl) dX12_shock_53 ?_
        refine X_aload_n (pc := 56) (i := 0) 0 dX12_shock_56 rfl rfl ?_
        refine X_get (pc := 57) (a := 34) (ci := 11) (j := 28) (.int (q7.1 34 28)) (sh_34 hT) (by decide) k_1256 rfl dX12_shock_57 ?_
        cases hf
        exact X_ireturn (pc := 60) rfl dX12_shock_60
      · replace hf := (if_neg c4).symm.trans hf
        refine X_if_eq_f (pc := 30) 36 dX12_shock_30 (by decide) c4 ?_
        refine X_bipush (pc := 33) (-3 : Int32) dX12_shock_33 (by decide) ?_
        cases hf
        exact X_ireturn (pc := 35) rfl dX12_shock_35
theorem u_Md_shock {S : List xSh} {a0 : Int32} {I : Nat → Nat → Int32} {L : Nat → Nat → Int64} {q : (Int32 × (Nat → Nat → Int32) × (Nat → Nat → Int64))} (hf : f_Md_shock a0 I L = some q) : FR S [55, 4428, 4442] [] I q.2.1 L q.2.2 := by
  replace hf := (f_Md_shock.eq_1 _ _ _).symm.trans hf
  obtain ⟨x1, ex1, hf⟩ := bnd_e hf
  by_cases c2 : x1 = (0 : Int32)
  · replace hf := (if_pos c2).symm.trans hf
    cases hf
    exact FR.rf
  · replace hf := (if_neg c2).symm.trans hf
    by_cases c3 : (I 34 24) = (0 : Int32)
    · replace hf := (if_pos c3).symm.trans hf
      cases hf
      exact FR.rf
    · replace hf := (if_neg c3).symm.trans hf
      by_cases c4 : (f_Md_isBookFull I L) = (0 : Int32)
      · replace hf := (if_pos c4).symm.trans hf
        obtain ⟨q5, c6, hf⟩ := bd_some hf
        obtain ⟨q7, c8, hf⟩ := bd_some hf
        cases hf
        exact (FR.tr (FR.tr FR.rf (u_Md_setV (q := q5) c6) (by decide) (by decide)) (u_Md_write (q := q7) c8) (by decide) (by decide))
      · replace hf := (if_neg c4).symm.trans hf
        cases hf
        exact FR.rf
theorem dX12_wind_0 : decode cX12_wind 0 = .ok (.iload_n 1, 1) := by decide +kernel
theorem dX12_wind_1 : decode cX12_wind 1 = .ok (.i2l, 1) := by decide +kernel
theorem dX12_wind_2 : decode cX12_wind 2 = .ok (.lconst 0, 1) := by decide +kernel
theorem dX12_wind_3 : decode cX12_wind 3 = .ok (.ldc2_w 389, 3) := by decide +kernel
theorem dX12_wind_6 : decode cX12_wind 6 = .ok (.invokestatic 140, 3) := by decide +kernel
theorem dX12_wind_9 : decode cX12_wind 9 = .ok (.ifCond .ne 5, 3) := by decide +kernel
theorem dX12_wind_12 : decode cX12_wind 12 = .ok (.iconst (-1), 1) := by decide +kernel
theorem dX12_wind_13 : decode cX12_wind 13 = .ok (.ireturn, 1) := by decide +kernel
theorem dX12_wind_14 : decode cX12_wind 14 = .ok (.aload_n 0, 1) := by decide +kernel
theorem dX12_wind_15 : decode cX12_wind 15 = .ok (.getfield 178, 3) := by decide +kernel
theorem dX12_wind_18 : decode cX12_wind 18 = .ok (.ifCond .eq 10, 3) := by decide +kernel
theorem dX12_wind_21 : decode cX12_wind 21 = .ok (.aload_n 0, 1) := by decide +kernel
theorem dX12_wind_22 : decode cX12_wind 22 = .ok (.invokevirtual 321, 3) := by decide +kernel
theorem dX12_wind_25 : decode cX12_wind 25 = .ok (.ifCond .ne 6, 3) := by decide +kernel
theorem dX12_wind_28 : decode cX12_wind 28 = .ok (.bipush (-2), 2) := by decide +kernel
theorem dX12_wind_30 : decode cX12_wind 30 = .ok (.ireturn, 1) := by decide +kernel
theorem dX12_wind_31 : decode cX12_wind 31 = .ok (.aload_n 0, 1) := by decide +kernel
theorem dX12_wind_32 : decode cX12_wind 32 = .ok (.invokevirtual 379, 3) := by decide +kernel
theorem dX12_wind_35 : decode cX12_wind 35 = .ok (.ifCond .eq 6, 3) := by decide +kernel
theorem dX12_wind_38 : decode cX12_wind 38 = .ok (.bipush (-3), 2) := by decide +kernel
theorem dX12_wind_40 : decode cX12_wind 40 = .ok (.ireturn, 1) := by decide +kernel
theorem dX12_wind_41 : decode cX12_wind 41 = .ok (.iload_n 1, 1) := by decide +kernel
theorem dX12_wind_42 : decode cX12_wind 42 = .ok (.i2l, 1) := by decide +kernel
theorem dX12_wind_43 : decode cX12_wind 43 = .ok (.aload_n 0, 1) := by decide +kernel
theorem dX12_wind_44 : decode cX12_wind 44 = .ok (.invokevirtual 326, 3) := by decide +kernel
theorem dX12_wind_47 : decode cX12_wind 47 = .ok (.invokestatic 336, 3) := by decide +kernel
theorem dX12_wind_50 : decode cX12_wind 50 = .ok (.l2i, 1) := by decide +kernel
theorem dX12_wind_51 : decode cX12_wind 51 = .ok (.istore_n 2, 1) := by decide +kernel
theorem dX12_wind_52 : decode cX12_wind 52 = .ok (.aload_n 0, 1) := by decide +kernel
theorem dX12_wind_53 : decode cX12_wind 53 = .ok (.dup, 1) := by decide +kernel
theorem dX12_wind_54 : decode cX12_wind 54 = .ok (.getfield 206, 3) := by decide +kernel
theorem dX12_wind_57 : decode cX12_wind 57 = .ok (.iload_n 2, 1) := by decide +kernel
theorem dX12_wind_58 : decode cX12_wind 58 = .ok (.i2l, 1) := by decide +kernel
theorem dX12_wind_59 : decode cX12_wind 59 = .ok (.ladd, 1) := by decide +kernel
theorem dX12_wind_60 : decode cX12_wind 60 = .ok (.putfield 206, 3) := by decide +kernel
theorem dX12_wind_63 : decode cX12_wind 63 = .ok (.aload_n 0, 1) := by decide +kernel
theorem dX12_wind_64 : decode cX12_wind 64 = .ok (.iconst 2, 1) := by decide +kernel
theorem dX12_wind_65 : decode cX12_wind 65 = .ok (.iload_n 1, 1) := by decide +kernel
theorem dX12_wind_66 : decode cX12_wind 66 = .ok (.iconst 0, 1) := by decide +kernel
theorem dX12_wind_67 : decode cX12_wind 67 = .ok (.iconst 0, 1) := by decide +kernel
theorem dX12_wind_68 : decode cX12_wind 68 = .ok (.invokevirtual 385, 3) := by decide +kernel
theorem dX12_wind_71 : decode cX12_wind 71 = .ok (.iload_n 2, 1) := by decide +kernel
theorem dX12_wind_72 : decode cX12_wind 72 = .ok (.ireturn, 1) := by decide +kernel
def f_Md_wind (a0 : Int32) (I : Nat → Nat → Int32) (L : Nat → Nat → Int64) : Option (Int32 × (Nat → Nat → Int32) × (Nat → Nat → Int64)) := (bnd (f_Md_within (Int32.toInt64 a0) (0 : Int64) (100000 : Int64)) fun x1 => (if x1 = (0 : Int32) then (some ((-1 : Int32), I, L)) else (if (I 34 24) = (0 : Int32) then (some ((-2 : Int32), I, L)) else ((f_Md_hasBarrel I L).bind fun q4 => (if q4 = (0 : Int32) then (some ((-2 : Int32), I, L)) else (if (f_Md_isBookFull I L) = (0 : Int32) then ((f_Md_letDown I L).bind fun q8 => (bnd (Int64.toInt32 (Jmin (Int32.toInt64 a0) q8)) fun x10 => (bnd ((L 34 32) + (Int32.toInt64 x10)) fun x11 => ((f_Md_write (2 : Int32) a0 (0 : Int32) (0 : Int32) I (uL L 34 32 x11)).bind fun q12 => (some (x10, q12.1, q12.2)))))) else (some ((-3 : Int32), I, L))))))))
set_option maxRecDepth 100000 in
set_option maxHeartbeats 4000000 in
theorem c_Md_wind {G : xG} {S : List xSh} {Rf : Nat → Nat → Option Nat} (hT : xTM S Rf) {a0 : Int32} {I : Nat → Nat → Int32} {L : Nat → Nat → Int64} {q : (Int32 × (Nat → Nat → Int32) × (Nat → Nat → Int64))} (hf : f_Md_wind a0 I L = some q) : CT G 4 m_Md_wind [.ref (xP G 34), .int a0] (S, I, L, Rf) (some (.int q.1), (S, q.2.1, q.2.2, Rf)) := by
  refine CT.of (by decide +kernel) (Nat.le_of_ble_eq_true rfl) ?_
  show X G 4 m_Md_wind 0 [(0, .ref (xP G 34)), (1, .int a0)] [] (S, I, L, Rf) (some (.int q.1), (S, q.2.1, q.2.2, Rf))
  replace hf := (f_Md_wind.eq_1 _ _ _).symm.trans hf
  refine X_iload_n (pc := 0) (i := 1) 1 dX12_wind_0 rfl rfl ?_
  refine X_i2l (pc := 1) dX12_wind_1 ?_
  refine X_lconst (pc := 2) (0 : Int64) dX12_wind_2 (by decide) ?_
  refine X_ldc2 (pc := 3) (100000 : Int64) k_1651 dX12_wind_3 ?_
  refine X_invS_i (pc := 6) (c_Md_within hT rfl) ok_Md_within k_1482 k_1483 nd_33 (by decide) rfl (Nat.le_of_ble_eq_true rfl) dX12_wind_6 ?_
  obtain ⟨x1, ex1, hf⟩ := bnd_e hf
  refine X_tope ex1 ?_
  by_cases c2 : x1 = (0 : Int32)
  · replace hf := (if_pos c2).symm.trans hf
    refine X_if_ne_f (pc := 9) 14 dX12_wind_9 (by decide) c2 ?_
    refine X_iconst (pc := 12) (-1 : Int32) dX12_wind_12 (by decide) ?_
    cases hf
    exact X_ireturn (pc := 13) rfl dX12_wind_13
  · replace hf := (if_neg c2).symm.trans hf
    refine X_if_ne_t (pc := 9) 14 dX12_wind_9 (by decide) c2 ?_
    refine X_aload_n (pc := 14) (i := 0) 0 dX12_wind_14 rfl rfl ?_
    refine X_get (pc := 15) (a := 34) (ci := 11) (j := 24) (.int (I 34 24)) (sh_34 hT) (by decide) k_1252 rfl dX12_wind_15 ?_
    by_cases c3 : (I 34 24) = (0 : Int32)
    · replace hf := (if_pos c3).symm.trans hf
      refine X_if_eq_t (pc := 18) 28 dX12_wind_18 (by decide) c3 ?_
      refine X_bipush (pc := 28) (-2 : Int32) dX12_wind_28 (by decide) ?_
      cases hf
      exact X_ireturn (pc := 30) rfl dX12_wind_30
    · replace hf := (if_neg c3).symm.trans hf
      refine X_if_eq_f (pc := 18) 28 dX12_wind_18 (by decide) c3 ?_
      refine X_aload_n (pc := 21) (i := 0) 0 dX12_wind_21 rfl rfl ?_
      obtain ⟨q4, c5, hf⟩ := bd_some hf
      refine X_invV_i (pc := 22) (c_Md_hasBarrel hT c5) ok_Md_hasBarrel (ci := 11) (sh_34 hT) k_1601 k_1603 k_55 nd_11 (by decide) rfl (Nat.le_of_ble_eq_true rfl) dX12_wind_22 ?_
      by_cases c6 : q4 = (0 : Int32)
      · replace hf := (if_pos c6).symm.trans hf
        refine X_if_ne_f (pc := 25) 31 dX12_wind_25 (by decide) c6 ?_
        refine X_bipush (pc := 28) (-2 : Int32) dX12_wind_28 (by decide) ?_
        cases hf
        exact X_ireturn (pc := 30) rfl dX12_wind_30
      · replace hf := (if_neg c6).symm.trans hf
        refine X_if_ne_t (pc := 25) 31 dX12_wind_25 (by decide) c6 ?_
        refine X_aload_n (pc := 31) (i := 0) 0 dX12_wind_31 rfl rfl ?_
        refine X_invV_i (pc := 32) (c_Md_isBookFull hT rfl) ok_Md_isBookFull (ci := 11) (sh_34 hT) k_1579 k_1581 k_51 nd_11 (by decide) rfl (Nat.le_of_ble_eq_true rfl) dX12_wind_32 ?_
        by_cases c7 : (f_Md_isBookFull I L) = (0 : Int32)
        · replace hf := (if_pos c7).symm.trans hf
          refine X_if_eq_t (pc := 35) 41 dX12_wind_35 (by decide) c7 ?_
          refine X_iload_n (pc := 41) (i := 1) 1 dX12_wind_41 rfl rfl ?_
          refine X_i2l (pc := 42) dX12_wind_42 ?_
          refine X_aload_n (pc := 43) (i := 0) 0 dX12_wind_43 rfl rfl ?_
          obtain ⟨q8, c9, hf⟩ := bd_some hf
          refine X_invV_l (pc := 44) (c_Md_letDown hT c9) ok_Md_letDown (ci := 11) (sh_34 hT) k_1609 k_1611 k_57 nd_20 (by decide) rfl (Nat.le_of_ble_eq_true rfl) dX12_wind_44 ?_
          refine X_Jmin (pc := 47) k_1592 (by decide) (Nat.le_of_ble_eq_true rfl) dX12_wind_47 ?_
          refine X_l2i (pc := 50) dX12_wind_50 ?_
          obtain ⟨x10, ex10, hf⟩ := bnd_e hf
          refine X_tope ex10 ?_
          refine X_istore_n (pc := 51) (i := 2) [(2, .int x10), (0, .ref (xP G 34)), (1, .int a0)] dX12_wind_51 rfl (by decide) rfl ?_
          refine X_aload_n (pc := 52) (i := 0) 1 dX12_wind_52 rfl rfl ?_
          refine X_dup (pc := 53) dX12_wind_53 rfl ?_
          refine X_get (pc := 54) (a := 34) (ci := 11) (j := 32) (.long (L 34 32)) (sh_34 hT) (by decide) k_1260 rfl dX12_wind_54 ?_
          refine X_iload_n (pc := 57) (i := 2) 0 dX12_wind_57 rfl rfl ?_
          refine X_i2l (pc := 58) dX12_wind_58 ?_
          refine X_ladd (pc := 59) dX12_wind_59 ?_
          obtain ⟨x11, ex11, hf⟩ := bnd_e hf
          refine X_tople ex11 ?_
          refine X_putl (pc := 60) (a := 34) (ci := 11) (j := 32) 32 rfl false (sh_34 hT) (by decide) k_1260 rfl (fun h => by cases h) rfl dX12_wind_60 ?_
          refine X_aload_n (pc := 63) (i := 0) 1 dX12_wind_63 rfl rfl ?_
          refine X_iconst (pc := 64) (2 : Int32) dX12_wind_64 (by decide) ?_
          refine X_iload_n (pc := 65) (i := 1) 2 dX12_wind_65 rfl rfl ?_
          refine X_iconst (pc := 66) (0 : Int32) dX12_wind_66 (by decide) ?_
          refine X_iconst (pc := 67) (0 : Int32) dX12_wind_67 (by decide) ?_
          obtain ⟨q12, c13, hf⟩ := bd_some hf
          refine X_invV_v (pc := 68) (c_Md_write hT c13) ok_Md_write (ci := 11) (sh_34 hT) k_1639 k_1641 k_63 nd_2 (by decide) rfl (Nat.le_of_ble_eq_true rfl) dX12_wind_68 ?_
          refine X_iload_n (pc := 71) (i := 2) 0 dX12_wind_71 rfl rfl ?_
          cases hf
          exact X_ireturn (pc := 72) rfl dX12_wind_72
        · replace hf := (if_neg c7).symm.trans hf
          refine X_if_eq_f (pc := 35) 41 dX12_wind_35 (by decide) c7 ?_
          refine X_bipush (pc := 38) (-3 : Int32) dX12_wind_38 (by decide) ?_
          cases hf
          exact X_ireturn (pc := 40) rfl dX12_wind_40
theorem u_Md_wind {S : List xSh} {a0 : Int32} {I : Nat → Nat → Int32} {L : Nat → Nat → Int64} {q : (Int32 × (Nat → Nat → Int32) × (Nat → Nat → Int64))} (hf : f_Md_wind a0 I L = some q) : FR S [55, 4442] [4432] I q.2.1 L q.2.2 := by
  replace hf := (f_Md_wind.eq_1 _ _ _).symm.trans hf
  obtain ⟨x1, ex1, hf⟩ := bnd_e hf
  by_cases c2 : x1 = (0 : Int32)
  · replace hf := (if_pos c2).symm.trans hf
    cases hf
    exact FR.rf
  · replace hf := (if_neg c2).symm.trans hf
    by_cases c3 : (I 34 24) = (0 : Int32)
    · replace hf := (if_pos c3).symm.trans hf
      cases hf
      exact FR.rf
    · replace hf := (if_neg c3).symm.trans hf
      obtain ⟨q4, c5, hf⟩ := bd_some hf
      by_cases c6 : q4 = (0 : Int32)
      · replace hf := (if_pos c6).symm.trans hf
        cases hf
        exact FR.rf
      · replace hf := (if_neg c6).symm.trans hf
        by_cases c7 : (f_Md_isBookFull I L) = (0 : Int32)
        · replace hf := (if_pos c7).symm.trans hf
          obtain ⟨q8, c9, hf⟩ := bd_some hf
          obtain ⟨x10, ex10, hf⟩ := bnd_e hf
          obtain ⟨x11, ex11, hf⟩ := bnd_e hf
          obtain ⟨q12, c13, hf⟩ := bd_some hf
          cases hf
          exact (FR.tr (FR.fl FR.rf (by decide)) (u_Md_write (q := q12) c13) (by decide) (by decide))
        · replace hf := (if_neg c7).symm.trans hf
          cases hf
          exact FR.rf
theorem dX12_press_0 : decode cX12_press 0 = .ok (.iload_n 1, 1) := by decide +kernel
theorem dX12_press_1 : decode cX12_press 1 = .ok (.i2l, 1) := by decide +kernel
theorem dX12_press_2 : decode cX12_press 2 = .ok (.lconst 0, 1) := by decide +kernel
theorem dX12_press_3 : decode cX12_press 3 = .ok (.aload_n 0, 1) := by decide +kernel
theorem dX12_press_4 : decode cX12_press 4 = .ok (.getfield 175, 3) := by decide +kernel
theorem dX12_press_7 : decode cX12_press 7 = .ok (.iconst 1, 1) := by decide +kernel
theorem dX12_press_8 : decode cX12_press 8 = .ok (.isub, 1) := by decide +kernel
theorem dX12_press_9 : decode cX12_press 9 = .ok (.i2l, 1) := by decide +kernel
theorem dX12_press_10 : decode cX12_press 10 = .ok (.invokestatic 140, 3) := by decide +kernel
theorem dX12_press_13 : decode cX12_press 13 = .ok (.ifCond .eq 15, 3) := by decide +kernel
theorem dX12_press_16 : decode cX12_press 16 = .ok (.iload_n 2, 1) := by decide +kernel
theorem dX12_press_17 : decode cX12_press 17 = .ok (.i2l, 1) := by decide +kernel
theorem dX12_press_18 : decode cX12_press 18 = .ok (.lconst 0, 1) := by decide +kernel
theorem dX12_press_19 : decode cX12_press 19 = .ok (.ldc2_w 253, 3) := by decide +kernel
theorem dX12_press_22 : decode cX12_press 22 = .ok (.invokestatic 140, 3) := by decide +kernel
theorem dX12_press_25 : decode cX12_press 25 = .ok (.ifCond .ne 5, 3) := by decide +kernel
theorem dX12_press_28 : decode cX12_press 28 = .ok (.iconst (-1), 1) := by decide +kernel
theorem dX12_press_29 : decode cX12_press 29 = .ok (.ireturn, 1) := by decide +kernel
theorem dX12_press_30 : decode cX12_press 30 = .ok (.iload_n 1, 1) := by decide +kernel
theorem dX12_press_31 : decode cX12_press 31 = .ok (.istore_n 3, 1) := by decide +kernel
theorem dX12_press_32 : decode cX12_press 32 = .ok (.aload_n 0, 1) := by decide +kernel
theorem dX12_press_33 : decode cX12_press 33 = .ok (.getfield 52, 3) := by decide +kernel
theorem dX12_press_36 : decode cX12_press 36 = .ok (.iload_n 3, 1) := by decide +kernel
theorem dX12_press_37 : decode cX12_press 37 = .ok (.iaload, 1) := by decide +kernel
theorem dX12_press_38 : decode cX12_press 38 = .ok (.istore 4, 2) := by decide +kernel
theorem dX12_press_40 : decode cX12_press 40 = .ok (.aload_n 0, 1) := by decide +kernel
theorem dX12_press_41 : decode cX12_press 41 = .ok (.getfield 61, 3) := by decide +kernel
theorem dX12_press_44 : decode cX12_press 44 = .ok (.iload_n 3, 1) := by decide +kernel
theorem dX12_press_45 : decode cX12_press 45 = .ok (.baload, 1) := by decide +kernel
theorem dX12_press_46 : decode cX12_press 46 = .ok (.istore 5, 2) := by decide +kernel
theorem dX12_press_48 : decode cX12_press 48 = .ok (.iload_n 2, 1) := by decide +kernel
theorem dX12_press_49 : decode cX12_press 49 = .ok (.ifCond .eq 60, 3) := by decide +kernel
theorem dX12_press_52 : decode cX12_press 52 = .ok (.iload_n 2, 1) := by decide +kernel
theorem dX12_press_53 : decode cX12_press 53 = .ok (.iconst 1, 1) := by decide +kernel
theorem dX12_press_54 : decode cX12_press 54 = .ok (.if_icmp .ne 30, 3) := by decide +kernel
theorem dX12_press_57 : decode cX12_press 57 = .ok (.iload 5, 2) := by decide +kernel
theorem dX12_press_59 : decode cX12_press 59 = .ok (.ifCond .ne 25, 3) := by decide +kernel
theorem dX12_press_62 : decode cX12_press 62 = .ok (.iload 4, 2) := by decide +kernel
theorem dX12_press_64 : decode cX12_press 64 = .ok (.iconst 2, 1) := by decide +kernel
theorem dX12_press_65 : decode cX12_press 65 = .ok (.if_icmp .eq 44, 3) := by decide +kernel
theorem dX12_press_68 : decode cX12_press 68 = .ok (.iload 4, 2) := by decide +kernel
theorem dX12_press_70 : decode cX12_press 70 = .ok (.iconst 1, 1) := by decide +kernel
theorem dX12_press_71 : decode cX12_press 71 = .ok (.if_icmp .ne 13, 3) := by decide +kernel
theorem dX12_press_74 : decode cX12_press 74 = .ok (.aload_n 0, 1) := by decide +kernel
theorem dX12_press_75 : decode cX12_press 75 = .ok (.getfield 46, 3) := by decide +kernel
theorem dX12_press_78 : decode cX12_press 78 = .ok (.iload_n 3, 1) := by decide +kernel
theorem dX12_press_79 : decode cX12_press 79 = .ok (.iaload, 1) := by decide +kernel
theorem dX12_press_80 : decode cX12_press 80 = .ok (.iconst 1, 1) := by decide +kernel
theorem dX12_press_81 : decode cX12_press 81 = .ok (.if_icmp .eq 28, 3) := by decide +kernel
theorem dX12_press_84 : decode cX12_press 84 = .ok (.iload_n 2, 1) := by decide +kernel
theorem dX12_press_85 : decode cX12_press 85 = .ok (.iconst 2, 1) := by decide +kernel
theorem dX12_press_86 : decode cX12_press 86 = .ok (.if_icmp .ne 27, 3) := by decide +kernel
theorem dX12_press_89 : decode cX12_press 89 = .ok (.aload_n 0, 1) := by decide +kernel
theorem dX12_press_90 : decode cX12_press 90 = .ok (.getfield 46, 3) := by decide +kernel
theorem dX12_press_93 : decode cX12_press 93 = .ok (.iload_n 3, 1) := by decide +kernel
theorem dX12_press_94 : decode cX12_press 94 = .ok (.iaload, 1) := by decide +kernel
theorem dX12_press_95 : decode cX12_press 95 = .ok (.iconst 2, 1) := by decide +kernel
theorem dX12_press_96 : decode cX12_press 96 = .ok (.if_icmp .ne 17, 3) := by decide +kernel
theorem dX12_press_99 : decode cX12_press 99 = .ok (.iload 5, 2) := by decide +kernel
theorem dX12_press_101 : decode cX12_press 101 = .ok (.ifCond .ne 8, 3) := by decide +kernel
theorem dX12_press_104 : decode cX12_press 104 = .ok (.iload 4, 2) := by decide +kernel
theorem dX12_press_106 : decode cX12_press 106 = .ok (.ifCond .le 7, 3) := by decide +kernel
theorem dX12_press_109 : decode cX12_press 109 = .ok (.iconst 1, 1) := by decide +kernel
theorem dX12_press_110 : decode cX12_press 110 = .ok (.goto 4, 3) := by decide +kernel
theorem dX12_press_113 : decode cX12_press 113 = .ok (.iconst 0, 1) := by decide +kernel
theorem dX12_press_114 : decode cX12_press 114 = .ok (.istore 6, 2) := by decide +kernel
theorem dX12_press_116 : decode cX12_press 116 = .ok (.aload_n 0, 1) := by decide +kernel
theorem dX12_press_117 : decode cX12_press 117 = .ok (.getfield 178, 3) := by decide +kernel
theorem dX12_press_120 : decode cX12_press 120 = .ok (.ifCond .eq 8, 3) := by decide +kernel
theorem dX12_press_123 : decode cX12_press 123 = .ok (.iload 6, 2) := by decide +kernel
theorem dX12_press_125 : decode cX12_press 125 = .ok (.ifCond .ne 6, 3) := by decide +kernel
theorem dX12_press_128 : decode cX12_press 128 = .ok (.bipush (-2), 2) := by decide +kernel
theorem dX12_press_130 : decode cX12_press 130 = .ok (.ireturn, 1) := by decide +kernel
theorem dX12_press_131 : decode cX12_press 131 = .ok (.aload_n 0, 1) := by decide +kernel
theorem dX12_press_132 : decode cX12_press 132 = .ok (.invokevirtual 379, 3) := by decide +kernel
theorem dX12_press_135 : decode cX12_press 135 = .ok (.ifCond .eq 6, 3) := by decide +kernel
theorem dX12_press_138 : decode cX12_press 138 = .ok (.bipush (-3), 2) := by decide +kernel
theorem dX12_press_140 : decode cX12_press 140 = .ok (.ireturn, 1) := by decide +kernel
theorem dX12_press_141 : decode cX12_press 141 = .ok (.iload_n 2, 1) := by decide +kernel
theorem dX12_press_142 : decode cX12_press 142 = .ok (.ifCond .ne 23, 3) := by decide +kernel
theorem dX12_press_145 : decode cX12_press 145 = .ok (.aload_n 0, 1) := by decide +kernel
theorem dX12_press_146 : decode cX12_press 146 = .ok (.getfield 52, 3) := by decide +kernel
theorem dX12_press_149 : decode cX12_press 149 = .ok (.iload_n 3, 1) := by decide +kernel
theorem dX12_press_150 : decode cX12_press 150 = .ok (.iload 4, 2) := by decide +kernel
theorem dX12_press_152 : decode cX12_press 152 = .ok (.iconst 1, 1) := by decide +kernel
theorem dX12_press_153 : decode cX12_press 153 = .ok (.if_icmp .ne 7, 3) := by decide +kernel
theorem dX12_press_156 : decode cX12_press 156 = .ok (.iconst 2, 1) := by decide +kernel
theorem dX12_press_157 : decode cX12_press 157 = .ok (.goto 4, 3) := by decide +kernel
theorem dX12_press_160 : decode cX12_press 160 = .ok (.iconst 1, 1) := by decide +kernel
theorem dX12_press_161 : decode cX12_press 161 = .ok (.iastore, 1) := by decide +kernel
theorem dX12_press_162 : decode cX12_press 162 = .ok (.goto 63, 3) := by decide +kernel
theorem dX12_press_165 : decode cX12_press 165 = .ok (.iload_n 2, 1) := by decide +kernel
theorem dX12_press_166 : decode cX12_press 166 = .ok (.iconst 1, 1) := by decide +kernel
theorem dX12_press_167 : decode cX12_press 167 = .ok (.if_icmp .ne 30, 3) := by decide +kernel
theorem dX12_press_170 : decode cX12_press 170 = .ok (.aload_n 0, 1) := by decide +kernel
theorem dX12_press_171 : decode cX12_press 171 = .ok (.getfield 55, 3) := by decide +kernel
theorem dX12_press_174 : decode cX12_press 174 = .ok (.iload_n 3, 1) := by decide +kernel
theorem dX12_press_175 : decode cX12_press 175 = .ok (.iconst 0, 1) := by decide +kernel
theorem dX12_press_176 : decode cX12_press 176 = .ok (.iastore, 1) := by decide +kernel
theorem dX12_press_177 : decode cX12_press 177 = .ok (.aload_n 0, 1) := by decide +kernel
theorem dX12_press_178 : decode cX12_press 178 = .ok (.getfield 52, 3) := by decide +kernel
theorem dX12_press_181 : decode cX12_press 181 = .ok (.iload_n 3, 1) := by decide +kernel
theorem dX12_press_182 : decode cX12_press 182 = .ok (.iload 4, 2) := by decide +kernel
theorem dX12_press_184 : decode cX12_press 184 = .ok (.iconst 2, 1) := by decide +kernel
theorem dX12_press_185 : decode cX12_press 185 = .ok (.if_icmp .ne 7, 3) := by decide +kernel
theorem dX12_press_188 : decode cX12_press 188 = .ok (.iconst 0, 1) := by decide +kernel
theorem dX12_press_189 : decode cX12_press 189 = .ok (.goto 4, 3) := by decide +kernel
theorem dX12_press_192 : decode cX12_press 192 = .ok (.iconst 1, 1) := by decide +kernel
theorem dX12_press_193 : decode cX12_press 193 = .ok (.iastore, 1) := by decide +kernel
theorem dX12_press_194 : decode cX12_press 194 = .ok (.goto 31, 3) := by decide +kernel
theorem dX12_press_197 : decode cX12_press 197 = .ok (.aload_n 0, 1) := by decide +kernel
theorem dX12_press_198 : decode cX12_press 198 = .ok (.getfield 61, 3) := by decide +kernel
theorem dX12_press_201 : decode cX12_press 201 = .ok (.iload_n 3, 1) := by decide +kernel
theorem dX12_press_202 : decode cX12_press 202 = .ok (.iload 5, 2) := by decide +kernel
theorem dX12_press_204 : decode cX12_press 204 = .ok (.ifCond .ne 7, 3) := by decide +kernel
theorem dX12_press_207 : decode cX12_press 207 = .ok (.iconst 1, 1) := by decide +kernel
theorem dX12_press_208 : decode cX12_press 208 = .ok (.goto 4, 3) := by decide +kernel
theorem dX12_press_211 : decode cX12_press 211 = .ok (.iconst 0, 1) := by decide +kernel
theorem dX12_press_212 : decode cX12_press 212 = .ok (.bastore, 1) := by decide +kernel
theorem dX12_press_213 : decode cX12_press 213 = .ok (.aload_n 0, 1) := by decide +kernel
theorem dX12_press_214 : decode cX12_press 214 = .ok (.getfield 58, 3) := by decide +kernel
theorem dX12_press_217 : decode cX12_press 217 = .ok (.iload_n 3, 1) := by decide +kernel
theorem dX12_press_218 : decode cX12_press 218 = .ok (.aload_n 0, 1) := by decide +kernel
theorem dX12_press_219 : decode cX12_press 219 = .ok (.getfield 55, 3) := by decide +kernel
theorem dX12_press_222 : decode cX12_press 222 = .ok (.iload_n 3, 1) := by decide +kernel
theorem dX12_press_223 : decode cX12_press 223 = .ok (.iaload, 1) := by decide +kernel
theorem dX12_press_224 : decode cX12_press 224 = .ok (.iastore, 1) := by decide +kernel
theorem dX12_press_225 : decode cX12_press 225 = .ok (.aload_n 0, 1) := by decide +kernel
theorem dX12_press_226 : decode cX12_press 226 = .ok (.iconst 3, 1) := by decide +kernel
theorem dX12_press_227 : decode cX12_press 227 = .ok (.iload_n 3, 1) := by decide +kernel
theorem dX12_press_228 : decode cX12_press 228 = .ok (.iload_n 2, 1) := by decide +kernel
theorem dX12_press_229 : decode cX12_press 229 = .ok (.iconst 0, 1) := by decide +kernel
theorem dX12_press_230 : decode cX12_press 230 = .ok (.invokevirtual 385, 3) := by decide +kernel
theorem dX12_press_233 : decode cX12_press 233 = .ok (.aload_n 0, 1) := by decide +kernel
theorem dX12_press_234 : decode cX12_press 234 = .ok (.getfield 52, 3) := by decide +kernel
theorem dX12_press_237 : decode cX12_press 237 = .ok (.iload_n 3, 1) := by decide +kernel
theorem dX12_press_238 : decode cX12_press 238 = .ok (.iaload, 1) := by decide +kernel
theorem dX12_press_239 : decode cX12_press 239 = .ok (.ireturn, 1) := by decide +kernel
def f_Md_press_L225 (l2 : Int32) (l3 : Int32) (I : (Nat → Nat → Int32)) (L : (Nat → Nat → Int64)) : Option (Int32 × (Nat → Nat → Int32) × (Nat → Nat → Int64)) := ((f_Md_write (3 : Int32) l3 l2 (0 : Int32) I L).bind fun q16 => (if (0 ≤ l3 ∧ l3 < (4 : Int32)) then (some ((q16.1 49 (l3.toNatClampNeg)), q16.1, q16.2)) else none))
set_option maxRecDepth 100000 in
set_option maxHeartbeats 4000000 in
theorem x_Md_press_L225 {G : xG} {S : List xSh} {Rf : Nat → Nat → Option Nat} (hT : xTM S Rf) {l2 : Int32} {l3 : Int32} {I : Nat → Nat → Int32} {L : Nat → Nat → Int64} {q : (Int32 × (Nat → Nat → Int32) × (Nat → Nat → Int64))} (hf : f_Md_press_L225 l2 l3 I L = some q) : X G 2 m_Md_press 225 [(0, .ref (xP G 34)), (2, .int l2), (3, .int l3)] [] (S, I, L, Rf) (some (.int q.1), (S, q.2.1, q.2.2, Rf)) := by
  replace hf := (f_Md_press_L225.eq_1 _ _ _ _).symm.trans hf
  refine X_aload_n (pc := 225) (i := 0) 0 dX12_press_225 rfl rfl ?_
  refine X_iconst (pc := 226) (3 : Int32) dX12_press_226 (by decide) ?_
  refine X_iload_n (pc := 227) (i := 3) 2 dX12_press_227 rfl rfl ?_
  refine X_iload_n (pc := 228) (i := 2) 1 dX12_press_228 rfl rfl ?_
  refine X_iconst (pc := 229) (0 : Int32) dX12_press_229 (by decide) ?_
  obtain ⟨q16, c17, hf⟩ := bd_some hf
  refine X_invV_v (pc := 230) (c_Md_write hT c17) ok_Md_write (ci := 11) (sh_34 hT) k_1639 k_1641 k_63 nd_2 (by decide) rfl (Nat.le_of_ble_eq_true rfl) dX12_press_230 ?_
  refine X_aload_n (pc := 233) (i := 0) 0 dX12_press_233 rfl rfl ?_
  refine X_getr (pc := 234) (a := 34) (ci := 11) (j := 34) (c := 49) (sh_34 hT) (by decide) k_1262 (rf_34_34 hT) (fun _ h => h) dX12_press_234 ?_
  refine X_iload_n (pc := 237) (i := 3) 2 dX12_press_237 rfl rfl ?_
  obtain ⟨c18, hf⟩ := gd_some hf
  refine X_ialdj (pc := 238) (j := l3.toNatClampNeg) (q16.1 49 (l3.toNatClampNeg)) (sh_49 hT) (vp_in_lit (N := 4) c18 (by decide)) rfl rfl dX12_press_238 ?_
  cases hf
  exact X_ireturn (pc := 239) rfl dX12_press_239
theorem u_Md_press_L225 {S : List xSh} {l2 : Int32} {l3 : Int32} {I : Nat → Nat → Int32} {L : Nat → Nat → Int64} {q : (Int32 × (Nat → Nat → Int32) × (Nat → Nat → Int64))} (hf : f_Md_press_L225 l2 l3 I L = some q) : FR S [49, 50, 51, 52, 55, 4442] [] I q.2.1 L q.2.2 := by
  replace hf := (f_Md_press_L225.eq_1 _ _ _ _).symm.trans hf
  obtain ⟨q16, c17, hf⟩ := bd_some hf
  obtain ⟨c18, hf⟩ := gd_some hf
  cases hf
  exact (FR.tr FR.rf (u_Md_write (q := q16) c17) (by decide) (by decide))
def f_Md_press_L161 (l2 : Int32) (l3 : Int32) (s1 : Int32) (s2 : Int32) (I : (Nat → Nat → Int32)) (L : (Nat → Nat → Int64)) : Option (Int32 × (Nat → Nat → Int32) × (Nat → Nat → Int64)) := (if (0 ≤ s1 ∧ s1 < (4 : Int32)) then (f_Md_press_L225 l2 l3 (uI I 49 (s1.toNatClampNeg) s2) L) else none)
set_option maxRecDepth 100000 in
set_option maxHeartbeats 4000000 in
theorem x_Md_press_L161 {G : xG} {S : List xSh} {Rf : Nat → Nat → Option Nat} (hT : xTM S Rf) {l2 : Int32} {l3 : Int32} {s1 : Int32} {s2 : Int32} {I : Nat → Nat → Int32} {L : Nat → Nat → Int64} {q : (Int32 × (Nat → Nat → Int32) × (Nat → Nat → Int64))} (hf : f_Md_press_L161 l2 l3 s1 s2 I L = some q) : X G 2 m_Md_press 161 [(0, .ref (xP G 34)), (2, .int l2), (3, .int l3)] [.int s2, .int s1, .ref (xP G 49)] (S, I, L, Rf) (some (.int q.1), (S, q.2.1, q.2.2, Rf)) := by
  replace hf := (f_Md_press_L161.eq_1 _ _ _ _ _ _).symm.trans hf
  obtain ⟨c15, hf⟩ := gd_some hf
  refine X_iastj (pc := 161) (j := (s1.toNatClampNeg)) (sh_49 hT) (vp_in_lit (N := 4) c15 (by decide)) rfl dX12_press_161 ?_
  refine X_goto (pc := 162) 225 dX12_press_162 (by decide) ?_
  exact X_lvs [0, 1, 2] rfl (x_Md_press_L225 hT hf)
theorem u_Md_press_L161 {S : List xSh} {l2 : Int32} {l3 : Int32} {s1 : Int32} {s2 : Int32} {I : Nat → Nat → Int32} {L : Nat → Nat → Int64} {q : (Int32 × (Nat → Nat → Int32) × (Nat → Nat → Int64))} (hf : f_Md_press_L161 l2 l3 s1 s2 I L = some q) : FR S [49, 50, 51, 52, 55, 4442] [] I q.2.1 L q.2.2 := by
  replace hf := (f_Md_press_L161.eq_1 _ _ _ _ _ _).symm.trans hf
  obtain ⟨c15, hf⟩ := gd_some hf
  exact FR.tr (FR.ai FR.rf (by decide)) (u_Md_press_L225 hf) (by decide) (by decide)
def f_Md_press_L193 (l2 : Int32) (l3 : Int32) (s1 : Int32) (s2 : Int32) (I : (Nat → Nat → Int32)) (L : (Nat → Nat → Int64)) : Option (Int32 × (Nat → Nat → Int32) × (Nat → Nat → Int64)) := (if (0 ≤ s1 ∧ s1 < (4 : Int32)) then (f_Md_press_L225 l2 l3 (uI I 49 (s1.toNatClampNeg) s2) L) else none)
set_option maxRecDepth 100000 in
set_option maxHeartbeats 4000000 in
theorem x_Md_press_L193 {G : xG} {S : List xSh} {Rf : Nat → Nat → Option Nat} (hT : xTM S Rf) {l2 : Int32} {l3 : Int32} {s1 : Int32} {s2 : Int32} {I : Nat → Nat → Int32} {L : Nat → Nat → Int64} {q : (Int32 × (Nat → Nat → Int32) × (Nat → Nat → Int64))} (hf : f_Md_press_L193 l2 l3 s1 s2 I L = some q) : X G 2 m_Md_press 193 [(0, .ref (xP G 34)), (2, .int l2), (3, .int l3)] [.int s2, .int s1, .ref (xP G 49)] (S, I, L, Rf) (some (.int q.1), (S, q.2.1, q.2.2, Rf)) := by
  replace hf := (f_Md_press_L193.eq_1 _ _ _ _ _ _).symm.trans hf
  obtain ⟨c22, hf⟩ := gd_some hf
  refine X_iastj (pc := 193) (j := (s1.toNatClampNeg)) (sh_49 hT) (vp_in_lit (N := 4) c22 (by decide)) rfl dX12_press_193 ?_
  refine X_goto (pc := 194) 225 dX12_press_194 (by decide) ?_
  exact X_lvs [0, 1, 2] rfl (x_Md_press_L225 hT hf)
theorem u_Md_press_L193 {S : List xSh} {l2 : Int32} {l3 : Int32} {s1 : Int32} {s2 : Int32} {I : Nat → Nat → Int32} {L : Nat → Nat → Int64} {q : (Int32 × (Nat → Nat → Int32) × (Nat → Nat → Int64))} (hf : f_Md_press_L193 l2 l3 s1 s2 I L = some q) : FR S [49, 50, 51, 52, 55, 4442] [] I q.2.1 L q.2.2 := by
  replace hf := (f_Md_press_L193.eq_1 _ _ _ _ _ _).symm.trans hf
  obtain ⟨c22, hf⟩ := gd_some hf
  exact FR.tr (FR.ai FR.rf (by decide)) (u_Md_press_L225 hf) (by decide) (by decide)
def f_Md_press_L212 (l2 : Int32) (l3 : Int32) (s1 : Int32) (s2 : Int32) (I : (Nat → Nat → Int32)) (L : (Nat → Nat → Int64)) : Option (Int32 × (Nat → Nat → Int32) × (Nat → Nat → Int64)) := (if (0 ≤ s1 ∧ s1 < (4 : Int32)) then (if (s2 = (0 : Int32) ∨ s2 = (1 : Int32)) then (if (0 ≤ l3 ∧ l3 < (4 : Int32)) then (bnd (I 50 (l3.toNatClampNeg)) fun x27 => (if (0 ≤ l3 ∧ l3 < (4 : Int32)) then (f_Md_press_L225 l2 l3 (uI (uI I 52 (s1.toNatClampNeg) s2) 51 (l3.toNatClampNeg) x27) L) else none)) else none) else none) else none)
set_option maxRecDepth 100000 in
set_option maxHeartbeats 4000000 in
theorem x_Md_press_L212 {G : xG} {S : List xSh} {Rf : Nat → Nat → Option Nat} (hT : xTM S Rf) {l2 : Int32} {l3 : Int32} {s1 : Int32} {s2 : Int32} {I : Nat → Nat → Int32} {L : Nat → Nat → Int64} {q : (Int32 × (Nat → Nat → Int32) × (Nat → Nat → Int64))} (hf : f_Md_press_L212 l2 l3 s1 s2 I L = some q) : X G 2 m_Md_press 212 [(0, .ref (xP G 34)), (2, .int l2), (3, .int l3)] [.int s2, .int s1, .ref (xP G 52)] (S, I, L, Rf) (some (.int q.1), (S, q.2.1, q.2.2, Rf)) := by
  replace hf := (f_Md_press_L212.eq_1 _ _ _ _ _ _).symm.trans hf
  obtain ⟨c24, hf⟩ := gd_some hf
  obtain ⟨c25, hf⟩ := gd_some hf
  refine X_zastj (pc := 212) (j := (s1.toNatClampNeg)) c25 (sh_52 hT) (vp_in_lit (N := 4) c24 (by decide)) rfl dX12_press_212 ?_
  refine X_aload_n (pc := 213) (i := 0) 0 dX12_press_213 rfl rfl ?_
  refine X_getr (pc := 214) (a := 34) (ci := 11) (j := 36) (c := 51) (sh_34 hT) (by decide) k_1264 (rf_34_36 hT) (fun _ h => h) dX12_press_214 ?_
  refine X_iload_n (pc := 217) (i := 3) 2 dX12_press_217 rfl rfl ?_
  refine X_aload_n (pc := 218) (i := 0) 0 dX12_press_218 rfl rfl ?_
  refine X_getr (pc := 219) (a := 34) (ci := 11) (j := 35) (c := 50) (sh_34 hT) (by decide) k_1263 (rf_34_35 hT) (fun _ h => h) dX12_press_219 ?_
  refine X_iload_n (pc := 222) (i := 3) 2 dX12_press_222 rfl rfl ?_
  obtain ⟨c26, hf⟩ := gd_some hf
  refine X_ialdj (pc := 223) (j := l3.toNatClampNeg) (I 50 (l3.toNatClampNeg)) (sh_50 hT) (vp_in_lit (N := 4) c26 (by decide)) rfl rfl dX12_press_223 ?_
  obtain ⟨x27, ex27, hf⟩ := bnd_e hf
  refine X_tope ex27 ?_
  obtain ⟨c28, hf⟩ := gd_some hf
  refine X_iastj (pc := 224) (j := (l3.toNatClampNeg)) (sh_51 hT) (vp_in_lit (N := 4) c28 (by decide)) rfl dX12_press_224 ?_
  exact X_lvs [0, 1, 2] rfl (x_Md_press_L225 hT hf)
theorem u_Md_press_L212 {S : List xSh} {l2 : Int32} {l3 : Int32} {s1 : Int32} {s2 : Int32} {I : Nat → Nat → Int32} {L : Nat → Nat → Int64} {q : (Int32 × (Nat → Nat → Int32) × (Nat → Nat → Int64))} (hf : f_Md_press_L212 l2 l3 s1 s2 I L = some q) : FR S [49, 50, 51, 52, 55, 4442] [] I q.2.1 L q.2.2 := by
  replace hf := (f_Md_press_L212.eq_1 _ _ _ _ _ _).symm.trans hf
  obtain ⟨c24, hf⟩ := gd_some hf
  obtain ⟨c25, hf⟩ := gd_some hf
  obtain ⟨c26, hf⟩ := gd_some hf
  obtain ⟨x27, ex27, hf⟩ := bnd_e hf
  obtain ⟨c28, hf⟩ := gd_some hf
  exact FR.tr (FR.ai (FR.ai FR.rf (by decide)) (by decide)) (u_Md_press_L225 hf) (by decide) (by decide)
def f_Md_press_L114 (l2 : Int32) (l3 : Int32) (l4 : Int32) (l5 : Int32) (s0 : Int32) (I : (Nat → Nat → Int32)) (L : (Nat → Nat → Int64)) : Option (Int32 × (Nat → Nat → Int32) × (Nat → Nat → Int64)) := (if (I 34 24) = (0 : Int32) then (some ((-2 : Int32), I, L)) else (if s0 = (0 : Int32) then (some ((-2 : Int32), I, L)) else (if (f_Md_isBookFull I L) = (0 : Int32) then (if l2 = (0 : Int32) then (if l4 = (1 : Int32) then (f_Md_press_L161 l2 l3 l3 (2 : Int32) I L) else (f_Md_press_L161 l2 l3 l3 (1 : Int32) I L)) else (if l2 = (1 : Int32) then (if (0 ≤ l3 ∧ l3 < (4 : Int32)) then (if l4 = (2 : Int32) then (f_Md_press_L193 l2 l3 l3 (0 : Int32) (uI I 50 (l3.toNatClampNeg) (0 : Int32)) L) else (f_Md_press_L193 l2 l3 l3 (1 : Int32) (uI I 50 (l3.toNatClampNeg) (0 : Int32)) L)) else none) else (if l5 = (0 : Int32) then (f_Md_press_L212 l2 l3 l3 (1 : Int32) I L) else (f_Md_press_L212 l2 l3 l3 (0 : Int32) I L)))) else (some ((-3 : Int32), I, L)))))
set_option maxRecDepth 100000 in
set_option maxHeartbeats 4000000 in
theorem x_Md_press_L114 {G : xG} {S : List xSh} {Rf : Nat → Nat → Option Nat} (hT : xTM S Rf) {l2 : Int32} {l3 : Int32} {l4 : Int32} {l5 : Int32} {s0 : Int32} {I : Nat → Nat → Int32} {L : Nat → Nat → Int64} {q : (Int32 × (Nat → Nat → Int32) × (Nat → Nat → Int64))} (hf : f_Md_press_L114 l2 l3 l4 l5 s0 I L = some q) : X G 2 m_Md_press 114 [(0, .ref (xP G 34)), (2, .int l2), (3, .int l3), (4, .int l4), (5, .int l5)] [.int s0] (S, I, L, Rf) (some (.int q.1), (S, q.2.1, q.2.2, Rf)) := by
  replace hf := (f_Md_press_L114.eq_1 _ _ _ _ _ _ _).symm.trans hf
  refine X_istore (pc := 114) [(6, .int s0), (0, .ref (xP G 34)), (2, .int l2), (3, .int l3), (4, .int l4), (5, .int l5)] dX12_press_114 (by decide) rfl ?_
  refine X_aload_n (pc := 116) (i := 0) 1 dX12_press_116 rfl rfl ?_
  refine X_get (pc := 117) (a := 34) (ci := 11) (j := 24) (.int (I 34 24)) (sh_34 hT) (by decide) k_1252 rfl dX12_press_117 ?_
  by_cases c10 : (I 34 24) = (0 : Int32)
  · replace hf := (if_pos c10).symm.trans hf
    refine X_if_eq_t (pc := 120) 128 dX12_press_120 (by decide) c10 ?_
    refine X_bipush (pc := 128) (-2 : Int32) dX12_press_128 (by decide) ?_
    cases hf
    exact X_ireturn (pc := 130) rfl dX12_press_130
  · replace hf := (if_neg c10).symm.trans hf
    refine X_if_eq_f (pc := 120) 128 dX12_press_120 (by decide) c10 ?_
    refine X_iload (pc := 123) 0 dX12_press_123 rfl ?_
    by_cases c11 : s0 = (0 : Int32)
    · replace hf := (if_pos c11).symm.trans hf
      refine X_if_ne_f (pc := 125) 131 dX12_press_125 (by decide) c11 ?_
      refine X_bipush (pc := 128) (-2 : Int32) dX12_press_128 (by decide) ?_
      cases hf
      exact X_ireturn (pc := 130) rfl dX12_press_130
    · replace hf := (if_neg c11).symm.trans hf
      refine X_if_ne_t (pc := 125) 131 dX12_press_125 (by decide) c11 ?_
      refine X_aload_n (pc := 131) (i := 0) 1 dX12_press_131 rfl rfl ?_
      refine X_invV_i (pc := 132) (c_Md_isBookFull hT rfl) ok_Md_isBookFull (ci := 11) (sh_34 hT) k_1579 k_1581 k_51 nd_11 (by decide) rfl (Nat.le_of_ble_eq_true rfl) dX12_press_132 ?_
      by_cases c12 : (f_Md_isBookFull I L) = (0 : Int32)
      · replace hf := (if_pos c12).symm.trans hf
        refine X_if_eq_t (pc := 135) 141 dX12_press_135 (by decide) c12 ?_
        refine X_iload_n (pc := 141) (i := 2) 2 dX12_press_141 rfl rfl ?_
        by_cases c13 : l2 = (0 : Int32)
        · replace hf := (if_pos c13).symm.trans hf
          refine X_if_ne_f (pc := 142) 165 dX12_press_142 (by decide) c13 ?_
          refine X_aload_n (pc := 145) (i := 0) 1 dX12_press_145 rfl rfl ?_
          refine X_getr (pc := 146) (a := 34) (ci := 11) (j := 34) (c := 49) (sh_34 hT) (by decide) k_1262 (rf_34_34 hT) (fun _ h => h) dX12_press_146 ?_
          refine X_iload_n (pc := 149) (i := 3) 3 dX12_press_149 rfl rfl ?_
          refine X_iload (pc := 150) 4 dX12_press_150 rfl ?_
          refine X_iconst (pc := 152) (1 : Int32) dX12_press_152 (by decide) ?_
          by_cases c14 : l4 = (1 : Int32)
          · replace hf := (if_pos c14).symm.trans hf
            refine X_icmp_ne_f (pc := 153) 160 dX12_press_153 (by decide) c14 ?_
            refine X_iconst (pc := 156) (2 : Int32) dX12_press_156 (by decide) ?_
            refine X_goto (pc := 157) 161 dX12_press_157 (by decide) ?_
            exact X_lvs [1, 2, 3] rfl (x_Md_press_L161 hT hf)
          · replace hf := (if_neg c14).symm.trans hf
            refine X_icmp_ne_t (pc := 153) 160 dX12_press_153 (by decide) c14 ?_
            refine X_iconst (pc := 160) (1 : Int32) dX12_press_160 (by decide) ?_
            exact X_lvs [1, 2, 3] rfl (x_Md_press_L161 hT hf)
        · replace hf := (if_neg c13).symm.trans hf
          refine X_if_ne_t (pc := 142) 165 dX12_press_142 (by decide) c13 ?_
          refine X_iload_n (pc := 165) (i := 2) 2 dX12_press_165 rfl rfl ?_
          refine X_iconst (pc := 166) (1 : Int32) dX12_press_166 (by decide) ?_
          by_cases c19 : l2 = (1 : Int32)
          · replace hf := (if_pos c19).symm.trans hf
            refine X_icmp_ne_f (pc := 167) 197 dX12_press_167 (by decide) c19 ?_
            refine X_aload_n (pc := 170) (i := 0) 1 dX12_press_170 rfl rfl ?_
            refine X_getr (pc := 171) (a := 34) (ci := 11) (j := 35) (c := 50) (sh_34 hT) (by decide) k_1263 (rf_34_35 hT) (fun _ h => h) dX12_press_171 ?_
            refine X_iload_n (pc := 174) (i := 3) 3 dX12_press_174 rfl rfl ?_
            refine X_iconst (pc := 175) (0 : Int32) dX12_press_175 (by decide) ?_
            obtain ⟨c20, hf⟩ := gd_some hf
            refine X_iastj (pc := 176) (j := (l3.toNatClampNeg)) (sh_50 hT) (vp_in_lit (N := 4) c20 (by decide)) rfl dX12_press_176 ?_
            refine X_aload_n (pc := 177) (i := 0) 1 dX12_press_177 rfl rfl ?_
            refine X_getr (pc := 178) (a := 34) (ci := 11) (j := 34) (c := 49) (sh_34 hT) (by decide) k_1262 (rf_34_34 hT) (fun _ h => h) dX12_press_178 ?_
            refine X_iload_n (pc := 181) (i := 3) 3 dX12_press_181 rfl rfl ?_
            refine X_iload (pc := 182) 4 dX12_press_182 rfl ?_
            refine X_iconst (pc := 184) (2 : Int32) dX12_press_184 (by decide) ?_
            by_cases c21 : l4 = (2 : Int32)
            · replace hf := (if_pos c21).symm.trans hf
              refine X_icmp_ne_f (pc := 185) 192 dX12_press_185 (by decide) c21 ?_
              refine X_iconst (pc := 188) (0 : Int32) dX12_press_188 (by decide) ?_
              refine X_goto (pc := 189) 193 dX12_press_189 (by decide) ?_
              exact X_lvs [1, 2, 3] rfl (x_Md_press_L193 hT hf)
            · replace hf := (if_neg c21).symm.trans hf
              refine X_icmp_ne_t (pc := 185) 192 dX12_press_185 (by decide) c21 ?_
              refine X_iconst (pc := 192) (1 : Int32) dX12_press_192 (by decide) ?_
              exact X_lvs [1, 2, 3] rfl (x_Md_press_L193 hT hf)
          · replace hf := (if_neg c19).symm.trans hf
            refine X_icmp_ne_t (pc := 167) 197 dX12_press_167 (by decide) c19 ?_
            refine X_aload_n (pc := 197) (i := 0) 1 dX12_press_197 rfl rfl ?_
            refine X_getr (pc := 198) (a := 34) (ci := 11) (j := 37) (c := 52) (sh_34 hT) (by decide) k_1265 (rf_34_37 hT) (fun _ h => h) dX12_press_198 ?_
            refine X_iload_n (pc := 201) (i := 3) 3 dX12_press_201 rfl rfl ?_
            refine X_iload (pc := 202) 5 dX12_press_202 rfl ?_
            by_cases c23 : l5 = (0 : Int32)
            · replace hf := (if_pos c23).symm.trans hf
              refine X_if_ne_f (pc := 204) 211 dX12_press_204 (by decide) c23 ?_
              refine X_iconst (pc := 207) (1 : Int32) dX12_press_207 (by decide) ?_
              refine X_goto (pc := 208) 212 dX12_press_208 (by decide) ?_
              exact X_lvs [1, 2, 3] rfl (x_Md_press_L212 hT hf)
            · replace hf := (if_neg c23).symm.trans hf
              refine X_if_ne_t (pc := 204) 211 dX12_press_204 (by decide) c23 ?_
              refine X_iconst (pc := 211) (0 : Int32) dX12_press_211 (by decide) ?_
              exact X_lvs [1, 2, 3] rfl (x_Md_press_L212 hT hf)
      · replace hf := (if_neg c12).symm.trans hf
        refine X_if_eq_f (pc := 135) 141 dX12_press_135 (by decide) c12 ?_
        refine X_bipush (pc := 138) (-3 : Int32) dX12_press_138 (by decide) ?_
        cases hf
        exact X_ireturn (pc := 140) rfl dX12_press_140
theorem u_Md_press_L114 {S : List xSh} {l2 : Int32} {l3 : Int32} {l4 : Int32} {l5 : Int32} {s0 : Int32} {I : Nat → Nat → Int32} {L : Nat → Nat → Int64} {q : (Int32 × (Nat → Nat → Int32) × (Nat → Nat → Int64))} (hf : f_Md_press_L114 l2 l3 l4 l5 s0 I L = some q) : FR S [49, 50, 51, 52, 55, 4442] [] I q.2.1 L q.2.2 := by
  replace hf := (f_Md_press_L114.eq_1 _ _ _ _ _ _ _).symm.trans hf
  by_cases c10 : (I 34 24) = (0 : Int32)
  · replace hf := (if_pos c10).symm.trans hf
    cases hf
    exact FR.rf
  · replace hf := (if_neg c10).symm.trans hf
    by_cases c11 : s0 = (0 : Int32)
    · replace hf := (if_pos c11).symm.trans hf
      cases hf
      exact FR.rf
    · replace hf := (if_neg c11).symm.trans hf
      by_cases c12 : (f_Md_isBookFull I L) = (0 : Int32)
      · replace hf := (if_pos c12).symm.trans hf
        by_cases c13 : l2 = (0 : Int32)
        · replace hf := (if_pos c13).symm.trans hf
          by_cases c14 : l4 = (1 : Int32)
          · replace hf := (if_pos c14).symm.trans hf
            exact FR.tr FR.rf (u_Md_press_L161 hf) (by decide) (by decide)
          · replace hf := (if_neg c14).symm.trans hf
            exact FR.tr FR.rf (u_Md_press_L161 hf) (by decide) (by decide)
        · replace hf := (if_neg c13).symm.trans hf
          by_cases c19 : l2 = (1 : Int32)
          · replace hf := (if_pos c19).symm.trans hf
            obtain ⟨c20, hf⟩ := gd_some hf
            by_cases c21 : l4 = (2 : Int32)
            · replace hf := (if_pos c21).symm.trans hf
              exact FR.tr (FR.ai FR.rf (by decide)) (u_Md_press_L193 hf) (by decide) (by decide)
            · replace hf := (if_neg c21).symm.trans hf
              exact FR.tr (FR.ai FR.rf (by decide)) (u_Md_press_L193 hf) (by decide) (by decide)
          · replace hf := (if_neg c19).symm.trans hf
            by_cases c23 : l5 = (0 : Int32)
            · replace hf := (if_pos c23).symm.trans hf
              exact FR.tr FR.rf (u_Md_press_L212 hf) (by decide) (by decide)
            · replace hf := (if_neg c23).symm.trans hf
              exact FR.tr FR.rf (u_Md_press_L212 hf) (by decide) (by decide)
      · replace hf := (if_neg c12).symm.trans hf
        cases hf
        exact FR.rf
def f_Md_press_L109 (l2 : Int32) (l3 : Int32) (l4 : Int32) (l5 : Int32) (I : (Nat → Nat → Int32)) (L : (Nat → Nat → Int64)) : Option (Int32 × (Nat → Nat → Int32) × (Nat → Nat → Int64)) := (f_Md_press_L114 l2 l3 l4 l5 (1 : Int32) I L)
set_option maxRecDepth 100000 in
set_option maxHeartbeats 4000000 in
theorem x_Md_press_L109 {G : xG} {S : List xSh} {Rf : Nat → Nat → Option Nat} (hT : xTM S Rf) {l2 : Int32} {l3 : Int32} {l4 : Int32} {l5 : Int32} {I : Nat → Nat → Int32} {L : Nat → Nat → Int64} {q : (Int32 × (Nat → Nat → Int32) × (Nat → Nat → Int64))} (hf : f_Md_press_L109 l2 l3 l4 l5 I L = some q) : X G 2 m_Md_press 109 [(0, .ref (xP G 34)), (2, .int l2), (3, .int l3), (4, .int l4), (5, .int l5)] [] (S, I, L, Rf) (some (.int q.1), (S, q.2.1, q.2.2, Rf)) := by
  replace hf := (f_Md_press_L109.eq_1 _ _ _ _ _ _).symm.trans hf
  refine X_iconst (pc := 109) (1 : Int32) dX12_press_109 (by decide) ?_
  refine X_goto (pc := 110) 114 dX12_press_110 (by decide) ?_
  exact X_lvs [0, 1, 2, 3, 4] rfl (x_Md_press_L114 hT hf)
theorem u_Md_press_L109 {S : List xSh} {l2 : Int32} {l3 : Int32} {l4 : Int32} {l5 : Int32} {I : Nat → Nat → Int32} {L : Nat → Nat → Int64} {q : (Int32 × (Nat → Nat → Int32) × (Nat → Nat → Int64))} (hf : f_Md_press_L109 l2 l3 l4 l5 I L = some q) : FR S [49, 50, 51, 52, 55, 4442] [] I q.2.1 L q.2.2 := by
  replace hf := (f_Md_press_L109.eq_1 _ _ _ _ _ _).symm.trans hf
  exact FR.tr FR.rf (u_Md_press_L114 hf) (by decide) (by decide)
def f_Md_press_L113 (l2 : Int32) (l3 : Int32) (l4 : Int32) (l5 : Int32) (I : (Nat → Nat → Int32)) (L : (Nat → Nat → Int64)) : Option (Int32 × (Nat → Nat → Int32) × (Nat → Nat → Int64)) := (f_Md_press_L114 l2 l3 l4 l5 (0 : Int32) I L)
set_option maxRecDepth 100000 in
set_option maxHeartbeats 4000000 in
theorem x_Md_press_L113 {G : xG} {S : List xSh} {Rf : Nat → Nat → Option Nat} (hT : xTM S Rf) {l2 : Int32} {l3 : Int32} {l4 : Int32} {l5 : Int32} {I : Nat → Nat → Int32} {L : Nat → Nat → Int64} {q : (Int32 × (Nat → Nat → Int32) × (Nat → Nat → Int64))} (hf : f_Md_press_L113 l2 l3 l4 l5 I L = some q) : X G 2 m_Md_press 113 [(0, .ref (xP G 34)), (2, .int l2), (3, .int l3), (4, .int l4), (5, .int l5)] [] (S, I, L, Rf) (some (.int q.1), (S, q.2.1, q.2.2, Rf)) := by
  replace hf := (f_Md_press_L113.eq_1 _ _ _ _ _ _).symm.trans hf
  refine X_iconst (pc := 113) (0 : Int32) dX12_press_113 (by decide) ?_
  exact X_lvs [0, 1, 2, 3, 4] rfl (x_Md_press_L114 hT hf)
theorem u_Md_press_L113 {S : List xSh} {l2 : Int32} {l3 : Int32} {l4 : Int32} {l5 : Int32} {I : Nat → Nat → Int32} {L : Nat → Nat → Int64} {q : (Int32 × (Nat → Nat → Int32) × (Nat → Nat → Int64))} (hf : f_Md_press_L113 l2 l3 l4 l5 I L = some q) : FR S [49, 50, 51, 52, 55, 4442] [] I q.2.1 L q.2.2 := by
  replace hf := (f_Md_press_L113.eq_1 _ _ _ _ _ _).symm.trans hf
  exact FR.tr FR.rf (u_Md_press_L114 hf) (by decide) (by decide)
def f_Md_press_L84 (l2 : Int32) (l3 : Int32) (l4 : Int32) (l5 : Int32) (I : (Nat → Nat → Int32)) (L : (Nat → Nat → Int64)) : Option (Int32 × (Nat → Nat → Int32) × (Nat → Nat → Int64)) := (if l2 = (2 : Int32) then (if (0 ≤ l3 ∧ l3 < (4 : Int32)) then (if (I 47 (l3.toNatClampNeg)) = (2 : Int32) then (if l5 = (0 : Int32) then (if l4 ≤ (0 : Int32) then (f_Md_press_L113 l2 l3 l4 l5 I L) else (f_Md_press_L109 l2 l3 l4 l5 I L)) else (f_Md_press_L109 l2 l3 l4 l5 I L)) else (f_Md_press_L113 l2 l3 l4 l5 I L)) else none) else (f_Md_press_L113 l2 l3 l4 l5 I L))
set_option maxRecDepth 100000 in
set_option maxHeartbeats 4000000 in
theorem x_Md_press_L84 {G : xG} {S : List xSh} {Rf : Nat → Nat → Option Nat} (hT : xTM S Rf) {l2 : Int32} {l3 : Int32} {l4 : Int32} {l5 : Int32} {I : Nat → Nat → Int32} {L : Nat → Nat → Int64} {q : (Int32 × (Nat → Nat → Int32) × (Nat → Nat → Int64))} (hf : f_Md_press_L84 l2 l3 l4 l5 I L = some q) : X G 2 m_Md_press 84 [(0, .ref (xP G 34)), (2, .int l2), (3, .int l3), (4, .int l4), (5, .int l5)] [] (S, I, L, Rf) (some (.int q.1), (S, q.2.1, q.2.2, Rf)) := by
  replace hf := (f_Md_press_L84.eq_1 _ _ _ _ _ _).symm.trans hf
  refine X_iload_n (pc := 84) (i := 2) 1 dX12_press_84 rfl rfl ?_
  refine X_iconst (pc := 85) (2 : Int32) dX12_press_85 (by decide) ?_
  by_cases c35 : l2 = (2 : Int32)
  · replace hf := (if_pos c35).symm.trans hf
    refine X_icmp_ne_f (pc := 86) 113 dX12_press_86 (by decide) c35 ?_
    refine X_aload_n (pc := 89) (i := 0) 0 dX12_press_89 rfl rfl ?_
    refine X_getr (pc := 90) (a := 34) (ci := 11) (j := 23) (c := 47) (sh_34 hT) (by decide) k_1251 (rf_34_23 hT) (fun _ h => h) dX12_press_90 ?_
    refine X_iload_n (pc := 93) (i := 3) 2 dX12_press_93 rfl rfl ?_
    obtain ⟨c36, hf⟩ := gd_some hf
    refine X_ialdj (pc := 94) (j := l3.toNatClampNeg) (I 47 (l3.toNatClampNeg)) (sh_47 hT) (vp_in_lit (N := 4) c36 (by decide)) rfl rfl dX12_press_94 ?_
    refine X_iconst (pc := 95) (2 : Int32) dX12_press_95 (by decide) ?_
    by_cases c37 : (I 47 (l3.toNatClampNeg)) = (2 : Int32)
    · replace hf := (if_pos c37).symm.trans hf
      refine X_icmp_ne_f (pc := 96) 113 dX12_press_96 (by decide) c37 ?_
      refine X_iload (pc := 99) 4 dX12_press_99 rfl ?_
      by_cases c38 : l5 = (0 : Int32)
      · replace hf := (if_pos c38).symm.trans hf
        refine X_if_ne_f (pc := 101) 109 dX12_press_101 (by decide) c38 ?_
        refine X_iload (pc := 104) 3 dX12_press_104 rfl ?_
        by_cases c39 : l4 ≤ (0 : Int32)
        · replace hf := (if_pos c39).symm.trans hf
          refine X_if_le_t (pc := 106) 113 dX12_press_106 (by decide) c39 ?_
          exact X_lvs [0, 1, 2, 3, 4] rfl (x_Md_press_L113 hT hf)
        · replace hf := (if_neg c39).symm.trans hf
          refine X_if_le_f (pc := 106) 113 dX12_press_106 (by decide) c39 ?_
          exact X_lvs [0, 1, 2, 3, 4] rfl (x_Md_press_L109 hT hf)
      · replace hf := (if_neg c38).symm.trans hf
        refine X_if_ne_t (pc := 101) 109 dX12_press_101 (by decide) c38 ?_
        exact X_lvs [0, 1, 2, 3, 4] rfl (x_Md_press_L109 hT hf)
    · replace hf := (if_neg c37).symm.trans hf
      refine X_icmp_ne_t (pc := 96) 113 dX12_press_96 (by decide) c37 ?_
      exact X_lvs [0, 1, 2, 3, 4] rfl (x_Md_press_L113 hT hf)
  · replace hf := (if_neg c35).symm.trans hf
    refine X_icmp_ne_t (pc := 86) 113 dX12_press_86 (by decide) c35 ?_
    exact X_lvs [0, 1, 2, 3, 4] rfl (x_Md_press_L113 hT hf)
theorem u_Md_press_L84 {S : List xSh} {l2 : Int32} {l3 : Int32} {l4 : Int32} {l5 : Int32} {I : Nat → Nat → Int32} {L : Nat → Nat → Int64} {q : (Int32 × (Nat → Nat → Int32) × (Nat → Nat → Int64))} (hf : f_Md_press_L84 l2 l3 l4 l5 I L = some q) : FR S [49, 50, 51, 52, 55, 4442] [] I q.2.1 L q.2.2 := by
  replace hf := (f_Md_press_L84.eq_1 _ _ _ _ _ _).symm.trans hf
  by_cases c35 : l2 = (2 : Int32)
  · replace hf := (if_pos c35).symm.trans hf
    obtain ⟨c36, hf⟩ := gd_some hf
    by_cases c37 : (I 47 (l3.toNatClampNeg)) = (2 : Int32)
    · replace hf := (if_pos c37).symm.trans hf
      by_cases c38 : l5 = (0 : Int32)
      · replace hf := (if_pos c38).symm.trans hf
        by_cases c39 : l4 ≤ (0 : Int32)
        · replace hf := (if_pos c39).symm.trans hf
          exact FR.tr FR.rf (u_Md_press_L113 hf) (by decide) (by decide)
        · replace hf := (if_neg c39).symm.trans hf
          exact FR.tr FR.rf (u_Md_press_L109 hf) (by decide) (by decide)
      · replace hf := (if_neg c38).symm.trans hf
        exact FR.tr FR.rf (u_Md_press_L109 hf) (by decide) (by decide)
    · replace hf := (if_neg c37).symm.trans hf
      exact FR.tr FR.rf (u_Md_press_L113 hf) (by decide) (by decide)
  · replace hf := (if_neg c35).symm.trans hf
    exact FR.tr FR.rf (u_Md_press_L113 hf) (by decide) (by decide)
def f_Md_press (a0 : Int32) (a1 : Int32) (I : Nat → Nat → Int32) (L : Nat → Nat → Int64) : Option (Int32 × (Nat → Nat → Int32) × (Nat → Nat → Int64)) := (bnd (f_Md_within (Int32.toInt64 a0) (0 : Int64) (Int32.toInt64 ((I 34 22) - (1 : Int32)))) fun x1 => (if x1 = (0 : Int32) then (some ((-1 : Int32), I, L)) else (bnd (f_Md_within (Int32.toInt64 a1) (0 : Int64) (2 : Int64)) fun x3 => (if x3 = (0 : Int32) then (some ((-1 : Int32), I, L)) else (if (0 ≤ a0 ∧ a0 < (4 : Int32)) then (bnd (I 49 (a0.toNatClampNeg)) fun x6 => (if (0 ≤ a0 ∧ a0 < (4 : Int32)) then (bnd (I 52 (a0.toNatClampNeg)) fun x8 => (if a1 = (0 : Int32) then (f_Md_press_L109 a1 a0 x6 x8 I L) else (if a1 = (1 : Int32) then (if x8 = (0 : Int32) then (if x6 = (2 : Int32) then (f_Md_press_L109 a1 a0 x6 x8 I L) else (if x6 = (1 : Int32) then (if (0 ≤ a0 ∧ a0 < (4 : Int32)) then (if (I 47 (a0.toNatClampNeg)) = (1 : Int32) then (f_Md_press_L109 a1 a0 x6 x8 I L) else (f_Md_press_L84 a1 a0 x6 x8 I L)) else none) else (f_Md_press_L84 a1 a0 x6 x8 I L))) else (f_Md_press_L84 a1 a0 x6 x8 I L)) else (f_Md_press_L84 a1 a0 x6 x8 I L)))) else none)) else none)))))
set_option maxRecDepth 100000 in
set_option maxHeartbeats 4000000 in
theorem c_Md_press {G : xG} {S : List xSh} {Rf : Nat → Nat → Option Nat} (hT : xTM S Rf) {a0 : Int32} {a1 : Int32} {I : Nat → Nat → Int32} {L : Nat → Nat → Int64} {q : (Int32 × (Nat → Nat → Int32) × (Nat → Nat → Int64))} (hf : f_Md_press a0 a1 I L = some q) : CT G 2 m_Md_press [.ref (xP G 34), .int a0, .int a1] (S, I, L, Rf) (some (.int q.1), (S, q.2.1, q.2.2, Rf)) := by
  refine CT.of (by decide +kernel) (Nat.le_of_ble_eq_true rfl) ?_
  show X G 2 m_Md_press 0 [(0, .ref (xP G 34)), (1, .int a0), (2, .int a1)] [] (S, I, L, Rf) (some (.int q.1), (S, q.2.1, q.2.2, Rf))
  replace hf := (f_Md_press.eq_1 _ _ _ _).symm.trans hf
  refine X_iload_n (pc := 0) (i := 1) 1 dX12_press_0 rfl rfl ?_
  refine X_i2l (pc := 1) dX12_press_1 ?_
  refine X_lconst (pc := 2) (0 : Int64) dX12_press_2 (by decide) ?_
  refine X_aload_n (pc := 3) (i := 0) 0 dX12_press_3 rfl rfl ?_
  refine X_get (pc := 4) (a := 34) (ci := 11) (j := 22) (.int (I 34 22)) (sh_34 hT) (by decide) k_1250 rfl dX12_press_4 ?_
  refine X_iconst (pc := 7) (1 : Int32) dX12_press_7 (by decide) ?_
  refine X_isub (pc := 8) dX12_press_8 ?_
  refine X_i2l (pc := 9) dX12_press_9 ?_
  refine X_invS_i (pc := 10) (c_Md_within hT rfl) ok_Md_within k_1482 k_1483 nd_33 (by decide) rfl (Nat.le_of_ble_eq_true rfl) dX12_press_10 ?_
  obtain ⟨x1, ex1, hf⟩ := bnd_e hf
  refine X_tope ex1 ?_
  by_cases c2 : x1 = (0 : Int32)
  · replace hf := (if_pos c2).symm.trans hf
    refine X_if_eq_t (pc := 13) 28 dX12_press_13 (by decide) c2 ?_
    refine X_iconst (pc := 28) (-1 : Int32) dX12_press_28 (by decide) ?_
    cases hf
    exact X_ireturn (pc := 29) rfl dX12_press_29
  · replace hf := (if_neg c2).symm.trans hf
    refine X_if_eq_f (pc := 13) 28 dX12_press_13 (by decide) c2 ?_
    refine X_iload_n (pc := 16) (i := 2) 2 dX12_press_16 rfl rfl ?_
    refine X_i2l (pc := 17) dX12_press_17 ?_
    refine X_lconst (pc := 18) (0 : Int64) dX12_press_18 (by decide) ?_
    refine X_ldc2 (pc := 19) (2 : Int64) k_1521 dX12_press_19 ?_
    refine X_invS_i (pc := 22) (c_Md_within hT rfl) ok_Md_within k_1482 k_1483 nd_33 (by decide) rfl (Nat.le_of_ble_eq_true rfl) dX12_press_22 ?_
    obtain ⟨x3, ex3, hf⟩ := bnd_e hf
    refine X_tope ex3 ?_
    by_cases c4 : x3 = (0 : Int32)
    · replace hf := (if_pos c4).symm.trans hf
      refine X_if_ne_f (pc := 25) 30 dX12_press_25 (by decide) c4 ?_
      refine X_iconst (pc := 28) (-1 : Int32) dX12_press_28 (by decide) ?_
      cases hf
      exact X_ireturn (pc := 29) rfl dX12_press_29
    · replace hf := (if_neg c4).symm.trans hf
      refine X_if_ne_t (pc := 25) 30 dX12_press_25 (by decide) c4 ?_
      refine X_iload_n (pc := 30) (i := 1) 1 dX12_press_30 rfl rfl ?_
      refine X_istore_n (pc := 31) (i := 3) [(3, .int a0), (0, .ref (xP G 34)), (1, .int a0), (2, .int a1)] dX12_press_31 rfl (by decide) rfl ?_
      refine X_aload_n (pc := 32) (i := 0) 1 dX12_press_32 rfl rfl ?_
      refine X_getr (pc := 33) (a := 34) (ci := 11) (j := 34) (c := 49) (sh_34 hT) (by decide) k_1262 (rf_34_34 hT) (fun _ h => h) dX12_press_33 ?_
      refine X_iload_n (pc := 36) (i := 3) 0 dX12_press_36 rfl rfl ?_
      obtain ⟨c5, hf⟩ := gd_some hf
      refine X_ialdj (pc := 37) (j := a0.toNatClampNeg) (I 49 (a0.toNatClampNeg)) (sh_49 hT) (vp_in_lit (N := 4) c5 (by decide)) rfl rfl dX12_press_37 ?_
      obtain ⟨x6, ex6, hf⟩ := bnd_e hf
      refine X_tope ex6 ?_
      refine X_istore (pc := 38) [(4, .int x6), (3, .int a0), (0, .ref (xP G 34)), (1, .int a0), (2, .int a1)] dX12_press_38 (by decide) rfl ?_
      refine X_aload_n (pc := 40) (i := 0) 2 dX12_press_40 rfl rfl ?_
      refine X_getr (pc := 41) (a := 34) (ci := 11) (j := 37) (c := 52) (sh_34 hT) (by decide) k_1265 (rf_34_37 hT) (fun _ h => h) dX12_press_41 ?_
      refine X_iload_n (pc := 44) (i := 3) 1 dX12_press_44 rfl rfl ?_
      obtain ⟨c7, hf⟩ := gd_some hf
      refine X_zaldj (pc := 45) (j := a0.toNatClampNeg) (I 52 (a0.toNatClampNeg)) (sh_52 hT) (vp_in_lit (N := 4) c7 (by decide)) rfl rfl dX12_press_45 ?_
      obtain ⟨x8, ex8, hf⟩ := bnd_e hf
      refine X_tope ex8 ?_
      refine X_istore (pc := 46) [(5, .int x8), (4, .int x6), (3, .int a0), (0, .ref (xP G 34)), (1, .int a0), (2, .int a1)] dX12_press_46 (by decide) rfl ?_
      refine X_iload_n (pc := 48) (i := 2) 5 dX12_press_48 rfl rfl ?_
      by_cases c9 : a1 = (0 : Int32)
      · replace hf := (if_pos c9).symm.trans hf
        refine X_if_eq_t (pc := 49) 109 dX12_press_49 (by decide) c9 ?_
        exact X_lvs [3, 5, 2, 1, 0] rfl (x_Md_press_L109 hT hf)
      · replace hf := (if_neg c9).symm.trans hf
        refine X_if_eq_f (pc := 49) 109 dX12_press_49 (by decide) c9 ?_
        refine X_iload_n (pc := 52) (i := 2) 5 dX12_press_52 rfl rfl ?_
        refine X_iconst (pc := 53) (1 : Int32) dX12_press_53 (by decide) ?_
        by_cases c29 : a1 = (1 : Int32)
        · replace hf := (if_pos c29).symm.trans hf
          refine X_icmp_ne_f (pc := 54) 84 dX12_press_54 (by decide) c29 ?_
          refine X_iload (pc := 57) 0 dX12_press_57 rfl ?_
          by_cases c30 : x8 = (0 : Int32)
          · replace hf := (if_pos c30).symm.trans hf
            refine X_if_ne_f (pc := 59) 84 dX12_press_59 (by decide) c30 ?_
            refine X_iload (pc := 62) 1 dX12_press_62 rfl ?_
            refine X_iconst (pc := 64) (2 : Int32) dX12_press_64 (by decide) ?_
            by_cases c31 : x6 = (2 : Int32)
            · replace hf := (if_pos c31).symm.trans hf
              refine X_icmp_eq_t (pc := 65) 109 dX12_press_65 (by decide) c31 ?_
              exact X_lvs [3, 5, 2, 1, 0] rfl (x_Md_press_L109 hT hf)
            · replace hf := (if_neg c31).symm.trans hf
              refine X_icmp_eq_f (pc := 65) 109 dX12_press_65 (by decide) c31 ?_
              refine X_iload (pc := 68) 1 dX12_press_68 rfl ?_
              refine X_iconst (pc := 70) (1 : Int32) dX12_press_70 (by decide) ?_
              by_cases c32 : x6 = (1 : Int32)
              · replace hf := (if_pos c32).symm.trans hf
                refine X_icmp_ne_f (pc := 71) 84 dX12_press_71 (by decide) c32 ?_
                refine X_aload_n (pc := 74) (i := 0) 3 dX12_press_74 rfl rfl ?_
                refine X_getr (pc := 75) (a := 34) (ci := 11) (j := 23) (c := 47) (sh_34 hT) (by decide) k_1251 (rf_34_23 hT) (fun _ h => h) dX12_press_75 ?_
                refine X_iload_n (pc := 78) (i := 3) 2 dX12_press_78 rfl rfl ?_
                obtain ⟨c33, hf⟩ := gd_some hf
                refine X_ialdj (pc := 79) (j := a0.toNatClampNeg) (I 47 (a0.toNatClampNeg)) (sh_47 hT) (vp_in_lit (N := 4) c33 (by decide)) rfl rfl dX12_press_79 ?_
                refine X_iconst (pc := 80) (1 : Int32) dX12_press_80 (by decide) ?_
                by_cases c34 : (I 47 (a0.toNatClampNeg)) = (1 : Int32)
                · replace hf := (if_pos c34).symm.trans hf
                  refine X_icmp_eq_t (pc := 81) 109 dX12_press_81 (by decide) c34 ?_
                  exact X_lvs [3, 5, 2, 1, 0] rfl (x_Md_press_L109 hT hf)
                · replace hf := (if_neg c34).symm.trans hf
                  refine X_icmp_eq_f (pc := 81) 109 dX12_press_81 (by decide) c34 ?_
                  exact X_lvs [3, 5, 2, 1, 0] rfl (x_Md_press_L84 hT hf)
              · replace hf := (if_neg c32).symm.trans hf
                refine X_icmp_ne_t (pc := 71) 84 dX12_press_71 (by decide) c32 ?_
                exact X_lvs [3, 5, 2, 1, 0] rfl (x_Md_press_L84 hT hf)
          · replace hf := (if_neg c30).symm.trans hf
            refine X_if_ne_t (pc := 59) 84 dX12_press_59 (by decide) c30 ?_
            exact X_lvs [3, 5, 2, 1, 0] rfl (x_Md_press_L84 hT hf)
        · replace hf := (if_neg c29).symm.trans hf
          refine X_icmp_ne_t (pc := 54) 84 dX12_press_54 (by decide) c29 ?_
          exact X_lvs [3, 5, 2, 1, 0] rfl (x_Md_press_L84 hT hf)
theorem u_Md_press {S : List xSh} {a0 : Int32} {a1 : Int32} {I : Nat → Nat → Int32} {L : Nat → Nat → Int64} {q : (Int32 × (Nat → Nat → Int32) × (Nat → Nat → Int64))} (hf : f_Md_press a0 a1 I L = some q) : FR S [49, 50, 51, 52, 55, 4442] [] I q.2.1 L q.2.2 := by
  replace hf := (f_Md_press.eq_1 _ _ _ _).symm.trans hf
  obtain ⟨x1, ex1, hf⟩ := bnd_e hf
  by_cases c2 : x1 = (0 : Int32)
  · replace hf := (if_pos c2).symm.trans hf
    cases hf
    exact FR.rf
  · replace hf := (if_neg c2).symm.trans hf
    obtain ⟨x3, ex3, hf⟩ := bnd_e hf
    by_cases c4 : x3 = (0 : Int32)
    · replace hf := (if_pos c4).symm.trans hf
      cases hf
      exact FR.rf
    · replace hf := (if_neg c4).symm.trans hf
      obtain ⟨c5, hf⟩ := gd_some hf
      obtain ⟨x6, ex6, hf⟩ := bnd_e hf
      obtain ⟨c7, hf⟩ := gd_some hf
      obtain ⟨x8, ex8, hf⟩ := bnd_e hf
      by_cases c9 : a1 = (0 : Int32)
      · replace hf := (if_pos c9).symm.trans hf
        exact FR.tr FR.rf (u_Md_press_L109 hf) (by decide) (by decide)
      · replace hf := (if_neg c9).symm.trans hf
        by_cases c29 : a1 = (1 : Int32)
        · replace hf := (if_pos c29).symm.trans hf
          by_cases c30 : x8 = (0 : Int32)
          · replace hf := (if_pos c30).symm.trans hf
            by_cases c31 : x6 = (2 : Int32)
            · replace hf := (if_pos c31).symm.trans hf
              exact FR.tr FR.rf (u_Md_press_L109 hf) (by decide) (by decide)
            · replace hf := (if_neg c31).symm.trans hf
              by_cases c32 : x6 = (1 : Int32)
              · replace hf := (if_pos c32).symm.trans hf
                obtain ⟨c33, hf⟩ := gd_some hf
                by_cases c34 : (I 47 (a0.toNatClampNeg)) = (1 : Int32)
                · replace hf := (if_pos c34).symm.trans hf
                  exact FR.tr FR.rf (u_Md_press_L109 hf) (by decide) (by decide)
                · replace hf := (if_neg c34).symm.trans hf
                  exact FR.tr FR.rf (u_Md_press_L84 hf) (by decide) (by decide)
              · replace hf := (if_neg c32).symm.trans hf
                exact FR.tr FR.rf (u_Md_press_L84 hf) (by decide) (by decide)
          · replace hf := (if_neg c30).symm.trans hf
            exact FR.tr FR.rf (u_Md_press_L84 hf) (by decide) (by decide)
        · replace hf := (if_neg c29).symm.trans hf
          exact FR.tr FR.rf (u_Md_press_L84 hf) (by decide) (by decide)
theorem dX12_isWork_0 : decode cX12_isWork 0 = .ok (.iload_n 1, 1) := by decide +kernel
theorem dX12_isWork_1 : decode cX12_isWork 1 = .ok (.i2l, 1) := by decide +kernel
theorem dX12_isWork_2 : decode cX12_isWork 2 = .ok (.lconst 0, 1) := by decide +kernel
theorem dX12_isWork_3 : decode cX12_isWork 3 = .ok (.aload_n 0, 1) := by decide +kernel
theorem dX12_isWork_4 : decode cX12_isWork 4 = .ok (.getfield 172, 3) := by decide +kernel
theorem dX12_isWork_7 : decode cX12_isWork 7 = .ok (.iconst 1, 1) := by decide +kernel
theorem dX12_isWork_8 : decode cX12_isWork 8 = .ok (.isub, 1) := by decide +kernel
theorem dX12_isWork_9 : decode cX12_isWork 9 = .ok (.i2l, 1) := by decide +kernel
theorem dX12_isWork_10 : decode cX12_isWork 10 = .ok (.invokestatic 140, 3) := by decide +kernel
theorem dX12_isWork_13 : decode cX12_isWork 13 = .ok (.ireturn, 1) := by decide +kernel
def f_Md_isWork (a0 : Int32) (I : Nat → Nat → Int32) (L : Nat → Nat → Int64) : Option Int32 := (bnd (f_Md_within (Int32.toInt64 a0) (0 : Int64) (Int32.toInt64 ((I 34 16) - (1 : Int32)))) fun x1 => (if (x1 = (0 : Int32) ∨ x1 = (1 : Int32)) then (some x1) else none))
set_option maxRecDepth 100000 in
set_option maxHeartbeats 4000000 in
theorem c_Md_isWork {G : xG} {S : List xSh} {Rf : Nat → Nat → Option Nat} (hT : xTM S Rf) {a0 : Int32} {I : Nat → Nat → Int32} {L : Nat → Nat → Int64} {q : Int32} (hf : f_Md_isWork a0 I L = some q) : CT G 2 m_Md_isWork [.ref (xP G 34), .int a0] (S, I, L, Rf) (some (.int q), (S, I, L, Rf)) := by
  refine CT.of (by decide +kernel) (Nat.le_of_ble_eq_true rfl) ?_
  show X G 2 m_Md_isWork 0 [(0, .ref (xP G 34)), (1, .int a0)] [] (S, I, L, Rf) (some (.int q), (S, I, L, Rf))
  replace hf := (f_Md_isWork.eq_1 _ _ _).symm.trans hf
  refine X_iload_n (pc := 0) (i := 1) 1 dX12_isWork_0 rfl rfl ?_
  refine X_i2l (pc := 1) dX12_isWork_1 ?_
  refine X_lconst (pc := 2) (0 : Int64) dX12_isWork_2 (by decide) ?_
  refine X_aload_n (pc := 3) (i := 0) 0 dX12_isWork_3 rfl rfl ?_
  refine X_get (pc := 4) (a := 34) (ci := 11) (j := 16) (.int (I 34 16)) (sh_34 hT) (by decide) k_1244 rfl dX12_isWork_4 ?_
  refine X_iconst (pc := 7) (1 : Int32) dX12_isWork_7 (by decide) ?_
  refine X_isub (pc := 8) dX12_isWork_8 ?_
  refine X_i2l (pc := 9) dX12_isWork_9 ?_
  refine X_invS_i (pc := 10) (c_Md_within hT rfl) ok_Md_within k_1482 k_1483 nd_33 (by decide) rfl (Nat.le_of_ble_eq_true rfl) dX12_isWork_10 ?_
  obtain ⟨x1, ex1, hf⟩ := bnd_e hf
  refine X_tope ex1 ?_
  obtain ⟨c2, hf⟩ := gd_some hf
  cases hf
  exact X_zreturn (pc := 13) rfl (nar_b c2) dX12_isWork_13
theorem dX12_canShow_0 : decode cX12_canShow 0 = .ok (.aload_n 0, 1) := by decide +kernel
theorem dX12_canShow_1 : decode cX12_canShow 1 = .ok (.getfield 31, 3) := by decide +kernel
theorem dX12_canShow_4 : decode cX12_canShow 4 = .ok (.iload_n 1, 1) := by decide +kernel
theorem dX12_canShow_5 : decode cX12_canShow 5 = .ok (.iaload, 1) := by decide +kernel
theorem dX12_canShow_6 : decode cX12_canShow 6 = .ok (.ifCond .ne 31, 3) := by decide +kernel
theorem dX12_canShow_9 : decode cX12_canShow 9 = .ok (.iload_n 2, 1) := by decide +kernel
theorem dX12_canShow_10 : decode cX12_canShow 10 = .ok (.ifCond .ne 25, 3) := by decide +kernel
theorem dX12_canShow_13 : decode cX12_canShow 13 = .ok (.iload_n 3, 1) := by decide +kernel
theorem dX12_canShow_14 : decode cX12_canShow 14 = .ok (.i2l, 1) := by decide +kernel
theorem dX12_canShow_15 : decode cX12_canShow 15 = .ok (.lconst 0, 1) := by decide +kernel
theorem dX12_canShow_16 : decode cX12_canShow 16 = .ok (.aload_n 0, 1) := by decide +kernel
theorem dX12_canShow_17 : decode cX12_canShow 17 = .ok (.getfield 40, 3) := by decide +kernel
theorem dX12_canShow_20 : decode cX12_canShow 20 = .ok (.iload_n 1, 1) := by decide +kernel
theorem dX12_canShow_21 : decode cX12_canShow 21 = .ok (.iaload, 1) := by decide +kernel
theorem dX12_canShow_22 : decode cX12_canShow 22 = .ok (.iconst 1, 1) := by decide +kernel
theorem dX12_canShow_23 : decode cX12_canShow 23 = .ok (.isub, 1) := by decide +kernel
theorem dX12_canShow_24 : decode cX12_canShow 24 = .ok (.i2l, 1) := by decide +kernel
theorem dX12_canShow_25 : decode cX12_canShow 25 = .ok (.invokestatic 140, 3) := by decide +kernel
theorem dX12_canShow_28 : decode cX12_canShow 28 = .ok (.ifCond .eq 7, 3) := by decide +kernel
theorem dX12_canShow_31 : decode cX12_canShow 31 = .ok (.iconst 1, 1) := by decide +kernel
theorem dX12_canShow_32 : decode cX12_canShow 32 = .ok (.goto 4, 3) := by decide +kernel
theorem dX12_canShow_35 : decode cX12_canShow 35 = .ok (.iconst 0, 1) := by decide +kernel
theorem dX12_canShow_36 : decode cX12_canShow 36 = .ok (.ireturn, 1) := by decide +kernel
theorem dX12_canShow_37 : decode cX12_canShow 37 = .ok (.aload_n 0, 1) := by decide +kernel
theorem dX12_canShow_38 : decode cX12_canShow 38 = .ok (.getfield 31, 3) := by decide +kernel
theorem dX12_canShow_41 : decode cX12_canShow 41 = .ok (.iload_n 1, 1) := by decide +kernel
theorem dX12_canShow_42 : decode cX12_canShow 42 = .ok (.iaload, 1) := by decide +kernel
theorem dX12_canShow_43 : decode cX12_canShow 43 = .ok (.iconst 1, 1) := by decide +kernel
theorem dX12_canShow_44 : decode cX12_canShow 44 = .ok (.if_icmp .ne 76, 3) := by decide +kernel
theorem dX12_canShow_47 : decode cX12_canShow 47 = .ok (.iload_n 2, 1) := by decide +kernel
theorem dX12_canShow_48 : decode cX12_canShow 48 = .ok (.ifCond .ne 15, 3) := by decide +kernel
theorem dX12_canShow_51 : decode cX12_canShow 51 = .ok (.iload_n 3, 1) := by decide +kernel
theorem dX12_canShow_52 : decode cX12_canShow 52 = .ok (.i2l, 1) := by decide +kernel
theorem dX12_canShow_53 : decode cX12_canShow 53 = .ok (.lconst 1, 1) := by decide +kernel
theorem dX12_canShow_54 : decode cX12_canShow 54 = .ok (.ldc2_w 391, 3) := by decide +kernel
theorem dX12_canShow_57 : decode cX12_canShow 57 = .ok (.invokestatic 140, 3) := by decide +kernel
theorem dX12_canShow_60 : decode cX12_canShow 60 = .ok (.goto 59, 3) := by decide +kernel
theorem dX12_canShow_63 : decode cX12_canShow 63 = .ok (.iload_n 2, 1) := by decide +kernel
theorem dX12_canShow_64 : decode cX12_canShow 64 = .ok (.iconst 1, 1) := by decide +kernel
theorem dX12_canShow_65 : decode cX12_canShow 65 = .ok (.if_icmp .ne 15, 3) := by decide +kernel
theorem dX12_canShow_68 : decode cX12_canShow 68 = .ok (.iload_n 3, 1) := by decide +kernel
theorem dX12_canShow_69 : decode cX12_canShow 69 = .ok (.i2l, 1) := by decide +kernel
theorem dX12_canShow_70 : decode cX12_canShow 70 = .ok (.lconst 1, 1) := by decide +kernel
theorem dX12_canShow_71 : decode cX12_canShow 71 = .ok (.ldc2_w 263, 3) := by decide +kernel
theorem dX12_canShow_74 : decode cX12_canShow 74 = .ok (.invokestatic 140, 3) := by decide +kernel
theorem dX12_canShow_77 : decode cX12_canShow 77 = .ok (.goto 42, 3) := by decide +kernel
theorem dX12_canShow_80 : decode cX12_canShow 80 = .ok (.iload_n 2, 1) := by decide +kernel
theorem dX12_canShow_81 : decode cX12_canShow 81 = .ok (.iconst 2, 1) := by decide +kernel
theorem dX12_canShow_82 : decode cX12_canShow 82 = .ok (.if_icmp .ne 15, 3) := by decide +kernel
theorem dX12_canShow_85 : decode cX12_canShow 85 = .ok (.iload_n 3, 1) := by decide +kernel
theorem dX12_canShow_86 : decode cX12_canShow 86 = .ok (.i2l, 1) := by decide +kernel
theorem dX12_canShow_87 : decode cX12_canShow 87 = .ok (.lconst 1, 1) := by decide +kernel
theorem dX12_canShow_88 : decode cX12_canShow 88 = .ok (.ldc2_w 261, 3) := by decide +kernel
theorem dX12_canShow_91 : decode cX12_canShow 91 = .ok (.invokestatic 140, 3) := by decide +kernel
theorem dX12_canShow_94 : decode cX12_canShow 94 = .ok (.goto 25, 3) := by decide +kernel
theorem dX12_canShow_97 : decode cX12_canShow 97 = .ok (.iload_n 2, 1) := by decide +kernel
theorem dX12_canShow_98 : decode cX12_canShow 98 = .ok (.iconst 3, 1) := by decide +kernel
theorem dX12_canShow_99 : decode cX12_canShow 99 = .ok (.if_icmp .ne 19, 3) := by decide +kernel
theorem dX12_canShow_102 : decode cX12_canShow 102 = .ok (.iload_n 3, 1) := by decide +kernel
theorem dX12_canShow_103 : decode cX12_canShow 103 = .ok (.i2l, 1) := by decide +kernel
theorem dX12_canShow_104 : decode cX12_canShow 104 = .ok (.lconst 0, 1) := by decide +kernel
theorem dX12_canShow_105 : decode cX12_canShow 105 = .ok (.ldc2_w 393, 3) := by decide +kernel
theorem dX12_canShow_108 : decode cX12_canShow 108 = .ok (.invokestatic 140, 3) := by decide +kernel
theorem dX12_canShow_111 : decode cX12_canShow 111 = .ok (.ifCond .eq 7, 3) := by decide +kernel
theorem dX12_canShow_114 : decode cX12_canShow 114 = .ok (.iconst 1, 1) := by decide +kernel
theorem dX12_canShow_115 : decode cX12_canShow 115 = .ok (.goto 4, 3) := by decide +kernel
theorem dX12_canShow_118 : decode cX12_canShow 118 = .ok (.iconst 0, 1) := by decide +kernel
theorem dX12_canShow_119 : decode cX12_canShow 119 = .ok (.ireturn, 1) := by decide +kernel
theorem dX12_canShow_120 : decode cX12_canShow 120 = .ok (.iload_n 2, 1) := by decide +kernel
theorem dX12_canShow_121 : decode cX12_canShow 121 = .ok (.ifCond .eq 8, 3) := by decide +kernel
theorem dX12_canShow_124 : decode cX12_canShow 124 = .ok (.iload_n 2, 1) := by decide +kernel
theorem dX12_canShow_125 : decode cX12_canShow 125 = .ok (.iconst 1, 1) := by decide +kernel
theorem dX12_canShow_126 : decode cX12_canShow 126 = .ok (.if_icmp .ne 15, 3) := by decide +kernel
theorem dX12_canShow_129 : decode cX12_canShow 129 = .ok (.iload_n 3, 1) := by decide +kernel
theorem dX12_canShow_130 : decode cX12_canShow 130 = .ok (.i2l, 1) := by decide +kernel
theorem dX12_canShow_131 : decode cX12_canShow 131 = .ok (.lconst 1, 1) := by decide +kernel
theorem dX12_canShow_132 : decode cX12_canShow 132 = .ok (.ldc2_w 263, 3) := by decide +kernel
theorem dX12_canShow_135 : decode cX12_canShow 135 = .ok (.invokestatic 140, 3) := by decide +kernel
theorem dX12_canShow_138 : decode cX12_canShow 138 = .ok (.goto 23, 3) := by decide +kernel
theorem dX12_canShow_141 : decode cX12_canShow 141 = .ok (.iload_n 2, 1) := by decide +kernel
theorem dX12_canShow_142 : decode cX12_canShow 142 = .ok (.iconst 2, 1) := by decide +kernel
theorem dX12_canShow_143 : decode cX12_canShow 143 = .ok (.if_icmp .ne 17, 3) := by decide +kernel
theorem dX12_canShow_146 : decode cX12_canShow 146 = .ok (.iload_n 3, 1) := by decide +kernel
theorem dX12_canShow_147 : decode cX12_canShow 147 = .ok (.i2l, 1) := by decide +kernel
theorem dX12_canShow_148 : decode cX12_canShow 148 = .ok (.lconst 0, 1) := by decide +kernel
theorem dX12_canShow_149 : decode cX12_canShow 149 = .ok (.lconst 1, 1) := by decide +kernel
theorem dX12_canShow_150 : decode cX12_canShow 150 = .ok (.invokestatic 140, 3) := by decide +kernel
theorem dX12_canShow_153 : decode cX12_canShow 153 = .ok (.ifCond .eq 7, 3) := by decide +kernel
theorem dX12_canShow_156 : decode cX12_canShow 156 = .ok (.iconst 1, 1) := by decide +kernel
theorem dX12_canShow_157 : decode cX12_canShow 157 = .ok (.goto 4, 3) := by decide +kernel
theorem dX12_canShow_160 : decode cX12_canShow 160 = .ok (.iconst 0, 1) := by decide +kernel
theorem dX12_canShow_161 : decode cX12_canShow 161 = .ok (.ireturn, 1) := by decide +kernel
def f_Md_canShow_L129 (l3 : Int32) (I : (Nat → Nat → Int32)) (L : (Nat → Nat → Int64)) : Option Int32 := (bnd (f_Md_within (Int32.toInt64 l3) (1 : Int64) (12 : Int64)) fun x22 => (if (x22 = (0 : Int32) ∨ x22 = (1 : Int32)) then (some x22) else none))
set_option maxRecDepth 100000 in
set_option maxHeartbeats 4000000 in
theorem x_Md_canShow_L129 {G : xG} {S : List xSh} {Rf : Nat → Nat → Option Nat} (hT : xTM S Rf) {l3 : Int32} {I : Nat → Nat → Int32} {L : Nat → Nat → Int64} {q : Int32} (hf : f_Md_canShow_L129 l3 I L = some q) : X G 2 m_Md_canShow 129 [(3, .int l3)] [] (S, I, L, Rf) (some (.int q), (S, I, L, Rf)) := by
  replace hf := (f_Md_canShow_L129.eq_1 _ _ _).symm.trans hf
  refine X_iload_n (pc := 129) (i := 3) 0 dX12_canShow_129 rfl rfl ?_
  refine X_i2l (pc := 130) dX12_canShow_130 ?_
  refine X_lconst (pc := 131) (1 : Int64) dX12_canShow_131 (by decide) ?_
  refine X_ldc2 (pc := 132) (12 : Int64) k_1532 dX12_canShow_132 ?_
  refine X_invS_i (pc := 135) (c_Md_within hT rfl) ok_Md_within k_1482 k_1483 nd_33 (by decide) rfl (Nat.le_of_ble_eq_true rfl) dX12_canShow_135 ?_
  obtain ⟨x22, ex22, hf⟩ := bnd_e hf
  refine X_tope ex22 ?_
  refine X_goto (pc := 138) 161 dX12_canShow_138 (by decide) ?_
  obtain ⟨c23, hf⟩ := gd_some hf
  cases hf
  exact X_zreturn (pc := 161) rfl (nar_b c23) dX12_canShow_161
def f_Md_canShow (a0 : Int32) (a1 : Int32) (a2 : Int32) (I : Nat → Nat → Int32) (L : Nat → Nat → Int64) : Option Int32 := (if (0 ≤ a0 ∧ a0 < (8 : Int32)) then (if (I 42 (a0.toNatClampNeg)) = (0 : Int32) then (if a1 = (0 : Int32) then (if (0 ≤ a0 ∧ a0 < (8 : Int32)) then (bnd (f_Md_within (Int32.toInt64 a2) (0 : Int64) (Int32.toInt64 ((I 45 (a0.toNatClampNeg)) - (1 : Int32)))) fun x5 => (if x5 = (0 : Int32) then (some (0 : Int32)) else (some (1 : Int32)))) else none) else (some (0 : Int32))) else (if (0 ≤ a0 ∧ a0 < (8 : Int32)) then (if (I 42 (a0.toNatClampNeg)) = (1 : Int32) then (if a1 = (0 : Int32) then (bnd (f_Md_within (Int32.toInt64 a2) (1 : Int64) (31 : Int64)) fun x10 => (if (x10 = (0 : Int32) ∨ x10 = (1 : Int32)) then (some x10) else none)) else (if a1 = (1 : Int32) then (bnd (f_Md_within (Int32.toInt64 a2) (1 : Int64) (12 : Int64)) fun x13 => (if (x13 = (0 : Int32) ∨ x13 = (1 : Int32)) then (some x13) else none)) else (if a1 = (2 : Int32) then (bnd (f_Md_within (Int32.toInt64 a2) (1 : Int64) (9999 : Int64)) fun x16 => (if (x16 = (0 : Int32) ∨ x16 = (1 : Int32)) then (some x16) else none)) else (if a1 = (3 : Int32) then (bnd (f_Md_within (Int32.toInt64 a2) (0 : Int64) (6 : Int64)) fun x19 => (if x19 = (0 : Int32) then (some (0 : Int32)) else (some (1 : Int32)))) else (some (0 : Int32)))))) else (if a1 = (0 : Int32) then (f_Md_canShow_L129 a2 I L) else (if a1 = (1 : Int32) then (f_Md_canShow_L129 a2 I L) else (if a1 = (2 : Int32) then (bnd (f_Md_within (Int32.toInt64 a2) (0 : Int64) (1 : Int64)) fun x26 => (if x26 = (0 : Int32) then (some (0 : Int32)) else (some (1 : Int32)))) else (some (0 : Int32)))))) else none)) else none)
set_option maxRecDepth 100000 in
set_option maxHeartbeats 4000000 in
theorem c_Md_canShow {G : xG} {S : List xSh} {Rf : Nat → Nat → Option Nat} (hT : xTM S Rf) {a0 : Int32} {a1 : Int32} {a2 : Int32} {I : Nat → Nat → Int32} {L : Nat → Nat → Int64} {q : Int32} (hf : f_Md_canShow a0 a1 a2 I L = some q) : CT G 2 m_Md_canShow [.ref (xP G 34), .int a0, .int a1, .int a2] (S, I, L, Rf) (some (.int q), (S, I, L, Rf)) := by
  refine CT.of (by decide +kernel) (Nat.le_of_ble_eq_true rfl) ?_
  show X G 2 m_Md_canShow 0 [(0, .ref (xP G 34)), (1, .int a0), (2, .int a1), (3, .int a2)] [] (S, I, L, Rf) (some (.int q), (S, I, L, Rf))
  replace hf := (f_Md_canShow.eq_1 _ _ _ _ _).symm.trans hf
  refine X_aload_n (pc := 0) (i := 0) 0 dX12_canShow_0 rfl rfl ?_
  refine X_getr (pc := 1) (a := 34) (ci := 11) (j := 17) (c := 42) (sh_34 hT) (by decide) k_1245 (rf_34_17 hT) (fun _ h => h) dX12_canShow_1 ?_
  refine X_iload_n (pc := 4) (i := 1) 1 dX12_canShow_4 rfl rfl ?_
  obtain ⟨c1, hf⟩ := gd_some hf
  refine X_ialdj (pc := 5) (j := a0.toNatClampNeg) (I 42 (a0.toNatClampNeg)) (sh_42 hT) (vp_in_lit (N := 8) c1 (by decide)) rfl rfl dX12_canShow_5 ?_
  by_cases c2 : (I 42 (a0.toNatClampNeg)) = (0 : Int32)
  · replace hf := (if_pos c2).symm.trans hf
    refine X_if_ne_f (pc := 6) 37 dX12_canShow_6 (by decide) c2 ?_
    refine X_iload_n (pc := 9) (i := 2) 2 dX12_canShow_9 rfl rfl ?_
    by_cases c3 : a1 = (0 : Int32)
    · replace hf := (if_pos c3).symm.trans hf
      refine X_if_ne_f (pc := 10) 35 dX12_canShow_10 (by decide) c3 ?_
      refine X_iload_n (pc := 13) (i := 3) 3 dX12_canShow_13 rfl rfl ?_
      refine X_i2l (pc := 14) dX12_canShow_14 ?_
      refine X_lconst (pc := 15) (0 : Int64) dX12_canShow_15 (by decide) ?_
      refine X_aload_n (pc := 16) (i := 0) 0 dX12_canShow_16 rfl rfl ?_
      refine X_getr (pc := 17) (a := 34) (ci := 11) (j := 20) (c := 45) (sh_34 hT) (by decide) k_1248 (rf_34_20 hT) (fun _ h => h) dX12_canShow_17 ?_
      refine X_iload_n (pc := 20) (i := 1) 1 dX12_canShow_20 rfl rfl ?_
      obtain ⟨c4, hf⟩ := gd_some hf
      refine X_ialdj (pc := 21) (j := a0.toNatClampNeg) (I 45 (a0.toNatClampNeg)) (sh_45 hT) (vp_in_lit (N := 8) c4 (by decide)) rfl rfl dX12_canShow_21 ?_
      refine X_iconst (pc := 22) (1 : Int32) dX12_canShow_22 (by decide) ?_
      refine X_isub (pc := 23) dX12_canShow_23 ?_
      refine X_i2l (pc := 24) dX12_canShow_24 ?_
      refine X_invS_i (pc := 25) (c_Md_within hT rfl) ok_Md_within k_1482 k_1483 nd_33 (by decide) rfl (Nat.le_of_ble_eq_true rfl) dX12_canShow_25 ?_
      obtain ⟨x5, ex5, hf⟩ := bnd_e hf
      refine X_tope ex5 ?_
      by_cases c6 : x5 = (0 : Int32)
      · replace hf := (if_pos c6).symm.trans hf
        refine X_if_eq_t (pc := 28) 35 dX12_canShow_28 (by decide) c6 ?_
        refine X_iconst (pc := 35) (0 : Int32) dX12_canShow_35 (by decide) ?_
        cases hf
        exact X_zreturn (pc := 36) rfl (nar_b (by decide)) dX12_canShow_36
      · replace hf := (if_neg c6).symm.trans hf
        refine X_if_eq_f (pc := 28) 35 dX12_canShow_28 (by decide) c6 ?_
        refine X_iconst (pc := 31) (1 : Int32) dX12_canShow_31 (by decide) ?_
        refine X_goto (pc := 32) 36 dX12_canShow_32 (by decide) ?_
        cases hf
        exact X_zreturn (pc := 36) rfl (nar_b (by decide)) dX12_canShow_36
    · replace hf := (if_neg c3).symm.trans hf
      refine X_if_ne_t (pc := 10) 35 dX12_canShow_10 (by decide) c3 ?_
      refine X_iconst (pc := 35) (0 : Int32) dX12_canShow_35 (by decide) ?_
      cases hf
      exact X_zreturn (pc := 36) rfl (nar_b (by decide)) dX12_canShow_36
  · replace hf := (if_neg c2).symm.trans hf
    refine X_if_ne_t (pc := 6) 37 dX12_canShow_6 (by decide) c2 ?_
    refine X_aload_n (pc := 37) (i := 0) 0 dX12_canShow_37 rfl rfl ?_
    refine X_getr (pc := 38) (a := 34) (ci := 11) (j := 17) (c := 42) (sh_34 hT) (by decide) k_1245 (rf_34_17 hT) (fun _ h => h) dX12_canShow_38 ?_
    refine X_iload_n (pc := 41) (i := 1) 1 dX12_canShow_41 rfl rfl ?_
    obtain ⟨c7, hf⟩ := gd_some hf
    refine X_ialdj (pc := 42) (j := a0.toNatClampNeg) (I 42 (a0.toNatClampNeg)) (sh_42 hT) (vp_in_lit (N := 8) c7 (by decide)) rfl rfl dX12_canShow_42 ?_
    refine X_iconst (pc := 43) (1 : Int32) dX12_canShow_43 (by decide) ?_
    by_cases c8 : (I 42 (a0.toNatClampNeg)) = (1 : Int32)
    · replace hf := (if_pos c8).symm.trans hf
      refine X_icmp_ne_f (pc := 44) 120 dX12_canShow_44 (by decide) c8 ?_
      refine X_iload_n (pc := 47) (i := 2) 2 dX12_canShow_47 rfl rfl ?_
      by_cases c9 : a1 = (0 : Int32)
      · replace hf := (if_pos c9).symm.trans hf
        refine X_if_ne_f (pc := 48) 63 dX12_canShow_48 (by decide) c9 ?_
        refine X_iload_n (pc := 51) (i := 3) 3 dX12_canShow_51 rfl rfl ?_
        refine X_i2l (pc := 52) dX12_canShow_52 ?_
        refine X_lconst (pc := 53) (1 : Int64) dX12_canShow_53 (by decide) ?_
        refine X_ldc2 (pc := 54) (31 : Int64) k_1668 dX12_canShow_54 ?_
        refine X_invS_i (pc := 57) (c_Md_within hT rfl) ok_Md_within k_1482 k_1483 nd_33 (by decide) rfl (Nat.le_of_ble_eq_true rfl) dX12_canShow_57 ?_
        obtain ⟨x10, ex10, hf⟩ := bnd_e hf
        refine X_tope ex10 ?_
        refine X_goto (pc := 60) 119 dX12_canShow_60 (by decide) ?_
        obtain ⟨c11, hf⟩ := gd_some hf
        cases hf
        exact X_zreturn (pc := 119) rfl (nar_b c11) dX12_canShow_119
      · replace hf := (if_neg c9).symm.trans hf
        refine X_if_ne_t (pc := 48) 63 dX12_canShow_48 (by decide) c9 ?_
        refine X_iload_n (pc := 63) (i := 2) 2 dX12_canShow_63 rfl rfl ?_
        refine X_iconst (pc := 64) (1 : Int32) dX12_canShow_64 (by decide) ?_
        by_cases c12 : a1 = (1 : Int32)
        · replace hf := (if_pos c12).symm.trans hf
          refine X_icmp_ne_f (pc := 65) 80 dX12_canShow_65 (by decide) c12 ?_
          refine X_iload_n (pc := 68) (i := 3) 3 dX12_canShow_68 rfl rfl ?_
          refine X_i2l (pc := 69) dX12_canShow_69 ?_
          refine X_lconst (pc := 70) (1 : Int64) dX12_canShow_70 (by decide) ?_
          refine X_ldc2 (pc := 71) (12 : Int64) k_1532 dX12_canShow_71 ?_
          refine X_invS_i (pc := 74) (c_Md_within hT rfl) ok_Md_within k_1482 k_1483 nd_33 (by decide) rfl (Nat.le_of_ble_eq_true rfl) dX12_canShow_74 ?_
          obtain ⟨x13, ex13, hf⟩ := bnd_e hf
          refine X_tope ex13 ?_
          refine X_goto (pc := 77) 119 dX12_canShow_77 (by decide) ?_
          obtain ⟨c14, hf⟩ := gd_some hf
          cases hf
          exact X_zreturn (pc := 119) rfl (nar_b c14) dX12_canShow_119
        · replace hf := (if_neg c12).symm.trans hf
          refine X_icmp_ne_t (pc := 65) 80 dX12_canShow_65 (by decide) c12 ?_
          refine X_iload_n (pc := 80) (i := 2) 2 dX12_canShow_80 rfl rfl ?_
          refine X_iconst (pc := 81) (2 : Int32) dX12_canShow_81 (by decide) ?_
          by_cases c15 : a1 = (2 : Int32)
          · replace hf := (if_pos c15).symm.trans hf
            refine X_icmp_ne_f (pc := 82) 97 dX12_canShow_82 (by decide) c15 ?_
            refine X_iload_n (pc := 85) (i := 3) 3 dX12_canShow_85 rfl rfl ?_
            refine X_i2l (pc := 86) dX12_canShow_86 ?_
            refine X_lconst (pc := 87) (1 : Int64) dX12_canShow_87 (by decide) ?_
            refine X_ldc2 (pc := 88) (9999 : Int64) k_1531 dX12_canShow_88 ?_
            refine X_invS_i (pc := 91) (c_Md_within hT rfl) ok_Md_within k_1482 k_1483 nd_33 (by decide) rfl (Nat.le_of_ble_eq_true rfl) dX12_canShow_91 ?_
            obtain ⟨x16, ex16, hf⟩ := bnd_e hf
            refine X_tope ex16 ?_
            refine X_goto (pc := 94) 119 dX12_canShow_94 (by decide) ?_
            obtain ⟨c17, hf⟩ := gd_some hf
            cases hf
            exact X_zreturn (pc := 119) rfl (nar_b c17) dX12_canShow_119
          · replace hf := (if_neg c15).symm.trans hf
            refine X_icmp_ne_t (pc := 82) 97 dX12_canShow_82 (by decide) c15 ?_
            refine X_iload_n (pc := 97) (i := 2) 2 dX12_canShow_97 rfl rfl ?_
            refine X_iconst (pc := 98) (3 : Int32) dX12_canShow_98 (by decide) ?_
            by_cases c18 : a1 = (3 : Int32)
            · replace hf := (if_pos c18).symm.trans hf
              refine X_icmp_ne_f (pc := 99) 118 dX12_canShow_99 (by decide) c18 ?_
              refine X_iload_n (pc := 102) (i := 3) 3 dX12_canShow_102 rfl rfl ?_
              refine X_i2l (pc := 103) dX12_canShow_103 ?_
              refine X_lconst (pc := 104) (0 : Int64) dX12_canShow_104 (by decide) ?_
              refine X_ldc2 (pc := 105) (6 : Int64) k_1669 dX12_canShow_105 ?_
              refine X_invS_i (pc := 108) (c_Md_within hT rfl) ok_Md_within k_1482 k_1483 nd_33 (by decide) rfl (Nat.le_of_ble_eq_true rfl) dX12_canShow_108 ?_
              obtain ⟨x19, ex19, hf⟩ := bnd_e hf
              refine X_tope ex19 ?_
              by_cases c20 : x19 = (0 : Int32)
              · replace hf := (if_pos c20).symm.trans hf
                refine X_if_eq_t (pc := 111) 118 dX12_canShow_111 (by decide) c20 ?_
                refine X_iconst (pc := 118) (0 : Int32) dX12_canShow_118 (by decide) ?_
                cases hf
                exact X_zreturn (pc := 119) rfl (nar_b (by decide)) dX12_canShow_119
              · replace hf := (if_neg c20).symm.trans hf
                refine X_if_eq_f (pc := 111) 118 dX12_canShow_111 (by decide) c20 ?_
                refine X_iconst (pc := 114) (1 : Int32) dX12_canShow_114 (by decide) ?_
                refine X_goto (pc := 115) 119 dX12_canShow_115 (by decide) ?_
                cases hf
                exact X_zreturn (pc := 119) rfl (nar_b (by decide)) dX12_canShow_119
            · replace hf := (if_neg c18).symm.trans hf
              refine X_icmp_ne_t (pc := 99) 118 dX12_canShow_99 (by decide) c18 ?_
              refine X_iconst (pc := 118) (0 : Int32) dX12_canShow_118 (by decide) ?_
              cases hf
              exact X_zreturn (pc := 119) rfl (nar_b (by decide)) dX12_canShow_119
    · replace hf := (if_neg c8).symm.trans hf
      refine X_icmp_ne_t (pc := 44) 120 dX12_canShow_44 (by decide) c8 ?_
      refine X_iload_n (pc := 120) (i := 2) 2 dX12_canShow_120 rfl rfl ?_
      by_cases c21 : a1 = (0 : Int32)
      · replace hf := (if_pos c21).symm.trans hf
        refine X_if_eq_t (pc := 121) 129 dX12_canShow_121 (by decide) c21 ?_
        exact X_lvs [3] rfl (x_Md_canShow_L129 hT hf)
      · replace hf := (if_neg c21).symm.trans hf
        refine X_if_eq_f (pc := 121) 129 dX12_canShow_121 (by decide) c21 ?_
        refine X_iload_n (pc := 124) (i := 2) 2 dX12_canShow_124 rfl rfl ?_
        refine X_iconst (pc := 125) (1 : Int32) dX12_canShow_125 (by decide) ?_
        by_cases c24 : a1 = (1 : Int32)
        · replace hf := (if_pos c24).symm.trans hf
          refine X_icmp_ne_f (pc := 126) 141 dX12_canShow_126 (by decide) c24 ?_
          exact X_lvs [3] rfl (x_Md_canShow_L129 hT hf)
        · replace hf := (if_neg c24).symm.trans hf
          refine X_icmp_ne_t (pc := 126) 141 dX12_canShow_126 (by decide) c24 ?_
          refine X_iload_n (pc := 141) (i := 2) 2 dX12_canShow_141 rfl rfl ?_
          refine X_iconst (pc := 142) (2 : Int32) dX12_canShow_142 (by decide) ?_
          by_cases c25 : a1 = (2 : Int32)
          · replace hf := (if_pos c25).symm.trans hf
            refine X_icmp_ne_f (pc := 143) 160 dX12_canShow_143 (by decide) c25 ?_
            refine X_iload_n (pc := 146) (i := 3) 3 dX12_canShow_146 rfl rfl ?_
            refine X_i2l (pc := 147) dX12_canShow_147 ?_
            refine X_lconst (pc := 148) (0 : Int64) dX12_canShow_148 (by decide) ?_
            refine X_lconst (pc := 149) (1 : Int64) dX12_canShow_149 (by decide) ?_
            refine X_invS_i (pc := 150) (c_Md_within hT rfl) ok_Md_within k_1482 k_1483 nd_33 (by decide) rfl (Nat.le_of_ble_eq_true rfl) dX12_canShow_150 ?_
            obtain ⟨x26, ex26, hf⟩ := bnd_e hf
            refine X_tope ex26 ?_
            by_cases c27 : x26 = (0 : Int32)
            · replace hf := (if_pos c27).symm.trans hf
              refine X_if_eq_t (pc := 153) 160 dX12_canShow_153 (by decide) c27 ?_
              refine X_iconst (pc := 160) (0 : Int32) dX12_canShow_160 (by decide) ?_
              cases hf
              exact X_zreturn (pc := 161) rfl (nar_b (by decide)) dX12_canShow_161
            · replace hf := (if_neg c27).symm.trans hf
              refine X_if_eq_f (pc := 153) 160 dX12_canShow_153 (by decide) c27 ?_
              refine X_iconst (pc := 156) (1 : Int32) dX12_canShow_156 (by decide) ?_
              refine X_goto (pc := 157) 161 dX12_canShow_157 (by decide) ?_
              cases hf
              exact X_zreturn (pc := 161) rfl (nar_b (by decide)) dX12_canShow_161
          · replace hf := (if_neg c25).symm.trans hf
            refine X_icmp_ne_t (pc := 143) 160 dX12_canShow_143 (by decide) c25 ?_
            refine X_iconst (pc := 160) (0 : Int32) dX12_canShow_160 (by decide) ?_
            cases hf
            exact X_zreturn (pc := 161) rfl (nar_b (by decide)) dX12_canShow_161

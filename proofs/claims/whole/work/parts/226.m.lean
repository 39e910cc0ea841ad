theorem dX12_isSetting_0 : decode cX12_isSetting 0 = .ok (.iload_n 0, 1) := by decide +kernel
theorem dX12_isSetting_1 : decode cX12_isSetting 1 = .ok (.i2l, 1) := by decide +kernel
theorem dX12_isSetting_2 : decode cX12_isSetting 2 = .ok (.lconst 0, 1) := by decide +kernel
theorem dX12_isSetting_3 : decode cX12_isSetting 3 = .ok (.ldc2_w 259, 3) := by decide +kernel
theorem dX12_isSetting_6 : decode cX12_isSetting 6 = .ok (.invokestatic 140, 3) := by decide +kernel
theorem dX12_isSetting_9 : decode cX12_isSetting 9 = .ok (.ifCond .eq 19, 3) := by decide +kernel
theorem dX12_isSetting_12 : decode cX12_isSetting 12 = .ok (.iload_n 1, 1) := by decide +kernel
theorem dX12_isSetting_13 : decode cX12_isSetting 13 = .ok (.i2l, 1) := by decide +kernel
theorem dX12_isSetting_14 : decode cX12_isSetting 14 = .ok (.lconst 0, 1) := by decide +kernel
theorem dX12_isSetting_15 : decode cX12_isSetting 15 = .ok (.ldc2_w 391, 3) := by decide +kernel
theorem dX12_isSetting_18 : decode cX12_isSetting 18 = .ok (.invokestatic 140, 3) := by decide +kernel
theorem dX12_isSetting_21 : decode cX12_isSetting 21 = .ok (.ifCond .eq 7, 3) := by decide +kernel
theorem dX12_isSetting_24 : decode cX12_isSetting 24 = .ok (.iconst 1, 1) := by decide +kernel
theorem dX12_isSetting_25 : decode cX12_isSetting 25 = .ok (.goto 4, 3) := by decide +kernel
theorem dX12_isSetting_28 : decode cX12_isSetting 28 = .ok (.iconst 0, 1) := by decide +kernel
theorem dX12_isSetting_29 : decode cX12_isSetting 29 = .ok (.ireturn, 1) := by decide +kernel
def f_Md_isSetting (a0 : Int32) (a1 : Int32) : Int32 := (bnd (f_Md_within (Int32.toInt64 a0) (0 : Int64) (3 : Int64)) fun x1 => (if x1 = (0 : Int32) then (0 : Int32) else (bnd (f_Md_within (Int32.toInt64 a1) (0 : Int64) (31 : Int64)) fun x3 => (if x3 = (0 : Int32) then (0 : Int32) else (1 : Int32)))))
set_option maxRecDepth 100000 in
set_option maxHeartbeats 4000000 in
theorem c_Md_isSetting {G : xG} {S : List xSh} {Rf : Nat → Nat → Option Nat} (hT : xTM S Rf) {a0 : Int32} {a1 : Int32} {I : Nat → Nat → Int32} {L : Nat → Nat → Int64} {q : Int32} (hf : f_Md_isSetting a0 a1 = q) : CT G 2 m_Md_isSetting [.int a0, .int a1] (S, I, L, Rf) (some (.int q), (S, I, L, Rf)) := by
  refine CT.of (by decide +kernel) (Nat.le_of_ble_eq_true rfl) ?_
  show X G 2 m_Md_isSetting 0 [(0, .int a0), (1, .int a1)] [] (S, I, L, Rf) (some (.int q), (S, I, L, Rf))
  replace hf := (f_Md_isSetting.eq_1 _ _).symm.trans hf
  refine X_iload_n (pc := 0) (i := 0) 0 dX12_isSetting_0 rfl rfl ?_
  refine X_i2l (pc := 1) dX12_isSetting_1 ?_
  refine X_lconst (pc := 2) (0 : Int64) dX12_isSetting_2 (by decide) ?_
  refine X_ldc2 (pc := 3) (3 : Int64) k_1530 dX12_isSetting_3 ?_
  refine X_invS_i (pc := 6) (c_Md_within hT rfl) ok_Md_within k_1482 k_1483 nd_33 (by decide) rfl (Nat.le_of_ble_eq_true rfl) dX12_isSetting_6 ?_
  obtain ⟨x1, ex1, hf⟩ := bnd_e hf
  refine X_tope ex1 ?_
  by_cases c2 : x1 = (0 : Int32)
  · replace hf := (if_pos c2).symm.trans hf
    refine X_if_eq_t (pc := 9) 28 dX12_isSetting_9 (by decide) c2 ?_
    refine X_iconst (pc := 28) (0 : Int32) dX12_isSetting_28 (by decide) ?_
    subst hf
    exact X_zreturn (pc := 29) rfl (nar_b (by decide)) dX12_isSetting_29
  · replace hf := (if_neg c2).symm.trans hf
    refine X_if_eq_f (pc := 9) 28 dX12_isSetting_9 (by decide) c2 ?_
    refine X_iload_n (pc := 12) (i := 1) 1 dX12_isSetting_12 rfl rfl ?_
    refine X_i2l (pc := 13) dX12_isSetting_13 ?_
    refine X_lconst (pc := 14) (0 : Int64) dX12_isSetting_14 (by decide) ?_
    refine X_ldc2 (pc := 15) (31 : Int64) k_1668 dX12_isSetting_15 ?_
    refine X_invS_i (pc := 18) (c_Md_within hT rfl) ok_Md_within k_1482 k_1483 nd_33 (by decide) rfl (Nat.le_of_ble_eq_true rfl) dX12_isSetting_18 ?_
    obtain ⟨x3, ex3, hf⟩ := bnd_e hf
    refine X_tope ex3 ?_
    by_cases c4 : x3 = (0 : Int32)
    · replace hf := (if_pos c4).symm.trans hf
      refine X_if_eq_t (pc := 21) 28 dX12_isSetting_21 (by decide) c4 ?_
      refine X_iconst (pc := 28) (0 : Int32) dX12_isSetting_28 (by decide) ?_
      subst hf
      exact X_zreturn (pc := 29) rfl (nar_b (by decide)) dX12_isSetting_29
    · replace hf := (if_neg c4).symm.trans hf
      refine X_if_eq_f (pc := 21) 28 dX12_isSetting_21 (by decide) c4 ?_
      refine X_iconst (pc := 24) (1 : Int32) dX12_isSetting_24 (by decide) ?_
      refine X_goto (pc := 25) 29 dX12_isSetting_25 (by decide) ?_
      subst hf
      exact X_zreturn (pc := 29) rfl (nar_b (by decide)) dX12_isSetting_29
theorem dX12_change_0 : decode cX12_change 0 = .ok (.iload_n 1, 1) := by decide +kernel
theorem dX12_change_1 : decode cX12_change 1 = .ok (.iload_n 2, 1) := by decide +kernel
theorem dX12_change_2 : decode cX12_change 2 = .ok (.invokestatic 504, 3) := by decide +kernel
theorem dX12_change_5 : decode cX12_change 5 = .ok (.ifCond .eq 17, 3) := by decide +kernel
theorem dX12_change_8 : decode cX12_change 8 = .ok (.iload_n 3, 1) := by decide +kernel
theorem dX12_change_9 : decode cX12_change 9 = .ok (.i2l, 1) := by decide +kernel
theorem dX12_change_10 : decode cX12_change 10 = .ok (.ldc2_w 334, 3) := by decide +kernel
theorem dX12_change_13 : decode cX12_change 13 = .ok (.ldc2_w 251, 3) := by decide +kernel
theorem dX12_change_16 : decode cX12_change 16 = .ok (.invokestatic 140, 3) := by decide +kernel
theorem dX12_change_19 : decode cX12_change 19 = .ok (.ifCond .ne 5, 3) := by decide +kernel
theorem dX12_change_22 : decode cX12_change 22 = .ok (.iconst (-1), 1) := by decide +kernel
theorem dX12_change_23 : decode cX12_change 23 = .ok (.ireturn, 1) := by decide +kernel
theorem dX12_change_24 : decode cX12_change 24 = .ok (.bipush 32, 2) := by decide +kernel
theorem dX12_change_26 : decode cX12_change 26 = .ok (.iload_n 1, 1) := by decide +kernel
theorem dX12_change_27 : decode cX12_change 27 = .ok (.imul, 1) := by decide +kernel
theorem dX12_change_28 : decode cX12_change 28 = .ok (.iload_n 2, 1) := by decide +kernel
theorem dX12_change_29 : decode cX12_change 29 = .ok (.iadd, 1) := by decide +kernel
theorem dX12_change_30 : decode cX12_change 30 = .ok (.istore 4, 2) := by decide +kernel
theorem dX12_change_32 : decode cX12_change 32 = .ok (.aload_n 0, 1) := by decide +kernel
theorem dX12_change_33 : decode cX12_change 33 = .ok (.getfield 123, 3) := by decide +kernel
theorem dX12_change_36 : decode cX12_change 36 = .ok (.iload 4, 2) := by decide +kernel
theorem dX12_change_38 : decode cX12_change 38 = .ok (.iaload, 1) := by decide +kernel
theorem dX12_change_39 : decode cX12_change 39 = .ok (.istore 5, 2) := by decide +kernel
theorem dX12_change_41 : decode cX12_change 41 = .ok (.aload_n 0, 1) := by decide +kernel
theorem dX12_change_42 : decode cX12_change 42 = .ok (.getfield 123, 3) := by decide +kernel
theorem dX12_change_45 : decode cX12_change 45 = .ok (.iload 4, 2) := by decide +kernel
theorem dX12_change_47 : decode cX12_change 47 = .ok (.iload_n 3, 1) := by decide +kernel
theorem dX12_change_48 : decode cX12_change 48 = .ok (.iastore, 1) := by decide +kernel
theorem dX12_change_49 : decode cX12_change 49 = .ok (.aload_n 0, 1) := by decide +kernel
theorem dX12_change_50 : decode cX12_change 50 = .ok (.getfield 129, 3) := by decide +kernel
theorem dX12_change_53 : decode cX12_change 53 = .ok (.iload 4, 2) := by decide +kernel
theorem dX12_change_55 : decode cX12_change 55 = .ok (.iconst 0, 1) := by decide +kernel
theorem dX12_change_56 : decode cX12_change 56 = .ok (.bastore, 1) := by decide +kernel
theorem dX12_change_57 : decode cX12_change 57 = .ok (.iload 5, 2) := by decide +kernel
theorem dX12_change_59 : decode cX12_change 59 = .ok (.ireturn, 1) := by decide +kernel
def f_Md_change (a0 : Int32) (a1 : Int32) (a2 : Int32) (I : Nat → Nat → Int32) (L : Nat → Nat → Int64) : Option (Int32 × (Nat → Nat → Int32) × (Nat → Nat → Int64)) := (if (f_Md_isSetting a0 a1) = (0 : Int32) then (some ((-1 : Int32), I, L)) else (bnd (f_Md_within (Int32.toInt64 a2) (-1000000 : Int64) (1000000 : Int64)) fun x2 => (if x2 = (0 : Int32) then (some ((-1 : Int32), I, L)) else (bnd (((32 : Int32) * a0) + a1) fun x4 => (if (0 ≤ x4 ∧ x4 < (128 : Int32)) then (bnd (I 72 (x4.toNatClampNeg)) fun x6 => (if (0 ≤ x4 ∧ x4 < (128 : Int32)) then (if (0 ≤ x4 ∧ x4 < (128 : Int32)) then (some (x6, (uI (uI I 72 (x4.toNatClampNeg) a2) 74 (x4.toNatClampNeg) (0 : Int32)), L)) else none) else none)) else none)))))
set_option maxRecDepth 100000 in
set_option maxHeartbeats 4000000 in
theorem c_Md_change {G : xG} {S : List xSh} {Rf : Nat → Nat → Option Nat} (hT : xTM S Rf) {a0 : Int32} {a1 : Int32} {a2 : Int32} {I : Nat → Nat → Int32} {L : Nat → Nat → Int64} {q : (Int32 × (Nat → Nat → Int32) × (Nat → Nat → Int64))} (hf : f_Md_change a0 a1 a2 I L = some q) : CT G 3 m_Md_change [.ref (xP G 34), .int a0, .int a1, .int a2] (S, I, L, Rf) (some (.int q.1), (S, q.2.1, q.2.2, Rf)) := by
  refine CT.of (by decide +kernel) (Nat.le_of_ble_eq_true rfl) ?_
  show X G 3 m_Md_change 0 [(0, .ref (xP G 34)), (1, .int a0), (2, .int a1), (3, .int a2)] [] (S, I, L, Rf) (some (.int q.1), (S, q.2.1, q.2.2, Rf))
  replace hf := (f_Md_change.eq_1 _ _ _ _ _).symm.trans hf
  refine X_iload_n (pc := 0) (i := 1) 1 dX12_change_0 rfl rfl ?_
  refine X_iload_n (pc := 1) (i := 2) 2 dX12_change_1 rfl rfl ?_
  refine X_invS_i (pc := 2) (c_Md_isSetting hT rfl) ok_Md_isSetting k_1789 k_1790 nd_25 (by decide) rfl (Nat.le_of_ble_eq_true rfl) dX12_change_2 ?_
  by_cases c1 : (f_Md_isSetting a0 a1) = (0 : Int32)
  · replace hf := (if_pos c1).symm.trans hf
    refine X_if_eq_t (pc := 5) 22 dX12_change_5 (by decide) c1 ?_
    refine X_iconst (pc := 22) (-1 : Int32) dX12_change_22 (by decide) ?_
    cases hf
    exact X_ireturn (pc := 23) rfl dX12_change_23
  · replace hf := (if_neg c1).symm.trans hf
    refine X_if_eq_f (pc := 5) 22 dX12_change_5 (by decide) c1 ?_
    refine X_iload_n (pc := 8) (i := 3) 3 dX12_change_8 rfl rfl ?_
    refine X_i2l (pc := 9) dX12_change_9 ?_
    refine X_ldc2 (pc := 10) (-1000000 : Int64) k_1591 dX12_change_10 ?_
    refine X_ldc2 (pc := 13) (1000000 : Int64) k_1516 dX12_change_13 ?_
    refine X_invS_i (pc := 16) (c_Md_within hT rfl) ok_Md_within k_1482 k_1483 nd_33 (by decide) rfl (Nat.le_of_ble_eq_true rfl) dX12_change_16 ?_
    obtain ⟨x2, ex2, hf⟩ := bnd_e hf
    refine X_tope ex2 ?_
    by_cases c3 : x2 = (0 : Int32)
    · replace hf := (if_pos c3).symm.trans hf
      refine X_if_ne_f (pc := 19) 24 dX12_change_19 (by decide) c3 ?_
      refine X_iconst (pc := 22) (-1 : Int32) dX12_change_22 (by decide) ?_
      cases hf
      exact X_ireturn (pc := 23) rfl dX12_change_23
    · replace hf := (if_neg c3).symm.trans hf
      refine X_if_ne_t (pc := 19) 24 dX12_change_19 (by decide) c3 ?_
      refine X_bipush (pc := 24) (32 : Int32) dX12_change_24 (by decide) ?_
      refine X_iload_n (pc := 26) (i := 1) 1 dX12_change_26 rfl rfl ?_
      refine X_imul (pc := 27) dX12_change_27 ?_
      refine X_iload_n (pc := 28) (i := 2) 2 dX12_change_28 rfl rfl ?_
      refine X_iadd (pc := 29) dX12_change_29 ?_
      obtain ⟨x4, ex4, hf⟩ := bnd_e hf
      refine X_tope ex4 ?_
      refine X_istore (pc := 30) [(4, .int x4), (0, .ref (xP G 34)), (1, .int a0), (2, .int a1), (3, .int a2)] dX12_change_30 (by decide) rfl ?_
      refine X_aload_n (pc := 32) (i := 0) 1 dX12_change_32 rfl rfl ?_
      refine X_getr (pc := 33) (a := 34) (ci := 11) (j := 77) (c := 72) (sh_34 hT) (by decide) k_1305 (rf_34_77 hT) (fun _ h => h) dX12_change_33 ?_
      refine X_iload (pc := 36) 0 dX12_change_36 rfl ?_
      obtain ⟨c5, hf⟩ := gd_some hf
      refine X_ialdj (pc := 38) (j := x4.toNatClampNeg) (I 72 (x4.toNatClampNeg)) (sh_72 hT) (vp_in_lit (N := 128) c5 (by decide)) rfl rfl dX12_change_38 ?_
      obtain ⟨x6, ex6, hf⟩ := bnd_e hf
      refine X_tope ex6 ?_
      refine X_istore (pc := 39) [(5, .int x6), (4, .int x4), (0, .ref (xP G 34)), (1, .int a0), (2, .int a1), (3, .int a2)] dX12_change_39 (by decide) rfl ?_
      refine X_aload_n (pc := 41) (i := 0) 2 dX12_change_41 rfl rfl ?_
      refine X_getr (pc := 42) (a := 34) (ci := 11) (j := 77) (c := 72) (sh_34 hT) (by decide) k_1305 (rf_34_77 hT) (fun _ h => h) dX12_change_42 ?_
      refine X_iload (pc := 45) 1 dX12_change_45 rfl ?_
      refine X_iload_n (pc := 47) (i := 3) 5 dX12_change_47 rfl rfl ?_
      obtain ⟨c7, hf⟩ := gd_some hf
      refine X_iastj (pc := 48) (j := (x4.toNatClampNeg)) (sh_72 hT) (vp_in_lit (N := 128) c7 (by decide)) rfl dX12_change_48 ?_
      refine X_aload_n (pc := 49) (i := 0) 2 dX12_change_49 rfl rfl ?_
      refine X_getr (pc := 50) (a := 34) (ci := 11) (j := 79) (c := 74) (sh_34 hT) (by decide) k_1307 (rf_34_79 hT) (fun _ h => h) dX12_change_50 ?_
      refine X_iload (pc := 53) 1 dX12_change_53 rfl ?_
      refine X_iconst (pc := 55) (0 : Int32) dX12_change_55 (by decide) ?_
      obtain ⟨c8, hf⟩ := gd_some hf
      refine X_zastj (pc := 56) (j := (x4.toNatClampNeg)) (by decide) (sh_74 hT) (vp_in_lit (N := 128) c8 (by decide)) rfl dX12_change_56 ?_
      refine X_iload (pc := 57) 0 dX12_change_57 rfl ?_
      cases hf
      exact X_ireturn (pc := 59) rfl dX12_change_59
theorem u_Md_change {S : List xSh} {a0 : Int32} {a1 : Int32} {a2 : Int32} {I : Nat → Nat → Int32} {L : Nat → Nat → Int64} {q : (Int32 × (Nat → Nat → Int32) × (Nat → Nat → Int64))} (hf : f_Md_change a0 a1 a2 I L = some q) : FR S [72, 74] [] I q.2.1 L q.2.2 := by
  replace hf := (f_Md_change.eq_1 _ _ _ _ _).symm.trans hf
  by_cases c1 : (f_Md_isSetting a0 a1) = (0 : Int32)
  · replace hf := (if_pos c1).symm.trans hf
    cases hf
    exact FR.rf
  · replace hf := (if_neg c1).symm.trans hf
    obtain ⟨x2, ex2, hf⟩ := bnd_e hf
    by_cases c3 : x2 = (0 : Int32)
    · replace hf := (if_pos c3).symm.trans hf
      cases hf
      exact FR.rf
    · replace hf := (if_neg c3).symm.trans hf
      obtain ⟨x4, ex4, hf⟩ := bnd_e hf
      obtain ⟨c5, hf⟩ := gd_some hf
      obtain ⟨x6, ex6, hf⟩ := bnd_e hf
      obtain ⟨c7, hf⟩ := gd_some hf
      obtain ⟨c8, hf⟩ := gd_some hf
      cases hf
      exact (FR.ai (FR.ai FR.rf (by decide)) (by decide))
theorem dX12_isConflict_0 : decode cX12_isConflict 0 = .ok (.aload_n 0, 1) := by decide +kernel
theorem dX12_isConflict_1 : decode cX12_isConflict 1 = .ok (.getfield 123, 3) := by decide +kernel
theorem dX12_isConflict_4 : decode cX12_isConflict 4 = .ok (.bipush 32, 2) := by decide +kernel
theorem dX12_isConflict_6 : decode cX12_isConflict 6 = .ok (.iload_n 1, 1) := by decide +kernel
theorem dX12_isConflict_7 : decode cX12_isConflict 7 = .ok (.imul, 1) := by decide +kernel
theorem dX12_isConflict_8 : decode cX12_isConflict 8 = .ok (.iload_n 2, 1) := by decide +kernel
theorem dX12_isConflict_9 : decode cX12_isConflict 9 = .ok (.iadd, 1) := by decide +kernel
theorem dX12_isConflict_10 : decode cX12_isConflict 10 = .ok (.iaload, 1) := by decide +kernel
theorem dX12_isConflict_11 : decode cX12_isConflict 11 = .ok (.istore_n 3, 1) := by decide +kernel
theorem dX12_isConflict_12 : decode cX12_isConflict 12 = .ok (.aload_n 0, 1) := by decide +kernel
theorem dX12_isConflict_13 : decode cX12_isConflict 13 = .ok (.getfield 120, 3) := by decide +kernel
theorem dX12_isConflict_16 : decode cX12_isConflict 16 = .ok (.bipush 32, 2) := by decide +kernel
theorem dX12_isConflict_18 : decode cX12_isConflict 18 = .ok (.aload_n 0, 1) := by decide +kernel
theorem dX12_isConflict_19 : decode cX12_isConflict 19 = .ok (.getfield 126, 3) := by decide +kernel
theorem dX12_isConflict_22 : decode cX12_isConflict 22 = .ok (.iload_n 1, 1) := by decide +kernel
theorem dX12_isConflict_23 : decode cX12_isConflict 23 = .ok (.iaload, 1) := by decide +kernel
theorem dX12_isConflict_24 : decode cX12_isConflict 24 = .ok (.imul, 1) := by decide +kernel
theorem dX12_isConflict_25 : decode cX12_isConflict 25 = .ok (.iload_n 2, 1) := by decide +kernel
theorem dX12_isConflict_26 : decode cX12_isConflict 26 = .ok (.iadd, 1) := by decide +kernel
theorem dX12_isConflict_27 : decode cX12_isConflict 27 = .ok (.iaload, 1) := by decide +kernel
theorem dX12_isConflict_28 : decode cX12_isConflict 28 = .ok (.istore 4, 2) := by decide +kernel
theorem dX12_isConflict_30 : decode cX12_isConflict 30 = .ok (.aload_n 0, 1) := by decide +kernel
theorem dX12_isConflict_31 : decode cX12_isConflict 31 = .ok (.getfield 120, 3) := by decide +kernel
theorem dX12_isConflict_34 : decode cX12_isConflict 34 = .ok (.bipush 32, 2) := by decide +kernel
theorem dX12_isConflict_36 : decode cX12_isConflict 36 = .ok (.aload_n 0, 1) := by decide +kernel
theorem dX12_isConflict_37 : decode cX12_isConflict 37 = .ok (.getfield 508, 3) := by decide +kernel
theorem dX12_isConflict_40 : decode cX12_isConflict 40 = .ok (.imul, 1) := by decide +kernel
theorem dX12_isConflict_41 : decode cX12_isConflict 41 = .ok (.iload_n 2, 1) := by decide +kernel
theorem dX12_isConflict_42 : decode cX12_isConflict 42 = .ok (.iadd, 1) := by decide +kernel
theorem dX12_isConflict_43 : decode cX12_isConflict 43 = .ok (.iaload, 1) := by decide +kernel
theorem dX12_isConflict_44 : decode cX12_isConflict 44 = .ok (.istore 5, 2) := by decide +kernel
theorem dX12_isConflict_46 : decode cX12_isConflict 46 = .ok (.iload_n 3, 1) := by decide +kernel
theorem dX12_isConflict_47 : decode cX12_isConflict 47 = .ok (.iload 4, 2) := by decide +kernel
theorem dX12_isConflict_49 : decode cX12_isConflict 49 = .ok (.if_icmp .eq 34, 3) := by decide +kernel
theorem dX12_isConflict_52 : decode cX12_isConflict 52 = .ok (.iload 5, 2) := by decide +kernel
theorem dX12_isConflict_54 : decode cX12_isConflict 54 = .ok (.iload 4, 2) := by decide +kernel
theorem dX12_isConflict_56 : decode cX12_isConflict 56 = .ok (.if_icmp .eq 27, 3) := by decide +kernel
theorem dX12_isConflict_59 : decode cX12_isConflict 59 = .ok (.iload_n 3, 1) := by decide +kernel
theorem dX12_isConflict_60 : decode cX12_isConflict 60 = .ok (.iload 5, 2) := by decide +kernel
theorem dX12_isConflict_62 : decode cX12_isConflict 62 = .ok (.if_icmp .eq 21, 3) := by decide +kernel
theorem dX12_isConflict_65 : decode cX12_isConflict 65 = .ok (.aload_n 0, 1) := by decide +kernel
theorem dX12_isConflict_66 : decode cX12_isConflict 66 = .ok (.getfield 129, 3) := by decide +kernel
theorem dX12_isConflict_69 : decode cX12_isConflict 69 = .ok (.bipush 32, 2) := by decide +kernel
theorem dX12_isConflict_71 : decode cX12_isConflict 71 = .ok (.iload_n 1, 1) := by decide +kernel
theorem dX12_isConflict_72 : decode cX12_isConflict 72 = .ok (.imul, 1) := by decide +kernel
theorem dX12_isConflict_73 : decode cX12_isConflict 73 = .ok (.iload_n 2, 1) := by decide +kernel
theorem dX12_isConflict_74 : decode cX12_isConflict 74 = .ok (.iadd, 1) := by decide +kernel
theorem dX12_isConflict_75 : decode cX12_isConflict 75 = .ok (.baload, 1) := by decide +kernel
theorem dX12_isConflict_76 : decode cX12_isConflict 76 = .ok (.ifCond .ne 7, 3) := by decide +kernel
theorem dX12_isConflict_79 : decode cX12_isConflict 79 = .ok (.iconst 1, 1) := by decide +kernel
theorem dX12_isConflict_80 : decode cX12_isConflict 80 = .ok (.goto 4, 3) := by decide +kernel
theorem dX12_isConflict_83 : decode cX12_isConflict 83 = .ok (.iconst 0, 1) := by decide +kernel
theorem dX12_isConflict_84 : decode cX12_isConflict 84 = .ok (.ireturn, 1) := by decide +kernel
def f_Md_isConflict (a0 : Int32) (a1 : Int32) (I : Nat → Nat → Int32) (L : Nat → Nat → Int64) : Option Int32 := (if (0 ≤ (((32 : Int32) * a0) + a1) ∧ (((32 : Int32) * a0) + a1) < (128 : Int32)) then (bnd (I 72 ((((32 : Int32) * a0) + a1).toNatClampNeg)) fun x2 => (if (0 ≤ a0 ∧ a0 < (4 : Int32)) then (bnd (((32 : Int32) * (I 73 (a0.toNatClampNeg))) + a1) fun x4 => (if (0 ≤ x4 ∧ x4 < (16032 : Int32)) then (bnd (I 71 (x4.toNatClampNeg)) fun x6 => (if (0 ≤ (((32 : Int32) * (I 34 75)) + a1) ∧ (((32 : Int32) * (I 34 75)) + a1) < (16032 : Int32)) then (bnd (I 71 ((((32 : Int32) * (I 34 75)) + a1).toNatClampNeg)) fun x8 => (if x2 = x6 then (some (0 : Int32)) else (if x8 = x6 then (some (0 : Int32)) else (if x2 = x8 then (some (0 : Int32)) else (if (0 ≤ (((32 : Int32) * a0) + a1) ∧ (((32 : Int32) * a0) + a1) < (128 : Int32)) then (if (I 74 ((((32 : Int32) * a0) + a1).toNatClampNeg)) = (0 : Int32) then (some (1 : Int32)) else (some (0 : Int32))) else none))))) else none)) else none)) else none)) else none)
set_option maxRecDepth 100000 in
set_option maxHeartbeats 4000000 in
theorem c_Md_isConflict {G : xG} {S : List xSh} {Rf : Nat → Nat → Option Nat} (hT : xTM S Rf) {a0 : Int32} {a1 : Int32} {I : Nat → Nat → Int32} {L : Nat → Nat → Int64} {q : Int32} (hf : f_Md_isConflict a0 a1 I L = some q) : CT G 1 m_Md_isConflict [.ref (xP G 34), .int a0, .int a1] (S, I, L, Rf) (some (.int q), (S, I, L, Rf)) := by
  refine CT.of (by decide +kernel) (Nat.le_of_ble_eq_true rfl) ?_
  show X G 1 m_Md_isConflict 0 [(0, .ref (xP G 34)), (1, .int a0), (2, .int a1)] [] (S, I, L, Rf) (some (.int q), (S, I, L, Rf))
  replace hf := (f_Md_isConflict.eq_1 _ _ _ _).symm.trans hf
  refine X_aload_n (pc := 0) (i := 0) 0 dX12_isConflict_0 rfl rfl ?_
  refine X_getr (pc := 1) (a := 34) (ci := 11) (j := 77) (c := 72) (sh_34 hT) (by decide) k_1305 (rf_34_77 hT) (fun _ h => h) dX12_isConflict_1 ?_
  refine X_bipush (pc := 4) (32 : Int32) dX12_isConflict_4 (by decide) ?_
  refine X_iload_n (pc := 6) (i := 1) 1 dX12_isConflict_6 rfl rfl ?_
  refine X_imul (pc := 7) dX12_isConflict_7 ?_
  refine X_iload_n (pc := 8) (i := 2) 2 dX12_isConflict_8 rfl rfl ?_
  refine X_iadd (pc := 9) dX12_isConflict_9 ?_
  obtain ⟨c1, hf⟩ := gd_some hf
  refine X_ialdj (pc := 10) (j := (((32 : Int32) * a0) + a1).toNatClampNeg) (I 72 ((((32 : Int32) * a0) + a1).toNatClampNeg)) (sh_72 hT) (vp_in_lit (N := 128) c1 (by decide)) rfl rfl dX12_isConflict_10 ?_
  obtain ⟨x2, ex2, hf⟩ := bnd_e hf
  refine X_tope ex2 ?_
  refine X_istore_n (pc := 11) (i := 3) [(3, .int x2), (0, .ref (xP G 34)), (1, .int a0), (2, .int a1)] dX12_isConflict_11 rfl (by decide) rfl ?_
  refine X_aload_n (pc := 12) (i := 0) 1 dX12_isConflict_12 rfl rfl ?_
  refine X_getr (pc := 13) (a := 34) (ci := 11) (j := 76) (c := 71) (sh_34 hT) (by decide) k_1304 (rf_34_76 hT) (fun _ h => h) dX12_isConflict_13 ?_
  refine X_bipush (pc := 16) (32 : Int32) dX12_isConflict_16 (by decide) ?_
  refine X_aload_n (pc := 18) (i := 0) 1 dX12_isConflict_18 rfl rfl ?_
  refine X_getr (pc := 19) (a := 34) (ci := 11) (j := 78) (c := 73) (sh_34 hT) (by decide) k_1306 (rf_34_78 hT) (fun _ h => h) dX12_isConflict_19 ?_
  refine X_iload_n (pc := 22) (i := 1) 2 dX12_isConflict_22 rfl rfl ?_
  obtain ⟨c3, hf⟩ := gd_some hf
  refine X_ialdj (pc := 23) (j := a0.toNatClampNeg) (I 73 (a0.toNatClampNeg)) (sh_73 hT) (vp_in_lit (N := 4) c3 (by decide)) rfl rfl dX12_isConflict_23 ?_
  refine X_imul (pc := 24) dX12_isConflict_24 ?_
  refine X_iload_n (pc := 25) (i := 2) 3 dX12_isConflict_25 rfl rfl ?_
  refine X_iadd (pc := 26) dX12_isConflict_26 ?_
  obtain ⟨x4, ex4, hf⟩ := bnd_e hf
  refine X_tope ex4 ?_
  obtain ⟨c5, hf⟩ := gd_some hf
  refine X_ialdj (pc := 27) (j := x4.toNatClampNeg) (I 71 (x4.toNatClampNeg)) (sh_71 hT) (vp_in_lit (N := 16032) c5 (by decide)) rfl rfl dX12_isConflict_27 ?_
  obtain ⟨x6, ex6, hf⟩ := bnd_e hf
  refine X_tope ex6 ?_
  refine X_istore (pc := 28) [(4, .int x6), (3, .int x2), (0, .ref (xP G 34)), (1, .int a0), (2, .int a1)] dX12_isConflict_28 (by decide) rfl ?_
  refine X_aload_n (pc := 30) (i := 0) 2 dX12_isConflict_30 rfl rfl ?_
  refine X_getr (pc := 31) (a := 34) (ci := 11) (j := 76) (c := 71) (sh_34 hT) (by decide) k_1304 (rf_34_76 hT) (fun _ h => h) dX12_isConflict_31 ?_
  refine X_bipush (pc := 34) (32 : Int32) dX12_isConflict_34 (by decide) ?_
  refine X_aload_n (pc := 36) (i := 0) 2 dX12_isConflict_36 rfl rfl ?_
  refine X_get (pc := 37) (a := 34) (ci := 11) (j := 75) (.int (I 34 75)) (sh_34 hT) (by decide) k_1303 rfl dX12_isConflict_37 ?_
  refine X_imul (pc := 40) dX12_isConflict_40 ?_
  refine X_iload_n (pc := 41) (i := 2) 4 dX12_isConflict_41 rfl rfl ?_
  refine X_iadd (pc := 42) dX12_isConflict_42 ?_
  obtain ⟨c7, hf⟩ := gd_some hf
  refine X_ialdj (pc := 43) (j := (((32 : Int32) * (I 34 75)) + a1).toNatClampNeg) (I 71 ((((32 : Int32) * (I 34 75)) + a1).toNatClampNeg)) (sh_71 hT) (vp_in_lit (N := 16032) c7 (by decide)) rfl rfl dX12_isConflict_43 ?_
  obtain ⟨x8, ex8, hf⟩ := bnd_e hf
  refine X_tope ex8 ?_
  refine X_istore (pc := 44) [(5, .int x8), (4, .int x6), (3, .int x2), (0, .ref (xP G 34)), (1, .int a0), (2, .int a1)] dX12_isConflict_44 (by decide) rfl ?_
  refine X_iload_n (pc := 46) (i := 3) 2 dX12_isConflict_46 rfl rfl ?_
  refine X_iload (pc := 47) 1 dX12_isConflict_47 rfl ?_
  by_cases c9 : x2 = x6
  · replace hf := (if_pos c9).symm.trans hf
    refine X_icmp_eq_t (pc := 49) 83 dX12_isConflict_49 (by decide) c9 ?_
    refine X_iconst (pc := 83) (0 : Int32) dX12_isConflict_83 (by decide) ?_
    cases hf
    exact X_zreturn (pc := 84) rfl (nar_b (by decide)) dX12_isConflict_84
  · replace hf := (if_neg c9).symm.trans hf
    refine X_icmp_eq_f (pc := 49) 83 dX12_isConflict_49 (by decide) c9 ?_
    refine X_iload (pc := 52) 0 dX12_isConflict_52 rfl ?_
    refine X_iload (pc := 54) 1 dX12_isConflict_54 rfl ?_
    by_cases c10 : x8 = x6
    · replace hf := (if_pos c10).symm.trans hf
      refine X_icmp_eq_t (pc := 56) 83 dX12_isConflict_56 (by decide) c10 ?_
      refine X_iconst (pc := 83) (0 : Int32) dX12_isConflict_83 (by decide) ?_
      cases hf
      exact X_zreturn (pc := 84) rfl (nar_b (by decide)) dX12_isConflict_84
    · replace hf := (if_neg c10).symm.trans hf
      refine X_icmp_eq_f (pc := 56) 83 dX12_isConflict_56 (by decide) c10 ?_
      refine X_iload_n (pc := 59) (i := 3) 2 dX12_isConflict_59 rfl rfl ?_
      refine X_iload (pc := 60) 0 dX12_isConflict_60 rfl ?_
      by_cases c11 : x2 = x8
      · replace hf := (if_pos c11).symm.trans hf
        refine X_icmp_eq_t (pc := 62) 83 dX12_isConflict_62 (by decide) c11 ?_
        refine X_iconst (pc := 83) (0 : Int32) dX12_isConflict_83 (by decide) ?_
        cases hf
        exact X_zreturn (pc := 84) rfl (nar_b (by decide)) dX12_isConflict_84
      · replace hf := (if_neg c11).symm.trans hf
        refine X_icmp_eq_f (pc := 62) 83 dX12_isConflict_62 (by decide) c11 ?_
        refine X_aload_n (pc := 65) (i := 0) 3 dX12_isConflict_65 rfl rfl ?_
        refine X_getr (pc := 66) (a := 34) (ci := 11) (j := 79) (c := 74) (sh_34 hT) (by decide) k_1307 (rf_34_79 hT) (fun _ h => h) dX12_isConflict_66 ?_
        refine X_bipush (pc := 69) (32 : Int32) dX12_isConflict_69 (by decide) ?_
        refine X_iload_n (pc := 71) (i := 1) 4 dX12_isConflict_71 rfl rfl ?_
        refine X_imul (pc := 72) dX12_isConflict_72 ?_
        refine X_iload_n (pc := 73) (i := 2) 5 dX12_isConflict_73 rfl rfl ?_
        refine X_iadd (pc := 74) dX12_isConflict_74 ?_
        obtain ⟨c12, hf⟩ := gd_some hf
        refine X_zaldj (pc := 75) (j := (((32 : Int32) * a0) + a1).toNatClampNeg) (I 74 ((((32 : Int32) * a0) + a1).toNatClampNeg)) (sh_74 hT) (vp_in_lit (N := 128) c12 (by decide)) rfl rfl dX12_isConflict_75 ?_
        by_cases c13 : (I 74 ((((32 : Int32) * a0) + a1).toNatClampNeg)) = (0 : Int32)
        · replace hf := (if_pos c13).symm.trans hf
          refine X_if_ne_f (pc := 76) 83 dX12_isConflict_76 (by decide) c13 ?_
          refine X_iconst (pc := 79) (1 : Int32) dX12_isConflict_79 (by decide) ?_
          refine X_goto (pc := 80) 84 dX12_isConflict_80 (by decide) ?_
          cases hf
          exact X_zreturn (pc := 84) rfl (nar_b (by decide)) dX12_isConflict_84
        · replace hf := (if_neg c13).symm.trans hf
          refine X_if_ne_t (pc := 76) 83 dX12_isConflict_76 (by decide) c13 ?_
          refine X_iconst (pc := 83) (0 : Int32) dX12_isConflict_83 (by decide) ?_
          cases hf
          exact X_zreturn (pc := 84) rfl (nar_b (by decide)) dX12_isConflict_84
theorem dX12_merge_0 : decode cX12_merge 0 = .ok (.iload_n 1, 1) := by decide +kernel
theorem dX12_merge_1 : decode cX12_merge 1 = .ok (.i2l, 1) := by decide +kernel
theorem dX12_merge_2 : decode cX12_merge 2 = .ok (.lconst 0, 1) := by decide +kernel
theorem dX12_merge_3 : decode cX12_merge 3 = .ok (.ldc2_w 259, 3) := by decide +kernel
theorem dX12_merge_6 : decode cX12_merge 6 = .ok (.invokestatic 140, 3) := by decide +kernel
theorem dX12_merge_9 : decode cX12_merge 9 = .ok (.ifCond .ne 5, 3) := by decide +kernel
theorem dX12_merge_12 : decode cX12_merge 12 = .ok (.iconst (-1), 1) := by decide +kernel
theorem dX12_merge_13 : decode cX12_merge 13 = .ok (.ireturn, 1) := by decide +kernel
theorem dX12_merge_14 : decode cX12_merge 14 = .ok (.iconst 0, 1) := by decide +kernel
theorem dX12_merge_15 : decode cX12_merge 15 = .ok (.istore_n 2, 1) := by decide +kernel
theorem dX12_merge_16 : decode cX12_merge 16 = .ok (.iconst 0, 1) := by decide +kernel
theorem dX12_merge_17 : decode cX12_merge 17 = .ok (.istore_n 3, 1) := by decide +kernel
theorem dX12_merge_18 : decode cX12_merge 18 = .ok (.iconst 0, 1) := by decide +kernel
theorem dX12_merge_19 : decode cX12_merge 19 = .ok (.istore 4, 2) := by decide +kernel
theorem dX12_merge_21 : decode cX12_merge 21 = .ok (.iload 4, 2) := by decide +kernel
theorem dX12_merge_23 : decode cX12_merge 23 = .ok (.bipush 32, 2) := by decide +kernel
theorem dX12_merge_25 : decode cX12_merge 25 = .ok (.if_icmp .ge 91, 3) := by decide +kernel
theorem dX12_merge_28 : decode cX12_merge 28 = .ok (.iload_n 2, 1) := by decide +kernel
theorem dX12_merge_29 : decode cX12_merge 29 = .ok (.aload_n 0, 1) := by decide +kernel
theorem dX12_merge_30 : decode cX12_merge 30 = .ok (.iload_n 1, 1) := by decide +kernel
theorem dX12_merge_31 : decode cX12_merge 31 = .ok (.iload 4, 2) := by decide +kernel
theorem dX12_merge_33 : decode cX12_merge 33 = .ok (.invokevirtual 511, 3) := by decide +kernel
theorem dX12_merge_36 : decode cX12_merge 36 = .ok (.ifCond .eq 7, 3) := by decide +kernel
theorem dX12_merge_39 : decode cX12_merge 39 = .ok (.iconst 1, 1) := by decide +kernel
theorem dX12_merge_40 : decode cX12_merge 40 = .ok (.goto 4, 3) := by decide +kernel
theorem dX12_merge_43 : decode cX12_merge 43 = .ok (.iconst 0, 1) := by decide +kernel
theorem dX12_merge_44 : decode cX12_merge 44 = .ok (.iadd, 1) := by decide +kernel
theorem dX12_merge_45 : decode cX12_merge 45 = .ok (.istore_n 2, 1) := by decide +kernel
theorem dX12_merge_46 : decode cX12_merge 46 = .ok (.aload_n 0, 1) := by decide +kernel
theorem dX12_merge_47 : decode cX12_merge 47 = .ok (.getfield 123, 3) := by decide +kernel
theorem dX12_merge_50 : decode cX12_merge 50 = .ok (.bipush 32, 2) := by decide +kernel
theorem dX12_merge_52 : decode cX12_merge 52 = .ok (.iload_n 1, 1) := by decide +kernel
theorem dX12_merge_53 : decode cX12_merge 53 = .ok (.imul, 1) := by decide +kernel
theorem dX12_merge_54 : decode cX12_merge 54 = .ok (.iload 4, 2) := by decide +kernel
theorem dX12_merge_56 : decode cX12_merge 56 = .ok (.iadd, 1) := by decide +kernel
theorem dX12_merge_57 : decode cX12_merge 57 = .ok (.iaload, 1) := by decide +kernel
theorem dX12_merge_58 : decode cX12_merge 58 = .ok (.istore 5, 2) := by decide +kernel
theorem dX12_merge_60 : decode cX12_merge 60 = .ok (.iload_n 3, 1) := by decide +kernel
theorem dX12_merge_61 : decode cX12_merge 61 = .ok (.iload 5, 2) := by decide +kernel
theorem dX12_merge_63 : decode cX12_merge 63 = .ok (.aload_n 0, 1) := by decide +kernel
theorem dX12_merge_64 : decode cX12_merge 64 = .ok (.getfield 120, 3) := by decide +kernel
theorem dX12_merge_67 : decode cX12_merge 67 = .ok (.bipush 32, 2) := by decide +kernel
theorem dX12_merge_69 : decode cX12_merge 69 = .ok (.aload_n 0, 1) := by decide +kernel
theorem dX12_merge_70 : decode cX12_merge 70 = .ok (.getfield 126, 3) := by decide +kernel
theorem dX12_merge_73 : decode cX12_merge 73 = .ok (.iload_n 1, 1) := by decide +kernel
theorem dX12_merge_74 : decode cX12_merge 74 = .ok (.iaload, 1) := by decide +kernel
theorem dX12_merge_75 : decode cX12_merge 75 = .ok (.imul, 1) := by decide +kernel
theorem dX12_merge_76 : decode cX12_merge 76 = .ok (.iload 4, 2) := by decide +kernel
theorem dX12_merge_78 : decode cX12_merge 78 = .ok (.iadd, 1) := by decide +kernel
theorem dX12_merge_79 : decode cX12_merge 79 = .ok (.iaload, 1) := by decide +kernel
theorem dX12_merge_80 : decode cX12_merge 80 = .ok (.if_icmp .eq 27, 3) := by decide +kernel
theorem dX12_merge_83 : decode cX12_merge 83 = .ok (.iload 5, 2) := by decide +kernel
theorem dX12_merge_85 : decode cX12_merge 85 = .ok (.aload_n 0, 1) := by decide +kernel
theorem dX12_merge_86 : decode cX12_merge 86 = .ok (.getfield 120, 3) := by decide +kernel
theorem dX12_merge_89 : decode cX12_merge 89 = .ok (.bipush 32, 2) := by decide +kernel
theorem dX12_merge_91 : decode cX12_merge 91 = .ok (.aload_n 0, 1) := by decide +kernel
theorem dX12_merge_92 : decode cX12_merge 92 = .ok (.getfield 508, 3) := by decide +kernel
theorem dX12_merge_95 : decode cX12_merge 95 = .ok (.imul, 1) := by decide +kernel
theorem dX12_merge_96 : decode cX12_merge 96 = .ok (.iload 4, 2) := by decide +kernel
theorem dX12_merge_98 : decode cX12_merge 98 = .ok (.iadd, 1) := by decide +kernel
theorem dX12_merge_99 : decode cX12_merge 99 = .ok (.iaload, 1) := by decide +kernel
theorem dX12_merge_100 : decode cX12_merge 100 = .ok (.if_icmp .eq 7, 3) := by decide +kernel
theorem dX12_merge_103 : decode cX12_merge 103 = .ok (.iconst 1, 1) := by decide +kernel
theorem dX12_merge_104 : decode cX12_merge 104 = .ok (.goto 4, 3) := by decide +kernel
theorem dX12_merge_107 : decode cX12_merge 107 = .ok (.iconst 0, 1) := by decide +kernel
theorem dX12_merge_108 : decode cX12_merge 108 = .ok (.ior, 1) := by decide +kernel
theorem dX12_merge_109 : decode cX12_merge 109 = .ok (.istore_n 3, 1) := by decide +kernel
theorem dX12_merge_110 : decode cX12_merge 110 = .ok (.iinc 4 1, 3) := by decide +kernel
theorem dX12_merge_113 : decode cX12_merge 113 = .ok (.goto (-92), 3) := by decide +kernel
theorem dX12_merge_116 : decode cX12_merge 116 = .ok (.iload_n 2, 1) := by decide +kernel
theorem dX12_merge_117 : decode cX12_merge 117 = .ok (.ifCond .le 5, 3) := by decide +kernel
theorem dX12_merge_120 : decode cX12_merge 120 = .ok (.iload_n 2, 1) := by decide +kernel
theorem dX12_merge_121 : decode cX12_merge 121 = .ok (.ireturn, 1) := by decide +kernel
theorem dX12_merge_122 : decode cX12_merge 122 = .ok (.iload_n 3, 1) := by decide +kernel
theorem dX12_merge_123 : decode cX12_merge 123 = .ok (.ifCond .eq 16, 3) := by decide +kernel
theorem dX12_merge_126 : decode cX12_merge 126 = .ok (.aload_n 0, 1) := by decide +kernel
theorem dX12_merge_127 : decode cX12_merge 127 = .ok (.getfield 508, 3) := by decide +kernel
theorem dX12_merge_130 : decode cX12_merge 130 = .ok (.sipush 500, 3) := by decide +kernel
theorem dX12_merge_133 : decode cX12_merge 133 = .ok (.if_icmp .ne 6, 3) := by decide +kernel
theorem dX12_merge_136 : decode cX12_merge 136 = .ok (.bipush (-3), 2) := by decide +kernel
theorem dX12_merge_138 : decode cX12_merge 138 = .ok (.ireturn, 1) := by decide +kernel
theorem dX12_merge_139 : decode cX12_merge 139 = .ok (.iload_n 3, 1) := by decide +kernel
theorem dX12_merge_140 : decode cX12_merge 140 = .ok (.ifCond .eq 12, 3) := by decide +kernel
theorem dX12_merge_143 : decode cX12_merge 143 = .ok (.aload_n 0, 1) := by decide +kernel
theorem dX12_merge_144 : decode cX12_merge 144 = .ok (.getfield 508, 3) := by decide +kernel
theorem dX12_merge_147 : decode cX12_merge 147 = .ok (.iconst 1, 1) := by decide +kernel
theorem dX12_merge_148 : decode cX12_merge 148 = .ok (.iadd, 1) := by decide +kernel
theorem dX12_merge_149 : decode cX12_merge 149 = .ok (.goto 7, 3) := by decide +kernel
theorem dX12_merge_152 : decode cX12_merge 152 = .ok (.aload_n 0, 1) := by decide +kernel
theorem dX12_merge_153 : decode cX12_merge 153 = .ok (.getfield 508, 3) := by decide +kernel
theorem dX12_merge_156 : decode cX12_merge 156 = .ok (.istore 4, 2) := by decide +kernel
theorem dX12_merge_158 : decode cX12_merge 158 = .ok (.iconst 0, 1) := by decide +kernel
theorem dX12_merge_159 : decode cX12_merge 159 = .ok (.istore 5, 2) := by decide +kernel
theorem dX12_merge_161 : decode cX12_merge 161 = .ok (.iload 5, 2) := by decide +kernel
theorem dX12_merge_163 : decode cX12_merge 163 = .ok (.bipush 32, 2) := by decide +kernel
theorem dX12_merge_165 : decode cX12_merge 165 = .ok (.if_icmp .ge 104, 3) := by decide +kernel
theorem dX12_merge_168 : decode cX12_merge 168 = .ok (.bipush 32, 2) := by decide +kernel
theorem dX12_merge_170 : decode cX12_merge 170 = .ok (.iload_n 1, 1) := by decide +kernel
theorem dX12_merge_171 : decode cX12_merge 171 = .ok (.imul, 1) := by decide +kernel
theorem dX12_merge_172 : decode cX12_merge 172 = .ok (.iload 5, 2) := by decide +kernel
theorem dX12_merge_174 : decode cX12_merge 174 = .ok (.iadd, 1) := by decide +kernel
theorem dX12_merge_175 : decode cX12_merge 175 = .ok (.istore 6, 2) := by decide +kernel
theorem dX12_merge_177 : decode cX12_merge 177 = .ok (.aload_n 0, 1) := by decide +kernel
theorem dX12_merge_178 : decode cX12_merge 178 = .ok (.getfield 123, 3) := by decide +kernel
theorem dX12_merge_181 : decode cX12_merge 181 = .ok (.iload 6, 2) := by decide +kernel
theorem dX12_merge_183 : decode cX12_merge 183 = .ok (.iaload, 1) := by decide +kernel
theorem dX12_merge_184 : decode cX12_merge 184 = .ok (.aload_n 0, 1) := by decide +kernel
theorem dX12_merge_185 : decode cX12_merge 185 = .ok (.getfield 120, 3) := by decide +kernel
theorem dX12_merge_188 : decode cX12_merge 188 = .ok (.bipush 32, 2) := by decide +kernel
theorem dX12_merge_190 : decode cX12_merge 190 = .ok (.aload_n 0, 1) := by decide +kernel
theorem dX12_merge_191 : decode cX12_merge 191 = .ok (.getfield 126, 3) := by decide +kernel
theorem dX12_merge_194 : decode cX12_merge 194 = .ok (.iload_n 1, 1) := by decide +kernel
theorem dX12_merge_195 : decode cX12_merge 195 = .ok (.iaload, 1) := by decide +kernel
theorem dX12_merge_196 : decode cX12_merge 196 = .ok (.imul, 1) := by decide +kernel
theorem dX12_merge_197 : decode cX12_merge 197 = .ok (.iload 5, 2) := by decide +kernel
theorem dX12_merge_199 : decode cX12_merge 199 = .ok (.iadd, 1) := by decide +kernel
theorem dX12_merge_200 : decode cX12_merge 200 = .ok (.iaload, 1) := by decide +kernel
theorem dX12_merge_201 : decode cX12_merge 201 = .ok (.if_icmp .ne 21, 3) := by decide +kernel
theorem dX12_merge_204 : decode cX12_merge 204 = .ok (.aload_n 0, 1) := by decide +kernel
theorem dX12_merge_205 : decode cX12_merge 205 = .ok (.getfield 120, 3) := by decide +kernel
theorem dX12_merge_208 : decode cX12_merge 208 = .ok (.bipush 32, 2) := by decide +kernel
theorem dX12_merge_210 : decode cX12_merge 210 = .ok (.aload_n 0, 1) := by decide +kernel
theorem dX12_merge_211 : decode cX12_merge 211 = .ok (.getfield 508, 3) := by decide +kernel
theorem dX12_merge_214 : decode cX12_merge 214 = .ok (.imul, 1) := by decide +kernel
theorem dX12_merge_215 : decode cX12_merge 215 = .ok (.iload 5, 2) := by decide +kernel
theorem dX12_merge_217 : decode cX12_merge 217 = .ok (.iadd, 1) := by decide +kernel
theorem dX12_merge_218 : decode cX12_merge 218 = .ok (.iaload, 1) := by decide +kernel
theorem dX12_merge_219 : decode cX12_merge 219 = .ok (.goto 10, 3) := by decide +kernel
theorem dX12_merge_222 : decode cX12_merge 222 = .ok (.aload_n 0, 1) := by decide +kernel
theorem dX12_merge_223 : decode cX12_merge 223 = .ok (.getfield 123, 3) := by decide +kernel
theorem dX12_merge_226 : decode cX12_merge 226 = .ok (.iload 6, 2) := by decide +kernel
theorem dX12_merge_228 : decode cX12_merge 228 = .ok (.iaload, 1) := by decide +kernel
theorem dX12_merge_229 : decode cX12_merge 229 = .ok (.istore 7, 2) := by decide +kernel
theorem dX12_merge_231 : decode cX12_merge 231 = .ok (.aload_n 0, 1) := by decide +kernel
theorem dX12_merge_232 : decode cX12_merge 232 = .ok (.getfield 123, 3) := by decide +kernel
theorem dX12_merge_235 : decode cX12_merge 235 = .ok (.iload 6, 2) := by decide +kernel
theorem dX12_merge_237 : decode cX12_merge 237 = .ok (.iload 7, 2) := by decide +kernel
theorem dX12_merge_239 : decode cX12_merge 239 = .ok (.iastore, 1) := by decide +kernel
theorem dX12_merge_240 : decode cX12_merge 240 = .ok (.aload_n 0, 1) := by decide +kernel
theorem dX12_merge_241 : decode cX12_merge 241 = .ok (.getfield 120, 3) := by decide +kernel
theorem dX12_merge_244 : decode cX12_merge 244 = .ok (.bipush 32, 2) := by decide +kernel
theorem dX12_merge_246 : decode cX12_merge 246 = .ok (.iload 4, 2) := by decide +kernel
theorem dX12_merge_248 : decode cX12_merge 248 = .ok (.imul, 1) := by decide +kernel
theorem dX12_merge_249 : decode cX12_merge 249 = .ok (.iload 5, 2) := by decide +kernel
theorem dX12_merge_251 : decode cX12_merge 251 = .ok (.iadd, 1) := by decide +kernel
theorem dX12_merge_252 : decode cX12_merge 252 = .ok (.iload 7, 2) := by decide +kernel
theorem dX12_merge_254 : decode cX12_merge 254 = .ok (.iastore, 1) := by decide +kernel
theorem dX12_merge_255 : decode cX12_merge 255 = .ok (.aload_n 0, 1) := by decide +kernel
theorem dX12_merge_256 : decode cX12_merge 256 = .ok (.getfield 129, 3) := by decide +kernel
theorem dX12_merge_259 : decode cX12_merge 259 = .ok (.iload 6, 2) := by decide +kernel
theorem dX12_merge_261 : decode cX12_merge 261 = .ok (.iconst 0, 1) := by decide +kernel
theorem dX12_merge_262 : decode cX12_merge 262 = .ok (.bastore, 1) := by decide +kernel
theorem dX12_merge_263 : decode cX12_merge 263 = .ok (.iinc 5 1, 3) := by decide +kernel
theorem dX12_merge_266 : decode cX12_merge 266 = .ok (.goto (-105), 3) := by decide +kernel
theorem dX12_merge_269 : decode cX12_merge 269 = .ok (.aload_n 0, 1) := by decide +kernel
theorem dX12_merge_270 : decode cX12_merge 270 = .ok (.iload 4, 2) := by decide +kernel
theorem dX12_merge_272 : decode cX12_merge 272 = .ok (.putfield 508, 3) := by decide +kernel
theorem dX12_merge_275 : decode cX12_merge 275 = .ok (.aload_n 0, 1) := by decide +kernel
theorem dX12_merge_276 : decode cX12_merge 276 = .ok (.getfield 126, 3) := by decide +kernel
theorem dX12_merge_279 : decode cX12_merge 279 = .ok (.iload_n 1, 1) := by decide +kernel
theorem dX12_merge_280 : decode cX12_merge 280 = .ok (.iload 4, 2) := by decide +kernel
theorem dX12_merge_282 : decode cX12_merge 282 = .ok (.iastore, 1) := by decide +kernel
theorem dX12_merge_283 : decode cX12_merge 283 = .ok (.iconst 0, 1) := by decide +kernel
theorem dX12_merge_284 : decode cX12_merge 284 = .ok (.ireturn, 1) := by decide +kernel
def f_Md_merge_L229 (k161 : Int32 → Int32 → Int32 → (Nat → Nat → Int32) → (Nat → Nat → Int64) → Option (Int32 × (Nat → Nat → Int32) × (Nat → Nat → Int64))) (l1 : Int32) (l4 : Int32) (l5 : Int32) (l6 : Int32) (s0 : Int32) (I : (Nat → Nat → Int32)) (L : (Nat → Nat → Int64)) : Option (Int32 × (Nat → Nat → Int32) × (Nat → Nat → Int64)) := (if (0 ≤ l6 ∧ l6 < (128 : Int32)) then (if (0 ≤ (((32 : Int32) * l4) + l5) ∧ (((32 : Int32) * l4) + l5) < (16032 : Int32)) then (if (0 ≤ l6 ∧ l6 < (128 : Int32)) then (k161 l1 l4 (l5 + (1 : Int32)) (uI (uI (uI I 72 (l6.toNatClampNeg) s0) 71 ((((32 : Int32) * l4) + l5).toNatClampNeg) s0) 74 (l6.toNatClampNeg) (0 : Int32)) L) else none) else none) else none)
set_option maxRecDepth 100000 in
set_option maxHeartbeats 4000000 in
theorem x_Md_merge_L229 {G : xG} {S : List xSh} {Rf : Nat → Nat → Option Nat} (hT : xTM S Rf) {k161 : Int32 → Int32 → Int32 → (Nat → Nat → Int32) → (Nat → Nat → Int64) → Option (Int32 × (Nat → Nat → Int32) × (Nat → Nat → Int64))} (hk161 : ∀ {l1 : Int32} {l4 : Int32} {l5 : Int32} {I : Nat → Nat → Int32} {L : Nat → Nat → Int64} {q : (Int32 × (Nat → Nat → Int32) × (Nat → Nat → Int64))}, k161 l1 l4 l5 I L = some q → X G 2 m_Md_merge 161 [(0, .ref (xP G 34)), (1, .int l1), (4, .int l4), (5, .int l5)] [] (S, I, L, Rf) (some (.int q.1), (S, q.2.1, q.2.2, Rf))) {l1 : Int32} {l4 : Int32} {l5 : Int32} {l6 : Int32} {s0 : Int32} {I : Nat → Nat → Int32} {L : Nat → Nat → Int64} {q : (Int32 × (Nat → Nat → Int32) × (Nat → Nat → Int64))} (hf : f_Md_merge_L229 k161 l1 l4 l5 l6 s0 I L = some q) : X G 2 m_Md_merge 229 [(0, .ref (xP G 34)), (1, .int l1), (4, .int l4), (5, .int l5), (6, .int l6)] [.int s0] (S, I, L, Rf) (some (.int q.1), (S, q.2.1, q.2.2, Rf)) := by
  replace hf := (f_Md_merge_L229.eq_1 _ _ _ _ _ _ _ _).symm.trans hf
  refine X_istore (pc := 229) [(7, .int s0), (0, .ref (xP G 34)), (1, .int l1), (4, .int l4), (5, .int l5), (6, .int l6)] dX12_merge_229 (by decide) rfl ?_
  refine X_aload_n (pc := 231) (i := 0) 1 dX12_merge_231 rfl rfl ?_
  refine X_getr (pc := 232) (a := 34) (ci := 11) (j := 77) (c := 72) (sh_34 hT) (by decide) k_1305 (rf_34_77 hT) (fun _ h => h) dX12_merge_232 ?_
  refine X_iload (pc := 235) 5 dX12_merge_235 rfl ?_
  refine X_iload (pc := 237) 0 dX12_merge_237 rfl ?_
  obtain ⟨c17, hf⟩ := gd_some hf
  refine X_iastj (pc := 239) (j := (l6.toNatClampNeg)) (sh_72 hT) (vp_in_lit (N := 128) c17 (by decide)) rfl dX12_merge_239 ?_
  refine X_aload_n (pc := 240) (i := 0) 1 dX12_merge_240 rfl rfl ?_
  refine X_getr (pc := 241) (a := 34) (ci := 11) (j := 76) (c := 71) (sh_34 hT) (by decide) k_1304 (rf_34_76 hT) (fun _ h => h) dX12_merge_241 ?_
  refine X_bipush (pc := 244) (32 : Int32) dX12_merge_244 (by decide) ?_
  refine X_iload (pc := 246) 3 dX12_merge_246 rfl ?_
  refine X_imul (pc := 248) dX12_merge_248 ?_
  refine X_iload (pc := 249) 4 dX12_merge_249 rfl ?_
  refine X_iadd (pc := 251) dX12_merge_251 ?_
  refine X_iload (pc := 252) 0 dX12_merge_252 rfl ?_
  obtain ⟨c18, hf⟩ := gd_some hf
  refine X_iastj (pc := 254) (j := ((((32 : Int32) * l4) + l5).toNatClampNeg)) (sh_71 hT) (vp_in_lit (N := 16032) c18 (by decide)) rfl dX12_merge_254 ?_
  refine X_aload_n (pc := 255) (i := 0) 1 dX12_merge_255 rfl rfl ?_
  refine X_getr (pc := 256) (a := 34) (ci := 11) (j := 79) (c := 74) (sh_34 hT) (by decide) k_1307 (rf_34_79 hT) (fun _ h => h) dX12_merge_256 ?_
  refine X_iload (pc := 259) 5 dX12_merge_259 rfl ?_
  refine X_iconst (pc := 261) (0 : Int32) dX12_merge_261 (by decide) ?_
  obtain ⟨c19, hf⟩ := gd_some hf
  refine X_zastj (pc := 262) (j := (l6.toNatClampNeg)) (by decide) (sh_74 hT) (vp_in_lit (N := 128) c19 (by decide)) rfl dX12_merge_262 ?_
  refine X_iinc (pc := 263) (i := 5) (q := 4) (v := (l5 + (1 : Int32))) [(5, .int (l5 + (1 : Int32))), (7, .int s0), (0, .ref (xP G 34)), (1, .int l1), (4, .int l4), (6, .int l6)] dX12_merge_263 rfl rfl (by decide) rfl ?_
  refine X_goto (pc := 266) 161 dX12_merge_266 (by decide) ?_
  exact X_lvs [2, 3, 4, 0] rfl (hk161 hf)
theorem u_Md_merge_L229 {S : List xSh} {k161 : Int32 → Int32 → Int32 → (Nat → Nat → Int32) → (Nat → Nat → Int64) → Option (Int32 × (Nat → Nat → Int32) × (Nat → Nat → Int64))} (hk161 : ∀ {l1 : Int32} {l4 : Int32} {l5 : Int32} {I : Nat → Nat → Int32} {L : Nat → Nat → Int64} {q : (Int32 × (Nat → Nat → Int32) × (Nat → Nat → Int64))}, k161 l1 l4 l5 I L = some q → FR S [71, 72, 73, 74, 4475] [] I q.2.1 L q.2.2) {l1 : Int32} {l4 : Int32} {l5 : Int32} {l6 : Int32} {s0 : Int32} {I : Nat → Nat → Int32} {L : Nat → Nat → Int64} {q : (Int32 × (Nat → Nat → Int32) × (Nat → Nat → Int64))} (hf : f_Md_merge_L229 k161 l1 l4 l5 l6 s0 I L = some q) : FR S [71, 72, 73, 74, 4475] [] I q.2.1 L q.2.2 := by
  replace hf := (f_Md_merge_L229.eq_1 _ _ _ _ _ _ _ _).symm.trans hf
  obtain ⟨c17, hf⟩ := gd_some hf
  obtain ⟨c18, hf⟩ := gd_some hf
  obtain ⟨c19, hf⟩ := gd_some hf
  exact FR.tr (FR.ai (FR.ai (FR.ai FR.rf (by decide)) (by decide)) (by decide)) (hk161 hf) (by decide) (by decide)
def f_Md_merge_L161 : Nat → Int32 → Int32 → Int32 → (Nat → Nat → Int32) → (Nat → Nat → Int64) → Option (Int32 × (Nat → Nat → Int32) × (Nat → Nat → Int64))
  | 0, _, _, _, _, _ => none
  | n + 1, l1, l4, l5, I, L => (if (32 : Int32) ≤ l5 then (if (0 ≤ l1 ∧ l1 < (4 : Int32)) then (some ((0 : Int32), (uI (uI I 34 75 l4) 73 (l1.toNatClampNeg) l4), L)) else none) else (bnd (((32 : Int32) * l1) + l5) fun x10 => (if (0 ≤ x10 ∧ x10 < (128 : Int32)) then (if (0 ≤ l1 ∧ l1 < (4 : Int32)) then (bnd (((32 : Int32) * (I 73 (l1.toNatClampNeg))) + l5) fun x13 => (if (0 ≤ x13 ∧ x13 < (16032 : Int32)) then (if (I 72 (x10.toNatClampNeg)) = (I 71 (x13.toNatClampNeg)) then (if (0 ≤ (((32 : Int32) * (I 34 75)) + l5) ∧ (((32 : Int32) * (I 34 75)) + l5) < (16032 : Int32)) then (f_Md_merge_L229 (f_Md_merge_L161 n) l1 l4 l5 x10 (I 71 ((((32 : Int32) * (I 34 75)) + l5).toNatClampNeg)) I L) else none) else (if (0 ≤ x10 ∧ x10 < (128 : Int32)) then (f_Md_merge_L229 (f_Md_merge_L161 n) l1 l4 l5 x10 (I 72 (x10.toNatClampNeg)) I L) else none)) else none)) else none) else none)))
set_option maxRecDepth 100000 in
set_option maxHeartbeats 4000000 in
theorem x_Md_merge_L161 {G : xG} {S : List xSh} {Rf : Nat → Nat → Option Nat} (hT : xTM S Rf) : ∀ (n : Nat) {l1 : Int32} {l4 : Int32} {l5 : Int32} {I : Nat → Nat → Int32} {L : Nat → Nat → Int64} {q : (Int32 × (Nat → Nat → Int32) × (Nat → Nat → Int64))}, f_Md_merge_L161 n l1 l4 l5 I L = some q → X G 2 m_Md_merge 161 [(0, .ref (xP G 34)), (1, .int l1), (4, .int l4), (5, .int l5)] [] (S, I, L, Rf) (some (.int q.1), (S, q.2.1, q.2.2, Rf)) := by
  intro n
  induction n with
  | zero =>
    intro l1 l4 l5 I L q hf
    exact absurd (show none = some q from hf) (by simp)
  | succ n ih =>
    intro l1 l4 l5 I L q hf
    replace hf := (f_Md_merge_L161.eq_2 _ _ _ _ _ _).symm.trans hf
    refine X_iload (pc := 161) 3 dX12_merge_161 rfl ?_
    refine X_bipush (pc := 163) (32 : Int32) dX12_merge_163 (by decide) ?_
    by_cases c8 : (32 : Int32) ≤ l5
    · replace hf := (if_pos c8).symm.trans hf
      refine X_icmp_ge_t (pc := 165) 269 dX12_merge_165 (by decide) c8 ?_
      refine X_aload_n (pc := 269) (i := 0) 0 dX12_merge_269 rfl rfl ?_
      refine X_iload (pc := 270) 2 dX12_merge_270 rfl ?_
      refine X_puti (pc := 272) (a := 34) (ci := 11) (j := 75) 75 rfl false (sh_34 hT) (by decide) k_1303 rfl (fun h => by cases h) rfl dX12_merge_272 ?_
      refine X_aload_n (pc := 275) (i := 0) 0 dX12_merge_275 rfl rfl ?_
      refine X_getr (pc := 276) (a := 34) (ci := 11) (j := 78) (c := 73) (sh_34 hT) (by decide) k_1306 (rf_34_78 hT) (fun _ h => h) dX12_merge_276 ?_
      refine X_iload_n (pc := 279) (i := 1) 1 dX12_merge_279 rfl rfl ?_
      refine X_iload (pc := 280) 2 dX12_merge_280 rfl ?_
      obtain ⟨c9, hf⟩ := gd_some hf
      refine X_iastj (pc := 282) (j := (l1.toNatClampNeg)) (sh_73 hT) (vp_in_lit (N := 4) c9 (by decide)) rfl dX12_merge_282 ?_
      refine X_iconst (pc := 283) (0 : Int32) dX12_merge_283 (by decide) ?_
      cases hf
      exact X_ireturn (pc := 284) rfl dX12_merge_284
    · replace hf := (if_neg c8).symm.trans hf
      refine X_icmp_ge_f (pc := 165) 269 dX12_merge_165 (by decide) c8 ?_
      refine X_bipush (pc := 168) (32 : Int32) dX12_merge_168 (by decide) ?_
      refine X_iload_n (pc := 170) (i := 1) 1 dX12_merge_170 rfl rfl ?_
      refine X_imul (pc := 171) dX12_merge_171 ?_
      refine X_iload (pc := 172) 3 dX12_merge_172 rfl ?_
      refine X_iadd (pc := 174) dX12_merge_174 ?_
      obtain ⟨x10, ex10, hf⟩ := bnd_e hf
      refine X_tope ex10 ?_
      refine X_istore (pc := 175) [(6, .int x10), (0, .ref (xP G 34)), (1, .int l1), (4, .int l4), (5, .int l5)] dX12_merge_175 (by decide) rfl ?_
      refine X_aload_n (pc := 177) (i := 0) 1 dX12_merge_177 rfl rfl ?_
      refine X_getr (pc := 178) (a := 34) (ci := 11) (j := 77) (c := 72) (sh_34 hT) (by decide) k_1305 (rf_34_77 hT) (fun _ h => h) dX12_merge_178 ?_
      refine X_iload (pc := 181) 0 dX12_merge_181 rfl ?_
      obtain ⟨c11, hf⟩ := gd_some hf
      refine X_ialdj (pc := 183) (j := x10.toNatClampNeg) (I 72 (x10.toNatClampNeg)) (sh_72 hT) (vp_in_lit (N := 128) c11 (by decide)) rfl rfl dX12_merge_183 ?_
      refine X_aload_n (pc := 184) (i := 0) 1 dX12_merge_184 rfl rfl ?_
      refine X_getr (pc := 185) (a := 34) (ci := 11) (j := 76) (c := 71) (sh_34 hT) (by decide) k_1304 (rf_34_76 hT) (fun _ h => h) dX12_merge_185 ?_
      refine X_bipush (pc := 188) (32 : Int32) dX12_merge_188 (by decide) ?_
      refine X_aload_n (pc := 190) (i := 0) 1 dX12_merge_190 rfl rfl ?_
      refine X_getr (pc := 191) (a := 34) (ci := 11) (j := 78) (c := 73) (sh_34 hT) (by decide) k_1306 (rf_34_78 hT) (fun _ h => h) dX12_merge_191 ?_
      refine X_iload_n (pc := 194) (i := 1) 2 dX12_merge_194 rfl rfl ?_
      obtain ⟨c12, hf⟩ := gd_some hf
      refine X_ialdj (pc := 195) (j := l1.toNatClampNeg) (I 73 (l1.toNatClampNeg)) (sh_73 hT) (vp_in_lit (N := 4) c12 (by decide)) rfl rfl dX12_merge_195 ?_
      refine X_imul (pc := 196) dX12_merge_196 ?_
      refine X_iload (pc := 197) 4 dX12_merge_197 rfl ?_
      refine X_iadd (pc := 199) dX12_merge_199 ?_
      obtain ⟨x13, ex13, hf⟩ := bnd_e hf
      refine X_tope ex13 ?_
      obtain ⟨c14, hf⟩ := gd_some hf
      refine X_ialdj (pc := 200) (j := x13.toNatClampNeg) (I 71 (x13.toNatClampNeg)) (sh_71 hT) (vp_in_lit (N := 16032) c14 (by decide)) rfl rfl dX12_merge_200 ?_
      by_cases c15 : (I 72 (x10.toNatClampNeg)) = (I 71 (x13.toNatClampNeg))
      · replace hf := (if_pos c15).symm.trans hf
        refine X_icmp_ne_f (pc := 201) 222 dX12_merge_201 (by decide) c15 ?_
        refine X_aload_n (pc := 204) (i := 0) 1 dX12_merge_204 rfl rfl ?_
        refine X_getr (pc := 205) (a := 34) (ci := 11) (j := 76) (c := 71) (sh_34 hT) (by decide) k_1304 (rf_34_76 hT) (fun _ h => h) dX12_merge_205 ?_
        refine X_bipush (pc := 208) (32 : Int32) dX12_merge_208 (by decide) ?_
        refine X_aload_n (pc := 210) (i := 0) 1 dX12_merge_210 rfl rfl ?_
        refine X_get (pc := 211) (a := 34) (ci := 11) (j := 75) (.int (I 34 75)) (sh_34 hT) (by decide) k_1303 rfl dX12_merge_211 ?_
        refine X_imul (pc := 214) dX12_merge_214 ?_
        refine X_iload (pc := 215) 4 dX12_merge_215 rfl ?_
        refine X_iadd (pc := 217) dX12_merge_217 ?_
        obtain ⟨c16, hf⟩ := gd_some hf
        refine X_ialdj (pc := 218) (j := (((32 : Int32) * (I 34 75)) + l5).toNatClampNeg) (I 71 ((((32 : Int32) * (I 34 75)) + l5).toNatClampNeg)) (sh_71 hT) (vp_in_lit (N := 16032) c16 (by decide)) rfl rfl dX12_merge_218 ?_
        refine X_goto (pc := 219) 229 dX12_merge_219 (by decide) ?_
        exact X_lvs [1, 2, 3, 4, 0] rfl (x_Md_merge_L229 hT ih hf)
      · replace hf := (if_neg c15).symm.trans hf
        refine X_icmp_ne_t (pc := 201) 222 dX12_merge_201 (by decide) c15 ?_
        refine X_aload_n (pc := 222) (i := 0) 1 dX12_merge_222 rfl rfl ?_
        refine X_getr (pc := 223) (a := 34) (ci := 11) (j := 77) (c := 72) (sh_34 hT) (by decide) k_1305 (rf_34_77 hT) (fun _ h => h) dX12_merge_223 ?_
        refine X_iload (pc := 226) 0 dX12_merge_226 rfl ?_
        obtain ⟨c20, hf⟩ := gd_some hf
        refine X_ialdj (pc := 228) (j := x10.toNatClampNeg) (I 72 (x10.toNatClampNeg)) (sh_72 hT) (vp_in_lit (N := 128) c20 (by decide)) rfl rfl dX12_merge_228 ?_
        exact X_lvs [1, 2, 3, 4, 0] rfl (x_Md_merge_L229 hT ih hf)
theorem u_Md_merge_L161 {S : List xSh} : ∀ (n : Nat) {l1 : Int32} {l4 : Int32} {l5 : Int32} {I : Nat → Nat → Int32} {L : Nat → Nat → Int64} {q : (Int32 × (Nat → Nat → Int32) × (Nat → Nat → Int64))}, f_Md_merge_L161 n l1 l4 l5 I L = some q → FR S [71, 72, 73, 74, 4475] [] I q.2.1 L q.2.2 := by
  intro n
  induction n with
  | zero =>
    intro l1 l4 l5 I L q hf
    exact absurd (show none = some q from hf) (by simp)
  | succ n ih =>
    intro l1 l4 l5 I L q hf
    replace hf := (f_Md_merge_L161.eq_2 _ _ _ _ _ _).symm.trans hf
    by_cases c8 : (32 : Int32) ≤ l5
    · replace hf := (if_pos c8).symm.trans hf
      obtain ⟨c9, hf⟩ := gd_some hf
      cases hf
      exact (FR.ai (FR.fi FR.rf (by decide)) (by decide))
    · replace hf := (if_neg c8).symm.trans hf
      obtain ⟨x10, ex10, hf⟩ := bnd_e hf
      obtain ⟨c11, hf⟩ := gd_some hf
      obtain ⟨c12, hf⟩ := gd_some hf
      obtain ⟨x13, ex13, hf⟩ := bnd_e hf
      obtain ⟨c14, hf⟩ := gd_some hf
      by_cases c15 : (I 72 (x10.toNatClampNeg)) = (I 71 (x13.toNatClampNeg))
      · replace hf := (if_pos c15).symm.trans hf
        obtain ⟨c16, hf⟩ := gd_some hf
        exact FR.tr FR.rf (u_Md_merge_L229 ih hf) (by decide) (by decide)
      · replace hf := (if_neg c15).symm.trans hf
        obtain ⟨c20, hf⟩ := gd_some hf
        exact FR.tr FR.rf (u_Md_merge_L229 ih hf) (by decide) (by decide)
def f_Md_merge_L139 (l1 : Int32) (l3 : Int32) (I : (Nat → Nat → Int32)) (L : (Nat → Nat → Int64)) : Option (Int32 × (Nat → Nat → Int32) × (Nat → Nat → Int64)) := (if l3 = (0 : Int32) then (bnd (I 34 75) fun x7 => (f_Md_merge_L161 xF l1 x7 (0 : Int32) I L)) else (bnd ((I 34 75) + (1 : Int32)) fun x21 => (f_Md_merge_L161 xF l1 x21 (0 : Int32) I L)))
set_option maxRecDepth 100000 in
set_option maxHeartbeats 4000000 in
theorem x_Md_merge_L139 {G : xG} {S : List xSh} {Rf : Nat → Nat → Option Nat} (hT : xTM S Rf) {l1 : Int32} {l3 : Int32} {I : Nat → Nat → Int32} {L : Nat → Nat → Int64} {q : (Int32 × (Nat → Nat → Int32) × (Nat → Nat → Int64))} (hf : f_Md_merge_L139 l1 l3 I L = some q) : X G 2 m_Md_merge 139 [(0, .ref (xP G 34)), (1, .int l1), (3, .int l3)] [] (S, I, L, Rf) (some (.int q.1), (S, q.2.1, q.2.2, Rf)) := by
  replace hf := (f_Md_merge_L139.eq_1 _ _ _ _).symm.trans hf
  refine X_iload_n (pc := 139) (i := 3) 2 dX12_merge_139 rfl rfl ?_
  by_cases c6 : l3 = (0 : Int32)
  · replace hf := (if_pos c6).symm.trans hf
    refine X_if_eq_t (pc := 140) 152 dX12_merge_140 (by decide) c6 ?_
    refine X_aload_n (pc := 152) (i := 0) 0 dX12_merge_152 rfl rfl ?_
    refine X_get (pc := 153) (a := 34) (ci := 11) (j := 75) (.int (I 34 75)) (sh_34 hT) (by decide) k_1303 rfl dX12_merge_153 ?_
    obtain ⟨x7, ex7, hf⟩ := bnd_e hf
    refine X_tope ex7 ?_
    refine X_istore (pc := 156) [(4, .int x7), (0, .ref (xP G 34)), (1, .int l1), (3, .int l3)] dX12_merge_156 (by decide) rfl ?_
    refine X_iconst (pc := 158) (0 : Int32) dX12_merge_158 (by decide) ?_
    refine X_istore (pc := 159) [(5, .int (0 : Int32)), (4, .int x7), (0, .ref (xP G 34)), (1, .int l1), (3, .int l3)] dX12_merge_159 (by decide) rfl ?_
    exact X_lvs [2, 3, 1, 0] rfl (x_Md_merge_L161 hT xF hf)
  · replace hf := (if_neg c6).symm.trans hf
    refine X_if_eq_f (pc := 140) 152 dX12_merge_140 (by decide) c6 ?_
    refine X_aload_n (pc := 143) (i := 0) 0 dX12_merge_143 rfl rfl ?_
    refine X_get (pc := 144) (a := 34) (ci := 11) (j := 75) (.int (I 34 75)) (sh_34 hT) (by decide) k_1303 rfl dX12_merge_144 ?_
    refine X_iconst (pc := 147) (1 : Int32) dX12_merge_147 (by decide) ?_
    refine X_iadd (pc := 148) dX12_merge_148 ?_
    refine X_goto (pc := 149) 156 dX12_merge_149 (by decide) ?_
    obtain ⟨x21, ex21, hf⟩ := bnd_e hf
    refine X_tope ex21 ?_
    refine X_istore (pc := 156) [(4, .int x21), (0, .ref (xP G 34)), (1, .int l1), (3, .int l3)] dX12_merge_156 (by decide) rfl ?_
    refine X_iconst (pc := 158) (0 : Int32) dX12_merge_158 (by decide) ?_
    refine X_istore (pc := 159) [(5, .int (0 : Int32)), (4, .int x21), (0, .ref (xP G 34)), (1, .int l1), (3, .int l3)] dX12_merge_159 (by decide) rfl ?_
    exact X_lvs [2, 3, 1, 0] rfl (x_Md_merge_L161 hT xF hf)
theorem u_Md_merge_L139 {S : List xSh} {l1 : Int32} {l3 : Int32} {I : Nat → Nat → Int32} {L : Nat → Nat → Int64} {q : (Int32 × (Nat → Nat → Int32) × (Nat → Nat → Int64))} (hf : f_Md_merge_L139 l1 l3 I L = some q) : FR S [71, 72, 73, 74, 4475] [] I q.2.1 L q.2.2 := by
  replace hf := (f_Md_merge_L139.eq_1 _ _ _ _).symm.trans hf
  by_cases c6 : l3 = (0 : Int32)
  · replace hf := (if_pos c6).symm.trans hf
    obtain ⟨x7, ex7, hf⟩ := bnd_e hf
    exact FR.tr FR.rf (u_Md_merge_L161 xF hf) (by decide) (by decide)
  · replace hf := (if_neg c6).symm.trans hf
    obtain ⟨x21, ex21, hf⟩ := bnd_e hf
    exact FR.tr FR.rf (u_Md_merge_L161 xF hf) (by decide) (by decide)
def f_Md_merge_L44 (k21 : Int32 → Int32 → Int32 → Int32 → (Nat → Nat → Int32) → (Nat → Nat → Int64) → Option (Int32 × (Nat → Nat → Int32) × (Nat → Nat → Int64))) (l1 : Int32) (l3 : Int32) (l4 : Int32) (s0 : Int32) (s1 : Int32) (I : (Nat → Nat → Int32)) (L : (Nat → Nat → Int64)) : Option (Int32 × (Nat → Nat → Int32) × (Nat → Nat → Int64)) := (bnd (s0 + s1) fun x26 => (if (0 ≤ (((32 : Int32) * l1) + l4) ∧ (((32 : Int32) * l1) + l4) < (128 : Int32)) then (bnd (I 72 ((((32 : Int32) * l1) + l4).toNatClampNeg)) fun x28 => (if (0 ≤ l1 ∧ l1 < (4 : Int32)) then (bnd (((32 : Int32) * (I 73 (l1.toNatClampNeg))) + l4) fun x30 => (if (0 ≤ x30 ∧ x30 < (16032 : Int32)) then (if x28 = (I 71 (x30.toNatClampNeg)) then (bnd (l3 ||| (0 : Int32)) fun x33 => (k21 l1 x26 x33 (l4 + (1 : Int32)) I L)) else (if (0 ≤ (((32 : Int32) * (I 34 75)) + l4) ∧ (((32 : Int32) * (I 34 75)) + l4) < (16032 : Int32)) then (if x28 = (I 71 ((((32 : Int32) * (I 34 75)) + l4).toNatClampNeg)) then (bnd (l3 ||| (0 : Int32)) fun x36 => (k21 l1 x26 x36 (l4 + (1 : Int32)) I L)) else (bnd (l3 ||| (1 : Int32)) fun x37 => (k21 l1 x26 x37 (l4 + (1 : Int32)) I L))) else none)) else none)) else none)) else none))
set_option maxRecDepth 100000 in
set_option maxHeartbeats 4000000 in
theorem x_Md_merge_L44 {G : xG} {S : List xSh} {Rf : Nat → Nat → Option Nat} (hT : xTM S Rf) {k21 : Int32 → Int32 → Int32 → Int32 → (Nat → Nat → Int32) → (Nat → Nat → Int64) → Option (Int32 × (Nat → Nat → Int32) × (Nat → Nat → Int64))} (hk21 : ∀ {l1 : Int32} {l2 : Int32} {l3 : Int32} {l4 : Int32} {I : Nat → Nat → Int32} {L : Nat → Nat → Int64} {q : (Int32 × (Nat → Nat → Int32) × (Nat → Nat → Int64))}, k21 l1 l2 l3 l4 I L = some q → X G 2 m_Md_merge 21 [(0, .ref (xP G 34)), (1, .int l1), (2, .int l2), (3, .int l3), (4, .int l4)] [] (S, I, L, Rf) (some (.int q.1), (S, q.2.1, q.2.2, Rf))) {l1 : Int32} {l3 : Int32} {l4 : Int32} {s0 : Int32} {s1 : Int32} {I : Nat → Nat → Int32} {L : Nat → Nat → Int64} {q : (Int32 × (Nat → Nat → Int32) × (Nat → Nat → Int64))} (hf : f_Md_merge_L44 k21 l1 l3 l4 s0 s1 I L = some q) : X G 2 m_Md_merge 44 [(0, .ref (xP G 34)), (1, .int l1), (3, .int l3), (4, .int l4)] [.int s1, .int s0] (S, I, L, Rf) (some (.int q.1), (S, q.2.1, q.2.2, Rf)) := by
  replace hf := (f_Md_merge_L44.eq_1 _ _ _ _ _ _ _ _).symm.trans hf
  refine X_iadd (pc := 44) dX12_merge_44 ?_
  obtain ⟨x26, ex26, hf⟩ := bnd_e hf
  refine X_tope ex26 ?_
  refine X_istore_n (pc := 45) (i := 2) [(2, .int x26), (0, .ref (xP G 34)), (1, .int l1), (3, .int l3), (4, .int l4)] dX12_merge_45 rfl (by decide) rfl ?_
  refine X_aload_n (pc := 46) (i := 0) 1 dX12_merge_46 rfl rfl ?_
  refine X_getr (pc := 47) (a := 34) (ci := 11) (j := 77) (c := 72) (sh_34 hT) (by decide) k_1305 (rf_34_77 hT) (fun _ h => h) dX12_merge_47 ?_
  refine X_bipush (pc := 50) (32 : Int32) dX12_merge_50 (by decide) ?_
  refine X_iload_n (pc := 52) (i := 1) 2 dX12_merge_52 rfl rfl ?_
  refine X_imul (pc := 53) dX12_merge_53 ?_
  refine X_iload (pc := 54) 4 dX12_merge_54 rfl ?_
  refine X_iadd (pc := 56) dX12_merge_56 ?_
  obtain ⟨c27, hf⟩ := gd_some hf
  refine X_ialdj (pc := 57) (j := (((32 : Int32) * l1) + l4).toNatClampNeg) (I 72 ((((32 : Int32) * l1) + l4).toNatClampNeg)) (sh_72 hT) (vp_in_lit (N := 128) c27 (by decide)) rfl rfl dX12_merge_57 ?_
  obtain ⟨x28, ex28, hf⟩ := bnd_e hf
  refine X_tope ex28 ?_
  refine X_istore (pc := 58) [(5, .int x28), (2, .int x26), (0, .ref (xP G 34)), (1, .int l1), (3, .int l3), (4, .int l4)] dX12_merge_58 (by decide) rfl ?_
  refine X_iload_n (pc := 60) (i := 3) 4 dX12_merge_60 rfl rfl ?_
  refine X_iload (pc := 61) 0 dX12_merge_61 rfl ?_
  refine X_aload_n (pc := 63) (i := 0) 2 dX12_merge_63 rfl rfl ?_
  refine X_getr (pc := 64) (a := 34) (ci := 11) (j := 76) (c := 71) (sh_34 hT) (by decide) k_1304 (rf_34_76 hT) (fun _ h => h) dX12_merge_64 ?_
  refine X_bipush (pc := 67) (32 : Int32) dX12_merge_67 (by decide) ?_
  refine X_aload_n (pc := 69) (i := 0) 2 dX12_merge_69 rfl rfl ?_
  refine X_getr (pc := 70) (a := 34) (ci := 11) (j := 78) (c := 73) (sh_34 hT) (by decide) k_1306 (rf_34_78 hT) (fun _ h => h) dX12_merge_70 ?_
  refine X_iload_n (pc := 73) (i := 1) 3 dX12_merge_73 rfl rfl ?_
  obtain ⟨c29, hf⟩ := gd_some hf
  refine X_ialdj (pc := 74) (j := l1.toNatClampNeg) (I 73 (l1.toNatClampNeg)) (sh_73 hT) (vp_in_lit (N := 4) c29 (by decide)) rfl rfl dX12_merge_74 ?_
  refine X_imul (pc := 75) dX12_merge_75 ?_
  refine X_iload (pc := 76) 5 dX12_merge_76 rfl ?_
  refine X_iadd (pc := 78) dX12_merge_78 ?_
  obtain ⟨x30, ex30, hf⟩ := bnd_e hf
  refine X_tope ex30 ?_
  obtain ⟨c31, hf⟩ := gd_some hf
  refine X_ialdj (pc := 79) (j := x30.toNatClampNeg) (I 71 (x30.toNatClampNeg)) (sh_71 hT) (vp_in_lit (N := 16032) c31 (by decide)) rfl rfl dX12_merge_79 ?_
  by_cases c32 : x28 = (I 71 (x30.toNatClampNeg))
  · replace hf := (if_pos c32).symm.trans hf
    refine X_icmp_eq_t (pc := 80) 107 dX12_merge_80 (by decide) c32 ?_
    refine X_iconst (pc := 107) (0 : Int32) dX12_merge_107 (by decide) ?_
    refine X_ior (pc := 108) dX12_merge_108 ?_
    obtain ⟨x33, ex33, hf⟩ := bnd_e hf
    refine X_tope ex33 ?_
    refine X_istore_n (pc := 109) (i := 3) [(3, .int x33), (5, .int x28), (2, .int x26), (0, .ref (xP G 34)), (1, .int l1), (4, .int l4)] dX12_merge_109 rfl (by decide) rfl ?_
    refine X_iinc (pc := 110) (i := 4) (q := 5) (v := (l4 + (1 : Int32))) [(4, .int (l4 + (1 : Int32))), (3, .int x33), (5, .int x28), (2, .int x26), (0, .ref (xP G 34)), (1, .int l1)] dX12_merge_110 rfl rfl (by decide) rfl ?_
    refine X_goto (pc := 113) 21 dX12_merge_113 (by decide) ?_
    exact X_lvs [4, 5, 3, 1, 0] rfl (hk21 hf)
  · replace hf := (if_neg c32).symm.trans hf
    refine X_icmp_eq_f (pc := 80) 107 dX12_merge_80 (by decide) c32 ?_
    refine X_iload (pc := 83) 0 dX12_merge_83 rfl ?_
    refine X_aload_n (pc := 85) (i := 0) 2 dX12_merge_85 rfl rfl ?_
    refine X_getr (pc := 86) (a := 34) (ci := 11) (j := 76) (c := 71) (sh_34 hT) (by decide) k_1304 (rf_34_76 hT) (fun _ h => h) dX12_merge_86 ?_
    refine X_bipush (pc := 89) (32 : Int32) dX12_merge_89 (by decide) ?_
    refine X_aload_n (pc := 91) (i := 0) 2 dX12_merge_91 rfl rfl ?_
    refine X_get (pc := 92) (a := 34) (ci := 11) (j := 75) (.int (I 34 75)) (sh_34 hT) (by decide) k_1303 rfl dX12_merge_92 ?_
    refine X_imul (pc := 95) dX12_merge_95 ?_
    refine X_iload (pc := 96) 5 dX12_merge_96 rfl ?_
    refine X_iadd (pc := 98) dX12_merge_98 ?_
    obtain ⟨c34, hf⟩ := gd_some hf
    refine X_ialdj (pc := 99) (j := (((32 : Int32) * (I 34 75)) + l4).toNatClampNeg) (I 71 ((((32 : Int32) * (I 34 75)) + l4).toNatClampNeg)) (sh_71 hT) (vp_in_lit (N := 16032) c34 (by decide)) rfl rfl dX12_merge_99 ?_
    by_cases c35 : x28 = (I 71 ((((32 : Int32) * (I 34 75)) + l4).toNatClampNeg))
    · replace hf := (if_pos c35).symm.trans hf
      refine X_icmp_eq_t (pc := 100) 107 dX12_merge_100 (by decide) c35 ?_
      refine X_iconst (pc := 107) (0 : Int32) dX12_merge_107 (by decide) ?_
      refine X_ior (pc := 108) dX12_merge_108 ?_
      obtain ⟨x36, ex36, hf⟩ := bnd_e hf
      refine X_tope ex36 ?_
      refine X_istore_n (pc := 109) (i := 3) [(3, .int x36), (5, .int x28), (2, .int x26), (0, .ref (xP G 34)), (1, .int l1), (4, .int l4)] dX12_merge_109 rfl (by decide) rfl ?_
      refine X_iinc (pc := 110) (i := 4) (q := 5) (v := (l4 + (1 : Int32))) [(4, .int (l4 + (1 : Int32))), (3, .int x36), (5, .int x28), (2, .int x26), (0, .ref (xP G 34)), (1, .int l1)] dX12_merge_110 rfl rfl (by decide) rfl ?_
      refine X_goto (pc := 113) 21 dX12_merge_113 (by decide) ?_
      exact X_lvs [4, 5, 3, 1, 0] rfl (hk21 hf)
    · replace hf := (if_neg c35).symm.trans hf
      refine X_icmp_eq_f (pc := 100) 107 dX12_merge_100 (by decide) c35 ?_
      refine X_iconst (pc := 103) (1 : Int32) dX12_merge_103 (by decide) ?_
      refine X_goto (pc := 104) 108 dX12_merge_104 (by decide) ?_
      refine X_ior (pc := 108) dX12_merge_108 ?_
      obtain ⟨x37, ex37, hf⟩ := bnd_e hf
      refine X_tope ex37 ?_
      refine X_istore_n (pc := 109) (i := 3) [(3, .int x37), (5, .int x28), (2, .int x26), (0, .ref (xP G 34)), (1, .int l1), (4, .int l4)] dX12_merge_109 rfl (by decide) rfl ?_
      refine X_iinc (pc := 110) (i := 4) (q := 5) (v := (l4 + (1 : Int32))) [(4, .int (l4 + (1 : Int32))), (3, .int x37), (5, .int x28), (2, .int x26), (0, .ref (xP G 34)), (1, .int l1)] dX12_merge_110 rfl rfl (by decide) rfl ?_
      refine X_goto (pc := 113) 21 dX12_merge_113 (by decide) ?_
      exact X_lvs [4, 5, 3, 1, 0] rfl (hk21 hf)
theorem u_Md_merge_L44 {S : List xSh} {k21 : Int32 → Int32 → Int32 → Int32 → (Nat → Nat → Int32) → (Nat → Nat → Int64) → Option (Int32 × (Nat → Nat → Int32) × (Nat → Nat → Int64))} (hk21 : ∀ {l1 : Int32} {l2 : Int32} {l3 : Int32} {l4 : Int32} {I : Nat → Nat → Int32} {L : Nat → Nat → Int64} {q : (Int32 × (Nat → Nat → Int32) × (Nat → Nat → Int64))}, k21 l1 l2 l3 l4 I L = some q → FR S [71, 72, 73, 74, 4475] [] I q.2.1 L q.2.2) {l1 : Int32} {l3 : Int32} {l4 : Int32} {s0 : Int32} {s1 : Int32} {I : Nat → Nat → Int32} {L : Nat → Nat → Int64} {q : (Int32 × (Nat → Nat → Int32) × (Nat → Nat → Int64))} (hf : f_Md_merge_L44 k21 l1 l3 l4 s0 s1 I L = some q) : FR S [71, 72, 73, 74, 4475] [] I q.2.1 L q.2.2 := by
  replace hf := (f_Md_merge_L44.eq_1 _ _ _ _ _ _ _ _).symm.trans hf
  obtain ⟨x26, ex26, hf⟩ := bnd_e hf
  obtain ⟨c27, hf⟩ := gd_some hf
  obtain ⟨x28, ex28, hf⟩ := bnd_e hf
  obtain ⟨c29, hf⟩ := gd_some hf
  obtain ⟨x30, ex30, hf⟩ := bnd_e hf
  obtain ⟨c31, hf⟩ := gd_some hf
  by_cases c32 : x28 = (I 71 (x30.toNatClampNeg))
  · replace hf := (if_pos c32).symm.trans hf
    obtain ⟨x33, ex33, hf⟩ := bnd_e hf
    exact FR.tr FR.rf (hk21 hf) (by decide) (by decide)
  · replace hf := (if_neg c32).symm.trans hf
    obtain ⟨c34, hf⟩ := gd_some hf
    by_cases c35 : x28 = (I 71 ((((32 : Int32) * (I 34 75)) + l4).toNatClampNeg))
    · replace hf := (if_pos c35).symm.trans hf
      obtain ⟨x36, ex36, hf⟩ := bnd_e hf
      exact FR.tr FR.rf (hk21 hf) (by decide) (by decide)
    · replace hf := (if_neg c35).symm.trans hf
      obtain ⟨x37, ex37, hf⟩ := bnd_e hf
      exact FR.tr FR.rf (hk21 hf) (by decide) (by decide)
def f_Md_merge_L21 : Nat → Int32 → Int32 → Int32 → Int32 → (Nat → Nat → Int32) → (Nat → Nat → Int64) → Option (Int32 × (Nat → Nat → Int32) × (Nat → Nat → Int64))
  | 0, _, _, _, _, _, _ => none
  | n + 1, l1, l2, l3, l4, I, L => (if (32 : Int32) ≤ l4 then (if l2 ≤ (0 : Int32) then (if l3 = (0 : Int32) then (f_Md_merge_L139 l1 l3 I L) else (if (I 34 75) = (500 : Int32) then (some ((-3 : Int32), I, L)) else (f_Md_merge_L139 l1 l3 I L))) else (some (l2, I, L))) else ((f_Md_isConflict l1 l4 I L).bind fun q23 => (if q23 = (0 : Int32) then (f_Md_merge_L44 (f_Md_merge_L21 n) l1 l3 l4 l2 (0 : Int32) I L) else (f_Md_merge_L44 (f_Md_merge_L21 n) l1 l3 l4 l2 (1 : Int32) I L))))
set_option maxRecDepth 100000 in
set_option maxHeartbeats 4000000 in
theorem x_Md_merge_L21 {G : xG} {S : List xSh} {Rf : Nat → Nat → Option Nat} (hT : xTM S Rf) : ∀ (n : Nat) {l1 : Int32} {l2 : Int32} {l3 : Int32} {l4 : Int32} {I : Nat → Nat → Int32} {L : Nat → Nat → Int64} {q : (Int32 × (Nat → Nat → Int32) × (Nat → Nat → Int64))}, f_Md_merge_L21 n l1 l2 l3 l4 I L = some q → X G 2 m_Md_merge 21 [(0, .ref (xP G 34)), (1, .int l1), (2, .int l2), (3, .int l3), (4, .int l4)] [] (S, I, L, Rf) (some (.int q.1), (S, q.2.1, q.2.2, Rf)) := by
  intro n
  induction n with
  | zero =>
    intro l1 l2 l3 l4 I L q hf
    exact absurd (show none = some q from hf) (by simp)
  | succ n ih =>
    intro l1 l2 l3 l4 I L q hf
    replace hf := (f_Md_merge_L21.eq_2 _ _ _ _ _ _ _).symm.trans hf
    refine X_iload (pc := 21) 4 dX12_merge_21 rfl ?_
    refine X_bipush (pc := 23) (32 : Int32) dX12_merge_23 (by decide) ?_
    by_cases c3 : (32 : Int32) ≤ l4
    · replace hf := (if_pos c3).symm.trans hf
      refine X_icmp_ge_t (pc := 25) 116 dX12_merge_25 (by decide) c3 ?_
      refine X_iload_n (pc := 116) (i := 2) 2 dX12_merge_116 rfl rfl ?_
      by_cases c4 : l2 ≤ (0 : Int32)
      · replace hf := (if_pos c4).symm.trans hf
        refine X_if_le_t (pc := 117) 122 dX12_merge_117 (by decide) c4 ?_
        refine X_iload_n (pc := 122) (i := 3) 3 dX12_merge_122 rfl rfl ?_
        by_cases c5 : l3 = (0 : Int32)
        · replace hf := (if_pos c5).symm.trans hf
          refine X_if_eq_t (pc := 123) 139 dX12_merge_123 (by decide) c5 ?_
          exact X_lvs [0, 1, 3] rfl (x_Md_merge_L139 hT hf)
        · replace hf := (if_neg c5).symm.trans hf
          refine X_if_eq_f (pc := 123) 139 dX12_merge_123 (by decide) c5 ?_
          refine X_aload_n (pc := 126) (i := 0) 0 dX12_merge_126 rfl rfl ?_
          refine X_get (pc := 127) (a := 34) (ci := 11) (j := 75) (.int (I 34 75)) (sh_34 hT) (by decide) k_1303 rfl dX12_merge_127 ?_
          refine X_sipush (pc := 130) (500 : Int32) dX12_merge_130 (by decide) ?_
          by_cases c22 : (I 34 75) = (500 : Int32)
          · replace hf := (if_pos c22).symm.trans hf
            refine X_icmp_ne_f (pc := 133) 139 dX12_merge_133 (by decide) c22 ?_
            refine X_bipush (pc := 136) (-3 : Int32) dX12_merge_136 (by decide) ?_
            cases hf
            exact X_ireturn (pc := 138) rfl dX12_merge_138
          · replace hf := (if_neg c22).symm.trans hf
            refine X_icmp_ne_t (pc := 133) 139 dX12_merge_133 (by decide) c22 ?_
            exact X_lvs [0, 1, 3] rfl (x_Md_merge_L139 hT hf)
      · replace hf := (if_neg c4).symm.trans hf
        refine X_if_le_f (pc := 117) 122 dX12_merge_117 (by decide) c4 ?_
        refine X_iload_n (pc := 120) (i := 2) 2 dX12_merge_120 rfl rfl ?_
        cases hf
        exact X_ireturn (pc := 121) rfl dX12_merge_121
    · replace hf := (if_neg c3).symm.trans hf
      refine X_icmp_ge_f (pc := 25) 116 dX12_merge_25 (by decide) c3 ?_
      refine X_iload_n (pc := 28) (i := 2) 2 dX12_merge_28 rfl rfl ?_
      refine X_aload_n (pc := 29) (i := 0) 0 dX12_merge_29 rfl rfl ?_
      refine X_iload_n (pc := 30) (i := 1) 1 dX12_merge_30 rfl rfl ?_
      refine X_iload (pc := 31) 4 dX12_merge_31 rfl ?_
      obtain ⟨q23, c24, hf⟩ := bd_some hf
      refine X_invV_i (pc := 33) (c_Md_isConflict hT c24) ok_Md_isConflict (ci := 11) (sh_34 hT) k_1796 k_1798 k_69 nd_25 (by decide) rfl (Nat.le_of_ble_eq_true rfl) dX12_merge_33 ?_
      by_cases c25 : q23 = (0 : Int32)
      · replace hf := (if_pos c25).symm.trans hf
        refine X_if_eq_t (pc := 36) 43 dX12_merge_36 (by decide) c25 ?_
        refine X_iconst (pc := 43) (0 : Int32) dX12_merge_43 (by decide) ?_
        exact X_lvs [0, 1, 3, 4] rfl (x_Md_merge_L44 hT ih hf)
      · replace hf := (if_neg c25).symm.trans hf
        refine X_if_eq_f (pc := 36) 43 dX12_merge_36 (by decide) c25 ?_
        refine X_iconst (pc := 39) (1 : Int32) dX12_merge_39 (by decide) ?_
        refine X_goto (pc := 40) 44 dX12_merge_40 (by decide) ?_
        exact X_lvs [0, 1, 3, 4] rfl (x_Md_merge_L44 hT ih hf)
theorem u_Md_merge_L21 {S : List xSh} : ∀ (n : Nat) {l1 : Int32} {l2 : Int32} {l3 : Int32} {l4 : Int32} {I : Nat → Nat → Int32} {L : Nat → Nat → Int64} {q : (Int32 × (Nat → Nat → Int32) × (Nat → Nat → Int64))}, f_Md_merge_L21 n l1 l2 l3 l4 I L = some q → FR S [71, 72, 73, 74, 4475] [] I q.2.1 L q.2.2 := by
  intro n
  induction n with
  | zero =>
    intro l1 l2 l3 l4 I L q hf
    exact absurd (show none = some q from hf) (by simp)
  | succ n ih =>
    intro l1 l2 l3 l4 I L q hf
    replace hf := (f_Md_merge_L21.eq_2 _ _ _ _ _ _ _).symm.trans hf
    by_cases c3 : (32 : Int32) ≤ l4
    · replace hf := (if_pos c3).symm.trans hf
      by_cases c4 : l2 ≤ (0 : Int32)
      · replace hf := (if_pos c4).symm.trans hf
        by_cases c5 : l3 = (0 : Int32)
        · replace hf := (if_pos c5).symm.trans hf
          exact FR.tr FR.rf (u_Md_merge_L139 hf) (by decide) (by decide)
        · replace hf := (if_neg c5).symm.trans hf
          by_cases c22 : (I 34 75) = (500 : Int32)
          · replace hf := (if_pos c22).symm.trans hf
            cases hf
            exact FR.rf
          · replace hf := (if_neg c22).symm.trans hf
            exact FR.tr FR.rf (u_Md_merge_L139 hf) (by decide) (by decide)
      · replace hf := (if_neg c4).symm.trans hf
        cases hf
        exact FR.rf
    · replace hf := (if_neg c3).symm.trans hf
      obtain ⟨q23, c24, hf⟩ := bd_some hf
      by_cases c25 : q23 = (0 : Int32)
      · replace hf := (if_pos c25).symm.trans hf
        exact FR.tr FR.rf (u_Md_merge_L44 ih hf) (by decide) (by decide)
      · replace hf := (if_neg c25).symm.trans hf
        exact FR.tr FR.rf (u_Md_merge_L44 ih hf) (by decide) (by decide)
def f_Md_merge (a0 : Int32) (I : Nat → Nat → Int32) (L : Nat → Nat → Int64) : Option (Int32 × (Nat → Nat → Int32) × (Nat → Nat → Int64)) := (bnd (f_Md_within (Int32.toInt64 a0) (0 : Int64) (3 : Int64)) fun x1 => (if x1 = (0 : Int32) then (some ((-1 : Int32), I, L)) else (f_Md_merge_L21 xF a0 (0 : Int32) (0 : Int32) (0 : Int32) I L)))
set_option maxRecDepth 100000 in
set_option maxHeartbeats 4000000 in
theorem c_Md_merge {G : xG} {S : List xSh} {Rf : Nat → Nat → Option Nat} (hT : xTM S Rf) {a0 : Int32} {I : Nat → Nat → Int32} {L : Nat → Nat → Int64} {q : (Int32 × (Nat → Nat → Int32) × (Nat → Nat → Int64))} (hf : f_Md_merge a0 I L = some q) : CT G 2 m_Md_merge [.ref (xP G 34), .int a0] (S, I, L, Rf) (some (.int q.1), (S, q.2.1, q.2.2, Rf)) := by
  refine CT.of (by decide +kernel) (Nat.le_of_ble_eq_true rfl) ?_
  show X G 2 m_Md_merge 0 [(0, .ref (xP G 34)), (1, .int a0)] [] (S, I, L, Rf) (some (.int q.1), (S, q.2.1, q.2.2, Rf))
  replace hf := (f_Md_merge.eq_1 _ _ _).symm.trans hf
  refine X_iload_n (pc := 0) (i := 1) 1 dX12_merge_0 rfl rfl ?_
  refine X_i2l (pc := 1) dX12_merge_1 ?_
  refine X_lconst (pc := 2) (0 : Int64) dX12_merge_2 (by decide) ?_
  refine X_ldc2 (pc := 3) (3 : Int64) k_1530 dX12_merge_3 ?_
  refine X_invS_i (pc := 6) (c_Md_within hT rfl) ok_Md_within k_1482 k_1483 nd_33 (by decide) rfl (Nat.le_of_ble_eq_true rfl) dX12_merge_6 ?_
  obtain ⟨x1, ex1, hf⟩ := bnd_e hf
  refine X_tope ex1 ?_
  by_cases c2 : x1 = (0 : Int32)
  · replace hf := (if_pos c2).symm.trans hf
    refine X_if_ne_f (pc := 9) 14 dX12_merge_9 (by decide) c2 ?_
    refine X_iconst (pc := 12) (-1 : Int32) dX12_merge_12 (by decide) ?_
    cases hf
    exact X_ireturn (pc := 13) rfl dX12_merge_13
  · replace hf := (if_neg c2).symm.trans hf
    refine X_if_ne_t (pc := 9) 14 dX12_merge_9 (by decide) c2 ?_
    refine X_iconst (pc := 14) (0 : Int32) dX12_merge_14 (by decide) ?_
    refine X_istore_n (pc := 15) (i := 2) [(2, .int (0 : Int32)), (0, .ref (xP G 34)), (1, .int a0)] dX12_merge_15 rfl (by decide) rfl ?_
    refine X_iconst (pc := 16) (0 : Int32) dX12_merge_16 (by decide) ?_
    refine X_istore_n (pc := 17) (i := 3) [(3, .int (0 : Int32)), (2, .int (0 : Int32)), (0, .ref (xP G 34)), (1, .int a0)] dX12_merge_17 rfl (by decide) rfl ?_
    refine X_iconst (pc := 18) (0 : Int32) dX12_merge_18 (by decide) ?_
    refine X_istore (pc := 19) [(4, .int (0 : Int32)), (3, .int (0 : Int32)), (2, .int (0 : Int32)), (0, .ref (xP G 34)), (1, .int a0)] dX12_merge_19 (by decide) rfl ?_
    exact X_lvs [3, 4, 2, 1, 0] rfl (x_Md_merge_L21 hT xF hf)
theorem u_Md_merge {S : List xSh} {a0 : Int32} {I : Nat → Nat → Int32} {L : Nat → Nat → Int64} {q : (Int32 × (Nat → Nat → Int32) × (Nat → Nat → Int64))} (hf : f_Md_merge a0 I L = some q) : FR S [71, 72, 73, 74, 4475] [] I q.2.1 L q.2.2 := by
  replace hf := (f_Md_merge.eq_1 _ _ _).symm.trans hf
  obtain ⟨x1, ex1, hf⟩ := bnd_e hf
  by_cases c2 : x1 = (0 : Int32)
  · replace hf := (if_pos c2).symm.trans hf
    cases hf
    exact FR.rf
  · replace hf := (if_neg c2).symm.trans hf
    exact FR.tr FR.rf (u_Md_merge_L21 xF hf) (by decide) (by decide)
theorem dX12_conflict_0 : decode cX12_conflict 0 = .ok (.iload_n 1, 1) := by decide +kernel
theorem dX12_conflict_1 : decode cX12_conflict 1 = .ok (.iload_n 2, 1) := by decide +kernel
theorem dX12_conflict_2 : decode cX12_conflict 2 = .ok (.invokestatic 504, 3) := by decide +kernel
theorem dX12_conflict_5 : decode cX12_conflict 5 = .ok (.ifCond .ne 7, 3) := by decide +kernel
theorem dX12_conflict_8 : decode cX12_conflict 8 = .ok (.iconst (-1), 1) := by decide +kernel
theorem dX12_conflict_9 : decode cX12_conflict 9 = .ok (.goto 17, 3) := by decide +kernel
theorem dX12_conflict_12 : decode cX12_conflict 12 = .ok (.aload_n 0, 1) := by decide +kernel
theorem dX12_conflict_13 : decode cX12_conflict 13 = .ok (.iload_n 1, 1) := by decide +kernel
theorem dX12_conflict_14 : decode cX12_conflict 14 = .ok (.iload_n 2, 1) := by decide +kernel
theorem dX12_conflict_15 : decode cX12_conflict 15 = .ok (.invokevirtual 511, 3) := by decide +kernel
theorem dX12_conflict_18 : decode cX12_conflict 18 = .ok (.ifCond .eq 7, 3) := by decide +kernel
theorem dX12_conflict_21 : decode cX12_conflict 21 = .ok (.iconst 1, 1) := by decide +kernel
theorem dX12_conflict_22 : decode cX12_conflict 22 = .ok (.goto 4, 3) := by decide +kernel
theorem dX12_conflict_25 : decode cX12_conflict 25 = .ok (.iconst 0, 1) := by decide +kernel
theorem dX12_conflict_26 : decode cX12_conflict 26 = .ok (.ireturn, 1) := by decide +kernel
def f_Md_conflict (a0 : Int32) (a1 : Int32) (I : Nat → Nat → Int32) (L : Nat → Nat → Int64) : Option Int32 := (if (f_Md_isSetting a0 a1) = (0 : Int32) then (some (-1 : Int32)) else ((f_Md_isConflict a0 a1 I L).bind fun q2 => (if q2 = (0 : Int32) then (some (0 : Int32)) else (some (1 : Int32)))))
set_option maxRecDepth 100000 in
set_option maxHeartbeats 4000000 in
theorem c_Md_conflict {G : xG} {S : List xSh} {Rf : Nat → Nat → Option Nat} (hT : xTM S Rf) {a0 : Int32} {a1 : Int32} {I : Nat → Nat → Int32} {L : Nat → Nat → Int64} {q : Int32} (hf : f_Md_conflict a0 a1 I L = some q) : CT G 3 m_Md_conflict [.ref (xP G 34), .int a0, .int a1] (S, I, L, Rf) (some (.int q), (S, I, L, Rf)) := by
  refine CT.of (by decide +kernel) (Nat.le_of_ble_eq_true rfl) ?_
  show X G 3 m_Md_conflict 0 [(0, .ref (xP G 34)), (1, .int a0), (2, .int a1)] [] (S, I, L, Rf) (some (.int q), (S, I, L, Rf))
  replace hf := (f_Md_conflict.eq_1 _ _ _ _).symm.trans hf
  refine X_iload_n (pc := 0) (i := 1) 1 dX12_conflict_0 rfl rfl ?_
  refine X_iload_n (pc := 1) (i := 2) 2 dX12_conflict_1 rfl rfl ?_
  refine X_invS_i (pc := 2) (c_Md_isSetting hT rfl) ok_Md_isSetting k_1789 k_1790 nd_25 (by decide) rfl (Nat.le_of_ble_eq_true rfl) dX12_conflict_2 ?_
  by_cases c1 : (f_Md_isSetting a0 a1) = (0 : Int32)
  · replace hf := (if_pos c1).symm.trans hf
    refine X_if_ne_f (pc := 5) 12 dX12_conflict_5 (by decide) c1 ?_
    refine X_iconst (pc := 8) (-1 : Int32) dX12_conflict_8 (by decide) ?_
    refine X_goto (pc := 9) 26 dX12_conflict_9 (by decide) ?_
    cases hf
    exact X_ireturn (pc := 26) rfl dX12_conflict_26
  · replace hf := (if_neg c1).symm.trans hf
    refine X_if_ne_t (pc := 5) 12 dX12_conflict_5 (by decide) c1 ?_
    refine X_aload_n (pc := 12) (i := 0) 0 dX12_conflict_12 rfl rfl ?_
    refine X_iload_n (pc := 13) (i := 1) 1 dX12_conflict_13 rfl rfl ?_
    refine X_iload_n (pc := 14) (i := 2) 2 dX12_conflict_14 rfl rfl ?_
    obtain ⟨q2, c3, hf⟩ := bd_some hf
    refine X_invV_i (pc := 15) (c_Md_isConflict hT c3) ok_Md_isConflict (ci := 11) (sh_34 hT) k_1796 k_1798 k_69 nd_25 (by decide) rfl (Nat.le_of_ble_eq_true rfl) dX12_conflict_15 ?_
    by_cases c4 : q2 = (0 : Int32)
    · replace hf := (if_pos c4).symm.trans hf
      refine X_if_eq_t (pc := 18) 25 dX12_conflict_18 (by decide) c4 ?_
      refine X_iconst (pc := 25) (0 : Int32) dX12_conflict_25 (by decide) ?_
      cases hf
      exact X_ireturn (pc := 26) rfl dX12_conflict_26
    · replace hf := (if_neg c4).symm.trans hf
      refine X_if_eq_f (pc := 18) 25 dX12_conflict_18 (by decide) c4 ?_
      refine X_iconst (pc := 21) (1 : Int32) dX12_conflict_21 (by decide) ?_
      refine X_goto (pc := 22) 26 dX12_conflict_22 (by decide) ?_
      cases hf
      exact X_ireturn (pc := 26) rfl dX12_conflict_26
theorem dX12_settle_0 : decode cX12_settle 0 = .ok (.iload_n 1, 1) := by decide +kernel
theorem dX12_settle_1 : decode cX12_settle 1 = .ok (.iload_n 2, 1) := by decide +kernel
theorem dX12_settle_2 : decode cX12_settle 2 = .ok (.invokestatic 504, 3) := by decide +kernel
theorem dX12_settle_5 : decode cX12_settle 5 = .ok (.ifCond .eq 13, 3) := by decide +kernel
theorem dX12_settle_8 : decode cX12_settle 8 = .ok (.iload_n 3, 1) := by decide +kernel
theorem dX12_settle_9 : decode cX12_settle 9 = .ok (.i2l, 1) := by decide +kernel
theorem dX12_settle_10 : decode cX12_settle 10 = .ok (.lconst 0, 1) := by decide +kernel
theorem dX12_settle_11 : decode cX12_settle 11 = .ok (.lconst 1, 1) := by decide +kernel
theorem dX12_settle_12 : decode cX12_settle 12 = .ok (.invokestatic 140, 3) := by decide +kernel
theorem dX12_settle_15 : decode cX12_settle 15 = .ok (.ifCond .ne 5, 3) := by decide +kernel
theorem dX12_settle_18 : decode cX12_settle 18 = .ok (.iconst (-1), 1) := by decide +kernel
theorem dX12_settle_19 : decode cX12_settle 19 = .ok (.ireturn, 1) := by decide +kernel
theorem dX12_settle_20 : decode cX12_settle 20 = .ok (.aload_n 0, 1) := by decide +kernel
theorem dX12_settle_21 : decode cX12_settle 21 = .ok (.iload_n 1, 1) := by decide +kernel
theorem dX12_settle_22 : decode cX12_settle 22 = .ok (.iload_n 2, 1) := by decide +kernel
theorem dX12_settle_23 : decode cX12_settle 23 = .ok (.invokevirtual 511, 3) := by decide +kernel
theorem dX12_settle_26 : decode cX12_settle 26 = .ok (.ifCond .ne 6, 3) := by decide +kernel
theorem dX12_settle_29 : decode cX12_settle 29 = .ok (.bipush (-2), 2) := by decide +kernel
theorem dX12_settle_31 : decode cX12_settle 31 = .ok (.ireturn, 1) := by decide +kernel
theorem dX12_settle_32 : decode cX12_settle 32 = .ok (.bipush 32, 2) := by decide +kernel
theorem dX12_settle_34 : decode cX12_settle 34 = .ok (.iload_n 1, 1) := by decide +kernel
theorem dX12_settle_35 : decode cX12_settle 35 = .ok (.imul, 1) := by decide +kernel
theorem dX12_settle_36 : decode cX12_settle 36 = .ok (.iload_n 2, 1) := by decide +kernel
theorem dX12_settle_37 : decode cX12_settle 37 = .ok (.iadd, 1) := by decide +kernel
theorem dX12_settle_38 : decode cX12_settle 38 = .ok (.istore 4, 2) := by decide +kernel
theorem dX12_settle_40 : decode cX12_settle 40 = .ok (.iload_n 3, 1) := by decide +kernel
theorem dX12_settle_41 : decode cX12_settle 41 = .ok (.ifCond .ne 24, 3) := by decide +kernel
theorem dX12_settle_44 : decode cX12_settle 44 = .ok (.aload_n 0, 1) := by decide +kernel
theorem dX12_settle_45 : decode cX12_settle 45 = .ok (.getfield 123, 3) := by decide +kernel
theorem dX12_settle_48 : decode cX12_settle 48 = .ok (.iload 4, 2) := by decide +kernel
theorem dX12_settle_50 : decode cX12_settle 50 = .ok (.aload_n 0, 1) := by decide +kernel
theorem dX12_settle_51 : decode cX12_settle 51 = .ok (.getfield 120, 3) := by decide +kernel
theorem dX12_settle_54 : decode cX12_settle 54 = .ok (.bipush 32, 2) := by decide +kernel
theorem dX12_settle_56 : decode cX12_settle 56 = .ok (.aload_n 0, 1) := by decide +kernel
theorem dX12_settle_57 : decode cX12_settle 57 = .ok (.getfield 508, 3) := by decide +kernel
theorem dX12_settle_60 : decode cX12_settle 60 = .ok (.imul, 1) := by decide +kernel
theorem dX12_settle_61 : decode cX12_settle 61 = .ok (.iload_n 2, 1) := by decide +kernel
theorem dX12_settle_62 : decode cX12_settle 62 = .ok (.iadd, 1) := by decide +kernel
theorem dX12_settle_63 : decode cX12_settle 63 = .ok (.iaload, 1) := by decide +kernel
theorem dX12_settle_64 : decode cX12_settle 64 = .ok (.iastore, 1) := by decide +kernel
theorem dX12_settle_65 : decode cX12_settle 65 = .ok (.aload_n 0, 1) := by decide +kernel
theorem dX12_settle_66 : decode cX12_settle 66 = .ok (.getfield 129, 3) := by decide +kernel
theorem dX12_settle_69 : decode cX12_settle 69 = .ok (.iload 4, 2) := by decide +kernel
theorem dX12_settle_71 : decode cX12_settle 71 = .ok (.iload_n 3, 1) := by decide +kernel
theorem dX12_settle_72 : decode cX12_settle 72 = .ok (.iconst 1, 1) := by decide +kernel
theorem dX12_settle_73 : decode cX12_settle 73 = .ok (.if_icmp .ne 7, 3) := by decide +kernel
theorem dX12_settle_76 : decode cX12_settle 76 = .ok (.iconst 1, 1) := by decide +kernel
theorem dX12_settle_77 : decode cX12_settle 77 = .ok (.goto 4, 3) := by decide +kernel
theorem dX12_settle_80 : decode cX12_settle 80 = .ok (.iconst 0, 1) := by decide +kernel
theorem dX12_settle_81 : decode cX12_settle 81 = .ok (.bastore, 1) := by decide +kernel
theorem dX12_settle_82 : decode cX12_settle 82 = .ok (.iconst 0, 1) := by decide +kernel
theorem dX12_settle_83 : decode cX12_settle 83 = .ok (.ireturn, 1) := by decide +kernel
def f_Md_settle_L65 (l3 : Int32) (l4 : Int32) (I : (Nat → Nat → Int32)) (L : (Nat → Nat → Int64)) : Option (Int32 × (Nat → Nat → Int32) × (Nat → Nat → Int64)) := (if l3 = (1 : Int32) then (if (0 ≤ l4 ∧ l4 < (128 : Int32)) then (some ((0 : Int32), (uI I 74 (l4.toNatClampNeg) (1 : Int32)), L)) else none) else (if (0 ≤ l4 ∧ l4 < (128 : Int32)) then (some ((0 : Int32), (uI I 74 (l4.toNatClampNeg) (0 : Int32)), L)) else none))
set_option maxRecDepth 100000 in
set_option maxHeartbeats 4000000 in
theorem x_Md_settle_L65 {G : xG} {S : List xSh} {Rf : Nat → Nat → Option Nat} (hT : xTM S Rf) {l3 : Int32} {l4 : Int32} {I : Nat → Nat → Int32} {L : Nat → Nat → Int64} {q : (Int32 × (Nat → Nat → Int32) × (Nat → Nat → Int64))} (hf : f_Md_settle_L65 l3 l4 I L = some q) : X G 3 m_Md_settle 65 [(0, .ref (xP G 34)), (3, .int l3), (4, .int l4)] [] (S, I, L, Rf) (some (.int q.1), (S, q.2.1, q.2.2, Rf)) := by
  replace hf := (f_Md_settle_L65.eq_1 _ _ _ _).symm.trans hf
  refine X_aload_n (pc := 65) (i := 0) 0 dX12_settle_65 rfl rfl ?_
  refine X_getr (pc := 66) (a := 34) (ci := 11) (j := 79) (c := 74) (sh_34 hT) (by decide) k_1307 (rf_34_79 hT) (fun _ h => h) dX12_settle_66 ?_
  refine X_iload (pc := 69) 2 dX12_settle_69 rfl ?_
  refine X_iload_n (pc := 71) (i := 3) 1 dX12_settle_71 rfl rfl ?_
  refine X_iconst (pc := 72) (1 : Int32) dX12_settle_72 (by decide) ?_
  by_cases c12 : l3 = (1 : Int32)
  · replace hf := (if_pos c12).symm.trans hf
    refine X_icmp_ne_f (pc := 73) 80 dX12_settle_73 (by decide) c12 ?_
    refine X_iconst (pc := 76) (1 : Int32) dX12_settle_76 (by decide) ?_
    refine X_goto (pc := 77) 81 dX12_settle_77 (by decide) ?_
    obtain ⟨c13, hf⟩ := gd_some hf
    refine X_zastj (pc := 81) (j := (l4.toNatClampNeg)) (by decide) (sh_74 hT) (vp_in_lit (N := 128) c13 (by decide)) rfl dX12_settle_81 ?_
    refine X_iconst (pc := 82) (0 : Int32) dX12_settle_82 (by decide) ?_
    cases hf
    exact X_ireturn (pc := 83) rfl dX12_settle_83
  · replace hf := (if_neg c12).symm.trans hf
    refine X_icmp_ne_t (pc := 73) 80 dX12_settle_73 (by decide) c12 ?_
    refine X_iconst (pc := 80) (0 : Int32) dX12_settle_80 (by decide) ?_
    obtain ⟨c14, hf⟩ := gd_some hf
    refine X_zastj (pc := 81) (j := (l4.toNatClampNeg)) (by decide) (sh_74 hT) (vp_in_lit (N := 128) c14 (by decide)) rfl dX12_settle_81 ?_
    refine X_iconst (pc := 82) (0 : Int32) dX12_settle_82 (by decide) ?_
    cases hf
    exact X_ireturn (pc := 83) rfl dX12_settle_83
theorem u_Md_settle_L65 {S : List xSh} {l3 : Int32} {l4 : Int32} {I : Nat → Nat → Int32} {L : Nat → Nat → Int64} {q : (Int32 × (Nat → Nat → Int32) × (Nat → Nat → Int64))} (hf : f_Md_settle_L65 l3 l4 I L = some q) : FR S [72, 74] [] I q.2.1 L q.2.2 := by
  replace hf := (f_Md_settle_L65.eq_1 _ _ _ _).symm.trans hf
  by_cases c12 : l3 = (1 : Int32)
  · replace hf := (if_pos c12).symm.trans hf
    obtain ⟨c13, hf⟩ := gd_some hf
    cases hf
    exact (FR.ai FR.rf (by decide))
  · replace hf := (if_neg c12).symm.trans hf
    obtain ⟨c14, hf⟩ := gd_some hf
    cases hf
    exact (FR.ai FR.rf (by decide))
def f_Md_settle (a0 : Int32) (a1 : Int32) (a2 : Int32) (I : Nat → Nat → Int32) (L : Nat → Nat → Int64) : Option (Int32 × (Nat → Nat → Int32) × (Nat → Nat → Int64)) := (if (f_Md_isSetting a0 a1) = (0 : Int32) then (some ((-1 : Int32), I, L)) else (bnd (f_Md_within (Int32.toInt64 a2) (0 : Int64) (1 : Int64)) fun x2 => (if x2 = (0 : Int32) then (some ((-1 : Int32), I, L)) else ((f_Md_isConflict a0 a1 I L).bind fun q4 => (if q4 = (0 : Int32) then (some ((-2 : Int32), I, L)) else (bnd (((32 : Int32) * a0) + a1) fun x7 => (if a2 = (0 : Int32) then (if (0 ≤ (((32 : Int32) * (I 34 75)) + a1) ∧ (((32 : Int32) * (I 34 75)) + a1) < (16032 : Int32)) then (bnd (I 71 ((((32 : Int32) * (I 34 75)) + a1).toNatClampNeg)) fun x10 => (if (0 ≤ x7 ∧ x7 < (128 : Int32)) then (f_Md_settle_L65 a2 x7 (uI I 72 (x7.toNatClampNeg) x10) L) else none)) else none) else (f_Md_settle_L65 a2 x7 I L))))))))
set_option maxRecDepth 100000 in
set_option maxHeartbeats 4000000 in
theorem c_Md_settle {G : xG} {S : List xSh} {Rf : Nat → Nat → Option Nat} (hT : xTM S Rf) {a0 : Int32} {a1 : Int32} {a2 : Int32} {I : Nat → Nat → Int32} {L : Nat → Nat → Int64} {q : (Int32 × (Nat → Nat → Int32) × (Nat → Nat → Int64))} (hf : f_Md_settle a0 a1 a2 I L = some q) : CT G 3 m_Md_settle [.ref (xP G 34), .int a0, .int a1, .int a2] (S, I, L, Rf) (some (.int q.1), (S, q.2.1, q.2.2, Rf)) := by
  refine CT.of (by decide +kernel) (Nat.le_of_ble_eq_true rfl) ?_
  show X G 3 m_Md_settle 0 [(0, .ref (xP G 34)), (1, .int a0), (2, .int a1), (3, .int a2)] [] (S, I, L, Rf) (some (.int q.1), (S, q.2.1, q.2.2, Rf))
  replace hf := (f_Md_settle.eq_1 _ _ _ _ _).symm.trans hf
  refine X_iload_n (pc := 0) (i := 1) 1 dX12_settle_0 rfl rfl ?_
  refine X_iload_n (pc := 1) (i := 2) 2 dX12_settle_1 rfl rfl ?_
  refine X_invS_i (pc := 2) (c_Md_isSetting hT rfl) ok_Md_isSetting k_1789 k_1790 nd_25 (by decide) rfl (Nat.le_of_ble_eq_true rfl) dX12_settle_2 ?_
  by_cases c1 : (f_Md_isSetting a0 a1) = (0 : Int32)
  · replace hf := (if_pos c1).symm.trans hf
    refine X_if_eq_t (pc := 5) 18 dX12_settle_5 (by decide) c1 ?_
    refine X_iconst (pc := 18) (-1 : Int32) dX12_settle_18 (by decide) ?_
    cases hf
    exact X_ireturn (pc := 19) rfl dX12_settle_19
  · replace hf := (if_neg c1).symm.trans hf
    refine X_if_eq_f (pc := 5) 18 dX12_settle_5 (by decide) c1 ?_
    refine X_iload_n (pc := 8) (i := 3) 3 dX12_settle_8 rfl rfl ?_
    refine X_i2l (pc := 9) dX12_settle_9 ?_
    refine X_lconst (pc := 10) (0 : Int64) dX12_settle_10 (by decide) ?_
    refine X_lconst (pc := 11) (1 : Int64) dX12_settle_11 (by decide) ?_
    refine X_invS_i (pc := 12) (c_Md_within hT rfl) ok_Md_within k_1482 k_1483 nd_33 (by decide) rfl (Nat.le_of_ble_eq_true rfl) dX12_settle_12 ?_
    obtain ⟨x2, ex2, hf⟩ := bnd_e hf
    refine X_tope ex2 ?_
    by_cases c3 : x2 = (0 : Int32)
    · replace hf := (if_pos c3).symm.trans hf
      refine X_if_ne_f (pc := 15) 20 dX12_settle_15 (by decide) c3 ?_
      refine X_iconst (pc := 18) (-1 : Int32) dX12_settle_18 (by decide) ?_
      cases hf
      exact X_ireturn (pc := 19) rfl dX12_settle_19
    · replace hf := (if_neg c3).symm.trans hf
      refine X_if_ne_t (pc := 15) 20 dX12_settle_15 (by decide) c3 ?_
      refine X_aload_n (pc := 20) (i := 0) 0 dX12_settle_20 rfl rfl ?_
      refine X_iload_n (pc := 21) (i := 1) 1 dX12_settle_21 rfl rfl ?_
      refine X_iload_n (pc := 22) (i := 2) 2 dX12_settle_22 rfl rfl ?_
      obtain ⟨q4, c5, hf⟩ := bd_some hf
      refine X_invV_i (pc := 23) (c_Md_isConflict hT c5) ok_Md_isConflict (ci := 11) (sh_34 hT) k_1796 k_1798 k_69 nd_25 (by decide) rfl (Nat.le_of_ble_eq_true rfl) dX12_settle_23 ?_
      by_cases c6 : q4 = (0 : Int32)
      · replace hf := (if_pos c6).symm.trans hf
        refine X_if_ne_f (pc := 26) 32 dX12_settle_26 (by decide) c6 ?_
        refine X_bipush (pc := 29) (-2 : Int32) dX12_settle_29 (by decide) ?_
        cases hf
        exact X_ireturn (pc := 31) rfl dX12_settle_31
      · replace hf := (if_neg c6).symm.trans hf
        refine X_if_ne_t (pc := 26) 32 dX12_settle_26 (by decide) c6 ?_
        refine X_bipush (pc := 32) (32 : Int32) dX12_settle_32 (by decide) ?_
        refine X_iload_n (pc := 34) (i := 1) 1 dX12_settle_34 rfl rfl ?_
        refine X_imul (pc := 35) dX12_settle_35 ?_
        refine X_iload_n (pc := 36) (i := 2) 2 dX12_settle_36 rfl rfl ?_
        refine X_iadd (pc := 37) dX12_settle_37 ?_
        obtain ⟨x7, ex7, hf⟩ := bnd_e hf
        refine X_tope ex7 ?_
        refine X_istore (pc := 38) [(4, .int x7), (0, .ref (xP G 34)), (1, .int a0), (2, .int a1), (3, .int a2)] dX12_settle_38 (by decide) rfl ?_
        refine X_iload_n (pc := 40) (i := 3) 4 dX12_settle_40 rfl rfl ?_
        by_cases c8 : a2 = (0 : Int32)
        · replace hf := (if_pos c8).symm.trans hf
          refine X_if_ne_f (pc := 41) 65 dX12_settle_41 (by decide) c8 ?_
          refine X_aload_n (pc := 44) (i := 0) 1 dX12_settle_44 rfl rfl ?_
          refine X_getr (pc := 45) (a := 34) (ci := 11) (j := 77) (c := 72) (sh_34 hT) (by decide) k_1305 (rf_34_77 hT) (fun _ h => h) dX12_settle_45 ?_
          refine X_iload (pc := 48) 0 dX12_settle_48 rfl ?_
          refine X_aload_n (pc := 50) (i := 0) 1 dX12_settle_50 rfl rfl ?_
          refine X_getr (pc := 51) (a := 34) (ci := 11) (j := 76) (c := 71) (sh_34 hT) (by decide) k_1304 (rf_34_76 hT) (fun _ h => h) dX12_settle_51 ?_
          refine X_bipush (pc := 54) (32 : Int32) dX12_settle_54 (by decide) ?_
          refine X_aload_n (pc := 56) (i := 0) 1 dX12_settle_56 rfl rfl ?_
          refine X_get (pc := 57) (a := 34) (ci := 11) (j := 75) (.int (I 34 75)) (sh_34 hT) (by decide) k_1303 rfl dX12_settle_57 ?_
          refine X_imul (pc := 60) dX12_settle_60 ?_
          refine X_iload_n (pc := 61) (i := 2) 3 dX12_settle_61 rfl rfl ?_
          refine X_iadd (pc := 62) dX12_settle_62 ?_
          obtain ⟨c9, hf⟩ := gd_some hf
          refine X_ialdj (pc := 63) (j := (((32 : Int32) * (I 34 75)) + a1).toNatClampNeg) (I 71 ((((32 : Int32) * (I 34 75)) + a1).toNatClampNeg)) (sh_71 hT) (vp_in_lit (N := 16032) c9 (by decide)) rfl rfl dX12_settle_63 ?_
          obtain ⟨x10, ex10, hf⟩ := bnd_e hf
          refine X_tope ex10 ?_
          obtain ⟨c11, hf⟩ := gd_some hf
          refine X_iastj (pc := 64) (j := (x7.toNatClampNeg)) (sh_72 hT) (vp_in_lit (N := 128) c11 (by decide)) rfl dX12_settle_64 ?_
          exact X_lvs [1, 4, 0] rfl (x_Md_settle_L65 hT hf)
        · replace hf := (if_neg c8).symm.trans hf
          refine X_if_ne_t (pc := 41) 65 dX12_settle_41 (by decide) c8 ?_
          exact X_lvs [1, 4, 0] rfl (x_Md_settle_L65 hT hf)
theorem u_Md_settle {S : List xSh} {a0 : Int32} {a1 : Int32} {a2 : Int32} {I : Nat → Nat → Int32} {L : Nat → Nat → Int64} {q : (Int32 × (Nat → Nat → Int32) × (Nat → Nat → Int64))} (hf : f_Md_settle a0 a1 a2 I L = some q) : FR S [72, 74] [] I q.2.1 L q.2.2 := by
  replace hf := (f_Md_settle.eq_1 _ _ _ _ _).symm.trans hf
  by_cases c1 : (f_Md_isSetting a0 a1) = (0 : Int32)
  · replace hf := (if_pos c1).symm.trans hf
    cases hf
    exact FR.rf
  · replace hf := (if_neg c1).symm.trans hf
    obtain ⟨x2, ex2, hf⟩ := bnd_e hf
    by_cases c3 : x2 = (0 : Int32)
    · replace hf := (if_pos c3).symm.trans hf
      cases hf
      exact FR.rf
    · replace hf := (if_neg c3).symm.trans hf
      obtain ⟨q4, c5, hf⟩ := bd_some hf
      by_cases c6 : q4 = (0 : Int32)
      · replace hf := (if_pos c6).symm.trans hf
        cases hf
        exact FR.rf
      · replace hf := (if_neg c6).symm.trans hf
        obtain ⟨x7, ex7, hf⟩ := bnd_e hf
        by_cases c8 : a2 = (0 : Int32)
        · replace hf := (if_pos c8).symm.trans hf
          obtain ⟨c9, hf⟩ := gd_some hf
          obtain ⟨x10, ex10, hf⟩ := bnd_e hf
          obtain ⟨c11, hf⟩ := gd_some hf
          exact FR.tr (FR.ai FR.rf (by decide)) (u_Md_settle_L65 hf) (by decide) (by decide)
        · replace hf := (if_neg c8).symm.trans hf
          exact FR.tr FR.rf (u_Md_settle_L65 hf) (by decide) (by decide)

theorem dX12_isBarred_0 : decode cX12_isBarred 0 = .ok (.aload_n 0, 1) := by decide +kernel
theorem dX12_isBarred_1 : decode cX12_isBarred 1 = .ok (.getfield 34, 3) := by decide +kernel
theorem dX12_isBarred_4 : decode cX12_isBarred 4 = .ok (.iload_n 1, 1) := by decide +kernel
theorem dX12_isBarred_5 : decode cX12_isBarred 5 = .ok (.iaload, 1) := by decide +kernel
theorem dX12_isBarred_6 : decode cX12_isBarred 6 = .ok (.istore_n 2, 1) := by decide +kernel
theorem dX12_isBarred_7 : decode cX12_isBarred 7 = .ok (.aload_n 0, 1) := by decide +kernel
theorem dX12_isBarred_8 : decode cX12_isBarred 8 = .ok (.getfield 31, 3) := by decide +kernel
theorem dX12_isBarred_11 : decode cX12_isBarred 11 = .ok (.iload_n 1, 1) := by decide +kernel
theorem dX12_isBarred_12 : decode cX12_isBarred 12 = .ok (.iaload, 1) := by decide +kernel
theorem dX12_isBarred_13 : decode cX12_isBarred 13 = .ok (.iconst 1, 1) := by decide +kernel
theorem dX12_isBarred_14 : decode cX12_isBarred 14 = .ok (.if_icmp .ne 11, 3) := by decide +kernel
theorem dX12_isBarred_17 : decode cX12_isBarred 17 = .ok (.aload_n 0, 1) := by decide +kernel
theorem dX12_isBarred_18 : decode cX12_isBarred 18 = .ok (.iload_n 2, 1) := by decide +kernel
theorem dX12_isBarred_19 : decode cX12_isBarred 19 = .ok (.invokevirtual 316, 3) := by decide +kernel
theorem dX12_isBarred_22 : decode cX12_isBarred 22 = .ok (.ifCond .ne 5, 3) := by decide +kernel
theorem dX12_isBarred_25 : decode cX12_isBarred 25 = .ok (.iconst 0, 1) := by decide +kernel
theorem dX12_isBarred_26 : decode cX12_isBarred 26 = .ok (.ireturn, 1) := by decide +kernel
theorem dX12_isBarred_27 : decode cX12_isBarred 27 = .ok (.aload_n 0, 1) := by decide +kernel
theorem dX12_isBarred_28 : decode cX12_isBarred 28 = .ok (.getfield 84, 3) := by decide +kernel
theorem dX12_isBarred_31 : decode cX12_isBarred 31 = .ok (.iload_n 2, 1) := by decide +kernel
theorem dX12_isBarred_32 : decode cX12_isBarred 32 = .ok (.laload, 1) := by decide +kernel
theorem dX12_isBarred_33 : decode cX12_isBarred 33 = .ok (.ldc2_w 253, 3) := by decide +kernel
theorem dX12_isBarred_36 : decode cX12_isBarred 36 = .ok (.lmul, 1) := by decide +kernel
theorem dX12_isBarred_37 : decode cX12_isBarred 37 = .ok (.aload_n 0, 1) := by decide +kernel
theorem dX12_isBarred_38 : decode cX12_isBarred 38 = .ok (.getfield 153, 3) := by decide +kernel
theorem dX12_isBarred_41 : decode cX12_isBarred 41 = .ok (.i2l, 1) := by decide +kernel
theorem dX12_isBarred_42 : decode cX12_isBarred 42 = .ok (.lmul, 1) := by decide +kernel
theorem dX12_isBarred_43 : decode cX12_isBarred 43 = .ok (.lstore_n 3, 1) := by decide +kernel
theorem dX12_isBarred_44 : decode cX12_isBarred 44 = .ok (.aload_n 0, 1) := by decide +kernel
theorem dX12_isBarred_45 : decode cX12_isBarred 45 = .ok (.getfield 80, 3) := by decide +kernel
theorem dX12_isBarred_48 : decode cX12_isBarred 48 = .ok (.iload_n 2, 1) := by decide +kernel
theorem dX12_isBarred_49 : decode cX12_isBarred 49 = .ok (.laload, 1) := by decide +kernel
theorem dX12_isBarred_50 : decode cX12_isBarred 50 = .ok (.invokestatic 287, 3) := by decide +kernel
theorem dX12_isBarred_53 : decode cX12_isBarred 53 = .ok (.aload_n 0, 1) := by decide +kernel
theorem dX12_isBarred_54 : decode cX12_isBarred 54 = .ok (.getfield 185, 3) := by decide +kernel
theorem dX12_isBarred_57 : decode cX12_isBarred 57 = .ok (.i2l, 1) := by decide +kernel
theorem dX12_isBarred_58 : decode cX12_isBarred 58 = .ok (.lmul, 1) := by decide +kernel
theorem dX12_isBarred_59 : decode cX12_isBarred 59 = .ok (.lload_n 3, 1) := by decide +kernel
theorem dX12_isBarred_60 : decode cX12_isBarred 60 = .ok (.lrem, 1) := by decide +kernel
theorem dX12_isBarred_61 : decode cX12_isBarred 61 = .ok (.lstore 5, 2) := by decide +kernel
theorem dX12_isBarred_63 : decode cX12_isBarred 63 = .ok (.ldc2_w 319, 3) := by decide +kernel
theorem dX12_isBarred_66 : decode cX12_isBarred 66 = .ok (.lload 5, 2) := by decide +kernel
theorem dX12_isBarred_68 : decode cX12_isBarred 68 = .ok (.lmul, 1) := by decide +kernel
theorem dX12_isBarred_69 : decode cX12_isBarred 69 = .ok (.ldc2_w 259, 3) := by decide +kernel
theorem dX12_isBarred_72 : decode cX12_isBarred 72 = .ok (.lload_n 3, 1) := by decide +kernel
theorem dX12_isBarred_73 : decode cX12_isBarred 73 = .ok (.lmul, 1) := by decide +kernel
theorem dX12_isBarred_74 : decode cX12_isBarred 74 = .ok (.lcmp, 1) := by decide +kernel
theorem dX12_isBarred_75 : decode cX12_isBarred 75 = .ok (.ifCond .lt 7, 3) := by decide +kernel
theorem dX12_isBarred_78 : decode cX12_isBarred 78 = .ok (.iconst 1, 1) := by decide +kernel
theorem dX12_isBarred_79 : decode cX12_isBarred 79 = .ok (.goto 4, 3) := by decide +kernel
theorem dX12_isBarred_82 : decode cX12_isBarred 82 = .ok (.iconst 0, 1) := by decide +kernel
theorem dX12_isBarred_83 : decode cX12_isBarred 83 = .ok (.ireturn, 1) := by decide +kernel
def f_Md_isBarred (a0 : Int32) (I : Nat → Nat → Int32) (L : Nat → Nat → Int64) : Option Int32 := (if (0 ≤ a0 ∧ a0 < (8 : Int32)) then (bnd (I 43 (a0.toNatClampNeg)) fun x2 => (if (0 ≤ a0 ∧ a0 < (8 : Int32)) then (if (I 42 (a0.toNatClampNeg)) = (1 : Int32) then ((f_Md_isKnown x2 I L).bind fun q5 => (if q5 = (0 : Int32) then (some (0 : Int32)) else (if (0 ≤ x2 ∧ x2 < (24 : Int32)) then (bnd (((L 59 (x2.toNatClampNeg)) * (2 : Int64)) * (Int32.toInt64 (I 34 9))) fun x9 => (if (0 ≤ x2 ∧ x2 < (24 : Int32)) then (if ¬ x9 = (0 : Int64) then (bnd (lrem ((Jabs (L 58 (x2.toNatClampNeg))) * (Int32.toInt64 (I 34 25))) x9) fun x12 => (if ((4 : Int64) * x12) < ((3 : Int64) * x9) then (some (0 : Int32)) else (some (1 : Int32)))) else none) else none)) else none))) else (some (0 : Int32))) else none)) else none)
set_option maxRecDepth 100000 in
set_option maxHeartbeats 4000000 in
theorem c_Md_isBarred {G : xG} {S : List xSh} {Rf : Nat → Nat → Option Nat} (hT : xTM S Rf) {a0 : Int32} {I : Nat → Nat → Int32} {L : Nat → Nat → Int64} {q : Int32} (hf : f_Md_isBarred a0 I L = some q) : CT G 2 m_Md_isBarred [.ref (xP G 34), .int a0] (S, I, L, Rf) (some (.int q), (S, I, L, Rf)) := by
  refine CT.of (by decide +kernel) (Nat.le_of_ble_eq_true rfl) ?_
  show X G 2 m_Md_isBarred 0 [(0, .ref (xP G 34)), (1, .int a0)] [] (S, I, L, Rf) (some (.int q), (S, I, L, Rf))
  replace hf := (f_Md_isBarred.eq_1 _ _ _).symm.trans hf
  refine X_aload_n (pc := 0) (i := 0) 0 dX12_isBarred_0 rfl rfl ?_
  refine X_getr (pc := 1) (a := 34) (ci := 11) (j := 18) (c := 43) (sh_34 hT) (by decide) k_1246 (rf_34_18 hT) (fun _ h => h) dX12_isBarred_1 ?_
  refine X_iload_n (pc := 4) (i := 1) 1 dX12_isBarred_4 rfl rfl ?_
  obtain ⟨c1, hf⟩ := gd_some hf
  refine X_ialdj (pc := 5) (j := a0.toNatClampNeg) (I 43 (a0.toNatClampNeg)) (sh_43 hT) (vp_in_lit (N := 8) c1 (by decide)) rfl rfl dX12_isBarred_5 ?_
  obtain ⟨x2, ex2, hf⟩ := bnd_e hf
  refine X_tope ex2 ?_
  refine X_istore_n (pc := 6) (i := 2) [(2, .int x2), (0, .ref (xP G 34)), (1, .int a0)] dX12_isBarred_6 rfl (by decide) rfl ?_
  refine X_aload_n (pc := 7) (i := 0) 1 dX12_isBarred_7 rfl rfl ?_
  refine X_getr (pc := 8) (a := 34) (ci := 11) (j := 17) (c := 42) (sh_34 hT) (by decide) k_1245 (rf_34_17 hT) (fun _ h => h) dX12_isBarred_8 ?_
  refine X_iload_n (pc := 11) (i := 1) 2 dX12_isBarred_11 rfl rfl ?_
  obtain ⟨c3, hf⟩ := gd_some hf
  refine X_ialdj (pc := 12) (j := a0.toNatClampNeg) (I 42 (a0.toNatClampNeg)) (sh_42 hT) (vp_in_lit (N := 8) c3 (by decide)) rfl rfl dX12_isBarred_12 ?_
  refine X_iconst (pc := 13) (1 : Int32) dX12_isBarred_13 (by decide) ?_
  by_cases c4 : (I 42 (a0.toNatClampNeg)) = (1 : Int32)
  · replace hf := (if_pos c4).symm.trans hf
    refine X_icmp_ne_f (pc := 14) 25 dX12_isBarred_14 (by decide) c4 ?_
    refine X_aload_n (pc := 17) (i := 0) 1 dX12_isBarred_17 rfl rfl ?_
    refine X_iload_n (pc := 18) (i := 2) 0 dX12_isBarred_18 rfl rfl ?_
    obtain ⟨q5, c6, hf⟩ := bd_some hf
    refine X_invV_i (pc := 19) (c_Md_isKnown hT c6) ok_Md_isKnown (ci := 11) (sh_34 hT) k_1605 k_1607 k_56 nd_5 (by decide) rfl (Nat.le_of_ble_eq_true rfl) dX12_isBarred_19 ?_
    by_cases c7 : q5 = (0 : Int32)
    · replace hf := (if_pos c7).symm.trans hf
      refine X_if_ne_f (pc := 22) 27 dX12_isBarred_22 (by decide) c7 ?_
      refine X_iconst (pc := 25) (0 : Int32) dX12_isBarred_25 (by decide) ?_
      cases hf
      exact X_zreturn (pc := 26) rfl (nar_b (by decide)) dX12_isBarred_26
    · replace hf := (if_neg c7).symm.trans hf
      refine X_if_ne_t (pc := 22) 27 dX12_isBarred_22 (by decide) c7 ?_
      refine X_aload_n (pc := 27) (i := 0) 1 dX12_isBarred_27 rfl rfl ?_
      refine X_getr (pc := 28) (a := 34) (ci := 11) (j := 50) (c := 59) (sh_34 hT) (by decide) k_1278 (rf_34_50 hT) (fun _ h => h) dX12_isBarred_28 ?_
      refine X_iload_n (pc := 31) (i := 2) 0 dX12_isBarred_31 rfl rfl ?_
      obtain ⟨c8, hf⟩ := gd_some hf
      refine X_laldj (pc := 32) (j := x2.toNatClampNeg) (L 59 (x2.toNatClampNeg)) (sh_59 hT) (vp_in_lit (N := 24) c8 (by decide)) rfl rfl dX12_isBarred_32 ?_
      refine X_ldc2 (pc := 33) (2 : Int64) k_1521 dX12_isBarred_33 ?_
      refine X_lmul (pc := 36) dX12_isBarred_36 ?_
      refine X_aload_n (pc := 37) (i := 0) 1 dX12_isBarred_37 rfl rfl ?_
      refine X_get (pc := 38) (a := 34) (ci := 11) (j := 9) (.int (I 34 9)) (sh_34 hT) (by decide) k_1237 rfl dX12_isBarred_38 ?_
      refine X_i2l (pc := 41) dX12_isBarred_41 ?_
      refine X_lmul (pc := 42) dX12_isBarred_42 ?_
      obtain ⟨x9, ex9, hf⟩ := bnd_e hf
      refine X_tople ex9 ?_
      refine X_lstore_n (pc := 43) (i := 3) [(3, .long x9), (2, .int x2), (0, .ref (xP G 34)), (1, .int a0)] dX12_isBarred_43 rfl (by decide) rfl ?_
      refine X_aload_n (pc := 44) (i := 0) 2 dX12_isBarred_44 rfl rfl ?_
      refine X_getr (pc := 45) (a := 34) (ci := 11) (j := 49) (c := 58) (sh_34 hT) (by decide) k_1277 (rf_34_49 hT) (fun _ h => h) dX12_isBarred_45 ?_
      refine X_iload_n (pc := 48) (i := 2) 1 dX12_isBarred_48 rfl rfl ?_
      obtain ⟨c10, hf⟩ := gd_some hf
      refine X_laldj (pc := 49) (j := x2.toNatClampNeg) (L 58 (x2.toNatClampNeg)) (sh_58 hT) (vp_in_lit (N := 24) c10 (by decide)) rfl rfl dX12_isBarred_49 ?_
      refine X_Jabs (pc := 50) k_1568 (by decide) (Nat.le_of_ble_eq_true rfl) dX12_isBarred_50 ?_
      refine X_aload_n (pc := 53) (i := 0) 2 dX12_isBarred_53 rfl rfl ?_
      refine X_get (pc := 54) (a := 34) (ci := 11) (j := 25) (.int (I 34 25)) (sh_34 hT) (by decide) k_1253 rfl dX12_isBarred_54 ?_
      refine X_i2l (pc := 57) dX12_isBarred_57 ?_
      refine X_lmul (pc := 58) dX12_isBarred_58 ?_
      refine X_lload_n (pc := 59) (i := 3) 0 dX12_isBarred_59 rfl rfl ?_
      obtain ⟨c11, hf⟩ := gd_some hf
      refine X_lrem (pc := 60) dX12_isBarred_60 c11 ?_
      obtain ⟨x12, ex12, hf⟩ := bnd_e hf
      refine X_tople ex12 ?_
      refine X_lstore (pc := 61) [(5, .long x12), (3, .long x9), (2, .int x2), (0, .ref (xP G 34)), (1, .int a0)] dX12_isBarred_61 (by decide) rfl ?_
      refine X_ldc2 (pc := 63) (4 : Int64) k_1674 dX12_isBarred_63 ?_
      refine X_lload (pc := 66) 0 dX12_isBarred_66 rfl ?_
      refine X_lmul (pc := 68) dX12_isBarred_68 ?_
      refine X_ldc2 (pc := 69) (3 : Int64) k_1530 dX12_isBarred_69 ?_
      refine X_lload_n (pc := 72) (i := 3) 1 dX12_isBarred_72 rfl rfl ?_
      refine X_lmul (pc := 73) dX12_isBarred_73 ?_
      refine X_lcmp (pc := 74) dX12_isBarred_74 ?_
      by_cases c13 : ((4 : Int64) * x12) < ((3 : Int64) * x9)
      · replace hf := (if_pos c13).symm.trans hf
        refine X_if_lt_t (pc := 75) 82 dX12_isBarred_75 (by decide) ((lg_cmp_lt _ _).mpr c13) ?_
        refine X_iconst (pc := 82) (0 : Int32) dX12_isBarred_82 (by decide) ?_
        cases hf
        exact X_zreturn (pc := 83) rfl (nar_b (by decide)) dX12_isBarred_83
      · replace hf := (if_neg c13).symm.trans hf
        refine X_if_lt_f (pc := 75) 82 dX12_isBarred_75 (by decide) (fun h => c13 ((lg_cmp_lt _ _).mp h)) ?_
        refine X_iconst (pc := 78) (1 : Int32) dX12_isBarred_78 (by decide) ?_
        refine X_goto (pc := 79) 83 dX12_isBarred_79 (by decide) ?_
        cases hf
        exact X_zreturn (pc := 83) rfl (nar_b (by decide)) dX12_isBarred_83
  · replace hf := (if_neg c4).symm.trans hf
    refine X_icmp_ne_t (pc := 14) 25 dX12_isBarred_14 (by decide) c4 ?_
    refine X_iconst (pc := 25) (0 : Int32) dX12_isBarred_25 (by decide) ?_
    cases hf
    exact X_zreturn (pc := 26) rfl (nar_b (by decide)) dX12_isBarred_26
theorem dX12_correct_0 : decode cX12_correct 0 = .ok (.aload_n 0, 1) := by decide +kernel
theorem dX12_correct_1 : decode cX12_correct 1 = .ok (.iload_n 1, 1) := by decide +kernel
theorem dX12_correct_2 : decode cX12_correct 2 = .ok (.invokevirtual 395, 3) := by decide +kernel
theorem dX12_correct_5 : decode cX12_correct 5 = .ok (.ifCond .eq 13, 3) := by decide +kernel
theorem dX12_correct_8 : decode cX12_correct 8 = .ok (.aload_n 0, 1) := by decide +kernel
theorem dX12_correct_9 : decode cX12_correct 9 = .ok (.iload_n 1, 1) := by decide +kernel
theorem dX12_correct_10 : decode cX12_correct 10 = .ok (.iload_n 2, 1) := by decide +kernel
theorem dX12_correct_11 : decode cX12_correct 11 = .ok (.iload_n 3, 1) := by decide +kernel
theorem dX12_correct_12 : decode cX12_correct 12 = .ok (.invokevirtual 398, 3) := by decide +kernel
theorem dX12_correct_15 : decode cX12_correct 15 = .ok (.ifCond .ne 5, 3) := by decide +kernel
theorem dX12_correct_18 : decode cX12_correct 18 = .ok (.iconst (-1), 1) := by decide +kernel
theorem dX12_correct_19 : decode cX12_correct 19 = .ok (.ireturn, 1) := by decide +kernel
theorem dX12_correct_20 : decode cX12_correct 20 = .ok (.aload_n 0, 1) := by decide +kernel
theorem dX12_correct_21 : decode cX12_correct 21 = .ok (.getfield 178, 3) := by decide +kernel
theorem dX12_correct_24 : decode cX12_correct 24 = .ok (.ifCond .eq 11, 3) := by decide +kernel
theorem dX12_correct_27 : decode cX12_correct 27 = .ok (.aload_n 0, 1) := by decide +kernel
theorem dX12_correct_28 : decode cX12_correct 28 = .ok (.iload_n 1, 1) := by decide +kernel
theorem dX12_correct_29 : decode cX12_correct 29 = .ok (.invokevirtual 402, 3) := by decide +kernel
theorem dX12_correct_32 : decode cX12_correct 32 = .ok (.ifCond .eq 6, 3) := by decide +kernel
theorem dX12_correct_35 : decode cX12_correct 35 = .ok (.bipush (-2), 2) := by decide +kernel
theorem dX12_correct_37 : decode cX12_correct 37 = .ok (.ireturn, 1) := by decide +kernel
theorem dX12_correct_38 : decode cX12_correct 38 = .ok (.aload_n 0, 1) := by decide +kernel
theorem dX12_correct_39 : decode cX12_correct 39 = .ok (.invokevirtual 379, 3) := by decide +kernel
theorem dX12_correct_42 : decode cX12_correct 42 = .ok (.ifCond .eq 6, 3) := by decide +kernel
theorem dX12_correct_45 : decode cX12_correct 45 = .ok (.bipush (-3), 2) := by decide +kernel
theorem dX12_correct_47 : decode cX12_correct 47 = .ok (.ireturn, 1) := by decide +kernel
theorem dX12_correct_48 : decode cX12_correct 48 = .ok (.aload_n 0, 1) := by decide +kernel
theorem dX12_correct_49 : decode cX12_correct 49 = .ok (.getfield 49, 3) := by decide +kernel
theorem dX12_correct_52 : decode cX12_correct 52 = .ok (.bipush 10, 2) := by decide +kernel
theorem dX12_correct_54 : decode cX12_correct 54 = .ok (.iload_n 1, 1) := by decide +kernel
theorem dX12_correct_55 : decode cX12_correct 55 = .ok (.imul, 1) := by decide +kernel
theorem dX12_correct_56 : decode cX12_correct 56 = .ok (.iload_n 2, 1) := by decide +kernel
theorem dX12_correct_57 : decode cX12_correct 57 = .ok (.iadd, 1) := by decide +kernel
theorem dX12_correct_58 : decode cX12_correct 58 = .ok (.iload_n 3, 1) := by decide +kernel
theorem dX12_correct_59 : decode cX12_correct 59 = .ok (.iastore, 1) := by decide +kernel
theorem dX12_correct_60 : decode cX12_correct 60 = .ok (.aload_n 0, 1) := by decide +kernel
theorem dX12_correct_61 : decode cX12_correct 61 = .ok (.getfield 49, 3) := by decide +kernel
theorem dX12_correct_64 : decode cX12_correct 64 = .ok (.bipush 10, 2) := by decide +kernel
theorem dX12_correct_66 : decode cX12_correct 66 = .ok (.iload_n 1, 1) := by decide +kernel
theorem dX12_correct_67 : decode cX12_correct 67 = .ok (.imul, 1) := by decide +kernel
theorem dX12_correct_68 : decode cX12_correct 68 = .ok (.bipush 7, 2) := by decide +kernel
theorem dX12_correct_70 : decode cX12_correct 70 = .ok (.iadd, 1) := by decide +kernel
theorem dX12_correct_71 : decode cX12_correct 71 = .ok (.iconst 1, 1) := by decide +kernel
theorem dX12_correct_72 : decode cX12_correct 72 = .ok (.iastore, 1) := by decide +kernel
theorem dX12_correct_73 : decode cX12_correct 73 = .ok (.aload_n 0, 1) := by decide +kernel
theorem dX12_correct_74 : decode cX12_correct 74 = .ok (.iconst 4, 1) := by decide +kernel
theorem dX12_correct_75 : decode cX12_correct 75 = .ok (.iload_n 1, 1) := by decide +kernel
theorem dX12_correct_76 : decode cX12_correct 76 = .ok (.iload_n 2, 1) := by decide +kernel
theorem dX12_correct_77 : decode cX12_correct 77 = .ok (.iload_n 3, 1) := by decide +kernel
theorem dX12_correct_78 : decode cX12_correct 78 = .ok (.invokevirtual 385, 3) := by decide +kernel
theorem dX12_correct_81 : decode cX12_correct 81 = .ok (.iconst 0, 1) := by decide +kernel
theorem dX12_correct_82 : decode cX12_correct 82 = .ok (.ireturn, 1) := by decide +kernel
def f_Md_correct (a0 : Int32) (a1 : Int32) (a2 : Int32) (I : Nat → Nat → Int32) (L : Nat → Nat → Int64) : Option (Int32 × (Nat → Nat → Int32) × (Nat → Nat → Int64)) := ((f_Md_isWork a0 I L).bind fun q1 => (if q1 = (0 : Int32) then (some ((-1 : Int32), I, L)) else ((f_Md_canShow a0 a1 a2 I L).bind fun q4 => (if q4 = (0 : Int32) then (some ((-1 : Int32), I, L)) else (if (I 34 24) = (0 : Int32) then (some ((-2 : Int32), I, L)) else ((f_Md_isBarred a0 I L).bind fun q8 => (if q8 = (0 : Int32) then (if (f_Md_isBookFull I L) = (0 : Int32) then (if (0 ≤ (((10 : Int32) * a0) + a1) ∧ (((10 : Int32) * a0) + a1) < (80 : Int32)) then (if (0 ≤ (((10 : Int32) * a0) + (7 : Int32)) ∧ (((10 : Int32) * a0) + (7 : Int32)) < (80 : Int32)) then ((f_Md_write (4 : Int32) a0 a1 a2 (uI (uI I 48 ((((10 : Int32) * a0) + a1).toNatClampNeg) a2) 48 ((((10 : Int32) * a0) + (7 : Int32)).toNatClampNeg) (1 : Int32)) L).bind fun q14 => (some ((0 : Int32), q14.1, q14.2))) else none) else none) else (some ((-3 : Int32), I, L))) else (some ((-2 : Int32), I, L)))))))))
set_option maxRecDepth 100000 in
set_option maxHeartbeats 4000000 in
theorem c_Md_correct {G : xG} {S : List xSh} {Rf : Nat → Nat → Option Nat} (hT : xTM S Rf) {a0 : Int32} {a1 : Int32} {a2 : Int32} {I : Nat → Nat → Int32} {L : Nat → Nat → Int64} {q : (Int32 × (Nat → Nat → Int32) × (Nat → Nat → Int64))} (hf : f_Md_correct a0 a1 a2 I L = some q) : CT G 3 m_Md_correct [.ref (xP G 34), .int a0, .int a1, .int a2] (S, I, L, Rf) (some (.int q.1), (S, q.2.1, q.2.2, Rf)) := by
  refine CT.of (by decide +kernel) (Nat.le_of_ble_eq_true rfl) ?_
  show X G 3 m_Md_correct 0 [(0, .ref (xP G 34)), (1, .int a0), (2, .int a1), (3, .int a2)] [] (S, I, L, Rf) (some (.int q.1), (S, q.2.1, q.2.2, Rf))
  replace hf := (f_Md_correct.eq_1 _ _ _ _ _).symm.trans hf
  refine X_aload_n (pc := 0) (i := 0) 0 dX12_correct_0 rfl rfl ?_
  refine X_iload_n (pc := 1) (i := 1) 1 dX12_correct_1 rfl rfl ?_
  obtain ⟨q1, c2, hf⟩ := bd_some hf
  refine X_invV_i (pc := 2) (c_Md_isWork hT c2) ok_Md_isWork (ci := 11) (sh_34 hT) k_1660 k_1662 k_64 nd_5 (by decide) rfl (Nat.le_of_ble_eq_true rfl) dX12_correct_2 ?_
  by_cases c3 : q1 = (0 : Int32)
  · replace hf := (if_pos c3).symm.trans hf
    refine X_if_eq_t (pc := 5) 18 dX12_correct_5 (by decide) c3 ?_
    refine X_iconst (pc := 18) (-1 : Int32) dX12_correct_18 (by decide) ?_
    cases hf
    exact X_ireturn (pc := 19) rfl dX12_correct_19
  · replace hf := (if_neg c3).symm.trans hf
    refine X_if_eq_f (pc := 5) 18 dX12_correct_5 (by decide) c3 ?_
    refine X_aload_n (pc := 8) (i := 0) 0 dX12_correct_8 rfl rfl ?_
    refine X_iload_n (pc := 9) (i := 1) 1 dX12_correct_9 rfl rfl ?_
    refine X_iload_n (pc := 10) (i := 2) 2 dX12_correct_10 rfl rfl ?_
    refine X_iload_n (pc := 11) (i := 3) 3 dX12_correct_11 rfl rfl ?_
    obtain ⟨q4, c5, hf⟩ := bd_some hf
    refine X_invV_i (pc := 12) (c_Md_canShow hT c5) ok_Md_canShow (ci := 11) (sh_34 hT) k_1664 k_1666 k_65 nd_6 (by decide) rfl (Nat.le_of_ble_eq_true rfl) dX12_correct_12 ?_
    by_cases c6 : q4 = (0 : Int32)
    · replace hf := (if_pos c6).symm.trans hf
      refine X_if_ne_f (pc := 15) 20 dX12_correct_15 (by decide) c6 ?_
      refine X_iconst (pc := 18) (-1 : Int32) dX12_correct_18 (by decide) ?_
      cases hf
      exact X_ireturn (pc := 19) rfl dX12_correct_19
    · replace hf := (if_neg c6).symm.trans hf
      refine X_if_ne_t (pc := 15) 20 dX12_correct_15 (by decide) c6 ?_
      refine X_aload_n (pc := 20) (i := 0) 0 dX12_correct_20 rfl rfl ?_
      refine X_get (pc := 21) (a := 34) (ci := 11) (j := 24) (.int (I 34 24)) (sh_34 hT) (by decide) k_1252 rfl dX12_correct_21 ?_
      by_cases c7 : (I 34 24) = (0 : Int32)
      · replace hf := (if_pos c7).symm.trans hf
        refine X_if_eq_t (pc := 24) 35 dX12_correct_24 (by decide) c7 ?_
        refine X_bipush (pc := 35) (-2 : Int32) dX12_correct_35 (by decide) ?_
        cases hf
        exact X_ireturn (pc := 37) rfl dX12_correct_37
      · replace hf := (if_neg c7).symm.trans hf
        refine X_if_eq_f (pc := 24) 35 dX12_correct_24 (by decide) c7 ?_
        refine X_aload_n (pc := 27) (i := 0) 0 dX12_correct_27 rfl rfl ?_
        refine X_iload_n (pc := 28) (i := 1) 1 dX12_correct_28 rfl rfl ?_
        obtain ⟨q8, c9, hf⟩ := bd_some hf
        refine X_invV_i (pc := 29) (c_Md_isBarred hT c9) ok_Md_isBarred (ci := 11) (sh_34 hT) k_1670 k_1672 k_66 nd_5 (by decide) rfl (Nat.le_of_ble_eq_true rfl) dX12_correct_29 ?_
        by_cases c10 : q8 = (0 : Int32)
        · replace hf := (if_pos c10).symm.trans hf
          refine X_if_eq_t (pc := 32) 38 dX12_correct_32 (by decide) c10 ?_
          refine X_aload_n (pc := 38) (i := 0) 0 dX12_correct_38 rfl rfl ?_
          refine X_invV_i (pc := 39) (c_Md_isBookFull hT rfl) ok_Md_isBookFull (ci := 11) (sh_34 hT) k_1579 k_1581 k_51 nd_11 (by decide) rfl (Nat.le_of_ble_eq_true rfl) dX12_correct_39 ?_
          by_cases c11 : (f_Md_isBookFull I L) = (0 : Int32)
          · replace hf := (if_pos c11).symm.trans hf
            refine X_if_eq_t (pc := 42) 48 dX12_correct_42 (by decide) c11 ?_
            refine X_aload_n (pc := 48) (i := 0) 0 dX12_correct_48 rfl rfl ?_
            refine X_getr (pc := 49) (a := 34) (ci := 11) (j := 33) (c := 48) (sh_34 hT) (by decide) k_1261 (rf_34_33 hT) (fun _ h => h) dX12_correct_49 ?_
            refine X_bipush (pc := 52) (10 : Int32) dX12_correct_52 (by decide) ?_
            refine X_iload_n (pc := 54) (i := 1) 1 dX12_correct_54 rfl rfl ?_
            refine X_imul (pc := 55) dX12_correct_55 ?_
            refine X_iload_n (pc := 56) (i := 2) 2 dX12_correct_56 rfl rfl ?_
            refine X_iadd (pc := 57) dX12_correct_57 ?_
            refine X_iload_n (pc := 58) (i := 3) 3 dX12_correct_58 rfl rfl ?_
            obtain ⟨c12, hf⟩ := gd_some hf
            refine X_iastj (pc := 59) (j := ((((10 : Int32) * a0) + a1).toNatClampNeg)) (sh_48 hT) (vp_in_lit (N := 80) c12 (by decide)) rfl dX12_correct_59 ?_
            refine X_aload_n (pc := 60) (i := 0) 0 dX12_correct_60 rfl rfl ?_
            refine X_getr (pc := 61) (a := 34) (ci := 11) (j := 33) (c := 48) (sh_34 hT) (by decide) k_1261 (rf_34_33 hT) (fun _ h => h) dX12_correct_61 ?_
            refine X_bipush (pc := 64) (10 : Int32) dX12_correct_64 (by decide) ?_
            refine X_iload_n (pc := 66) (i := 1) 1 dX12_correct_66 rfl rfl ?_
            refine X_imul (pc := 67) dX12_correct_67 ?_
            refine X_bipush (pc := 68) (7 : Int32) dX12_correct_68 (by decide) ?_
            refine X_iadd (pc := 70) dX12_correct_70 ?_
            refine X_iconst (pc := 71) (1 : Int32) dX12_correct_71 (by decide) ?_
            obtain ⟨c13, hf⟩ := gd_some hf
            refine X_iastj (pc := 72) (j := ((((10 : Int32) * a0) + (7 : Int32)).toNatClampNeg)) (sh_48 hT) (vp_in_lit (N := 80) c13 (by decide)) rfl dX12_correct_72 ?_
            refine X_aload_n (pc := 73) (i := 0) 0 dX12_correct_73 rfl rfl ?_
            refine X_iconst (pc := 74) (4 : Int32) dX12_correct_74 (by decide) ?_
            refine X_iload_n (pc := 75) (i := 1) 1 dX12_correct_75 rfl rfl ?_
            refine X_iload_n (pc := 76) (i := 2) 2 dX12_correct_76 rfl rfl ?_
            refine X_iload_n (pc := 77) (i := 3) 3 dX12_correct_77 rfl rfl ?_
            obtain ⟨q14, c15, hf⟩ := bd_some hf
            refine X_invV_v (pc := 78) (c_Md_write hT c15) ok_Md_write (ci := 11) (sh_34 hT) k_1639 k_1641 k_63 nd_2 (by decide) rfl (Nat.le_of_ble_eq_true rfl) dX12_correct_78 ?_
            refine X_iconst (pc := 81) (0 : Int32) dX12_correct_81 (by decide) ?_
            cases hf
            exact X_ireturn (pc := 82) rfl dX12_correct_82
          · replace hf := (if_neg c11).symm.trans hf
            refine X_if_eq_f (pc := 42) 48 dX12_correct_42 (by decide) c11 ?_
            refine X_bipush (pc := 45) (-3 : Int32) dX12_correct_45 (by decide) ?_
            cases hf
            exact X_ireturn (pc := 47) rfl dX12_correct_47
        · replace hf := (if_neg c10).symm.trans hf
          refine X_if_eq_f (pc := 32) 38 dX12_correct_32 (by decide) c10 ?_
          refine X_bipush (pc := 35) (-2 : Int32) dX12_correct_35 (by decide) ?_
          cases hf
          exact X_ireturn (pc := 37) rfl dX12_correct_37
theorem u_Md_correct {S : List xSh} {a0 : Int32} {a1 : Int32} {a2 : Int32} {I : Nat → Nat → Int32} {L : Nat → Nat → Int64} {q : (Int32 × (Nat → Nat → Int32) × (Nat → Nat → Int64))} (hf : f_Md_correct a0 a1 a2 I L = some q) : FR S [48, 55, 4442] [] I q.2.1 L q.2.2 := by
  replace hf := (f_Md_correct.eq_1 _ _ _ _ _).symm.trans hf
  obtain ⟨q1, c2, hf⟩ := bd_some hf
  by_cases c3 : q1 = (0 : Int32)
  · replace hf := (if_pos c3).symm.trans hf
    cases hf
    exact FR.rf
  · replace hf := (if_neg c3).symm.trans hf
    obtain ⟨q4, c5, hf⟩ := bd_some hf
    by_cases c6 : q4 = (0 : Int32)
    · replace hf := (if_pos c6).symm.trans hf
      cases hf
      exact FR.rf
    · replace hf := (if_neg c6).symm.trans hf
      by_cases c7 : (I 34 24) = (0 : Int32)
      · replace hf := (if_pos c7).symm.trans hf
        cases hf
        exact FR.rf
      · replace hf := (if_neg c7).symm.trans hf
        obtain ⟨q8, c9, hf⟩ := bd_some hf
        by_cases c10 : q8 = (0 : Int32)
        · replace hf := (if_pos c10).symm.trans hf
          by_cases c11 : (f_Md_isBookFull I L) = (0 : Int32)
          · replace hf := (if_pos c11).symm.trans hf
            obtain ⟨c12, hf⟩ := gd_some hf
            obtain ⟨c13, hf⟩ := gd_some hf
            obtain ⟨q14, c15, hf⟩ := bd_some hf
            cases hf
            exact (FR.tr (FR.ai (FR.ai FR.rf (by decide)) (by decide)) (u_Md_write (q := q14) c15) (by decide) (by decide))
          · replace hf := (if_neg c11).symm.trans hf
            cases hf
            exact FR.rf
        · replace hf := (if_neg c10).symm.trans hf
          cases hf
          exact FR.rf
theorem dX12_trip_0 : decode cX12_trip 0 = .ok (.aload_n 0, 1) := by decide +kernel
theorem dX12_trip_1 : decode cX12_trip 1 = .ok (.iload_n 1, 1) := by decide +kernel
theorem dX12_trip_2 : decode cX12_trip 2 = .ok (.invokevirtual 395, 3) := by decide +kernel
theorem dX12_trip_5 : decode cX12_trip 5 = .ok (.ifCond .eq 13, 3) := by decide +kernel
theorem dX12_trip_8 : decode cX12_trip 8 = .ok (.aload_n 0, 1) := by decide +kernel
theorem dX12_trip_9 : decode cX12_trip 9 = .ok (.getfield 31, 3) := by decide +kernel
theorem dX12_trip_12 : decode cX12_trip 12 = .ok (.iload_n 1, 1) := by decide +kernel
theorem dX12_trip_13 : decode cX12_trip 13 = .ok (.iaload, 1) := by decide +kernel
theorem dX12_trip_14 : decode cX12_trip 14 = .ok (.iconst 2, 1) := by decide +kernel
theorem dX12_trip_15 : decode cX12_trip 15 = .ok (.if_icmp .eq 5, 3) := by decide +kernel
theorem dX12_trip_18 : decode cX12_trip 18 = .ok (.iconst (-1), 1) := by decide +kernel
theorem dX12_trip_19 : decode cX12_trip 19 = .ok (.ireturn, 1) := by decide +kernel
theorem dX12_trip_20 : decode cX12_trip 20 = .ok (.aload_n 0, 1) := by decide +kernel
theorem dX12_trip_21 : decode cX12_trip 21 = .ok (.getfield 178, 3) := by decide +kernel
theorem dX12_trip_24 : decode cX12_trip 24 = .ok (.ifCond .ne 6, 3) := by decide +kernel
theorem dX12_trip_27 : decode cX12_trip 27 = .ok (.bipush (-2), 2) := by decide +kernel
theorem dX12_trip_29 : decode cX12_trip 29 = .ok (.ireturn, 1) := by decide +kernel
theorem dX12_trip_30 : decode cX12_trip 30 = .ok (.aload_n 0, 1) := by decide +kernel
theorem dX12_trip_31 : decode cX12_trip 31 = .ok (.invokevirtual 379, 3) := by decide +kernel
theorem dX12_trip_34 : decode cX12_trip 34 = .ok (.ifCond .eq 6, 3) := by decide +kernel
theorem dX12_trip_37 : decode cX12_trip 37 = .ok (.bipush (-3), 2) := by decide +kernel
theorem dX12_trip_39 : decode cX12_trip 39 = .ok (.ireturn, 1) := by decide +kernel
theorem dX12_trip_40 : decode cX12_trip 40 = .ok (.aload_n 0, 1) := by decide +kernel
theorem dX12_trip_41 : decode cX12_trip 41 = .ok (.iload_n 1, 1) := by decide +kernel
theorem dX12_trip_42 : decode cX12_trip 42 = .ok (.invokevirtual 368, 3) := by decide +kernel
theorem dX12_trip_45 : decode cX12_trip 45 = .ok (.istore_n 2, 1) := by decide +kernel
theorem dX12_trip_46 : decode cX12_trip 46 = .ok (.aload_n 0, 1) := by decide +kernel
theorem dX12_trip_47 : decode cX12_trip 47 = .ok (.iconst 5, 1) := by decide +kernel
theorem dX12_trip_48 : decode cX12_trip 48 = .ok (.iload_n 1, 1) := by decide +kernel
theorem dX12_trip_49 : decode cX12_trip 49 = .ok (.iconst 0, 1) := by decide +kernel
theorem dX12_trip_50 : decode cX12_trip 50 = .ok (.iconst 0, 1) := by decide +kernel
theorem dX12_trip_51 : decode cX12_trip 51 = .ok (.invokevirtual 385, 3) := by decide +kernel
theorem dX12_trip_54 : decode cX12_trip 54 = .ok (.iload_n 2, 1) := by decide +kernel
theorem dX12_trip_55 : decode cX12_trip 55 = .ok (.ireturn, 1) := by decide +kernel
def f_Md_trip (a0 : Int32) (I : Nat → Nat → Int32) (L : Nat → Nat → Int64) : Option (Int32 × (Nat → Nat → Int32) × (Nat → Nat → Int64)) := ((f_Md_isWork a0 I L).bind fun q1 => (if q1 = (0 : Int32) then (some ((-1 : Int32), I, L)) else (if (0 ≤ a0 ∧ a0 < (8 : Int32)) then (if (I 42 (a0.toNatClampNeg)) = (2 : Int32) then (if (I 34 24) = (0 : Int32) then (some ((-2 : Int32), I, L)) else (if (f_Md_isBookFull I L) = (0 : Int32) then ((f_Md_strikes a0 I L).bind fun q8 => ((f_Md_write (5 : Int32) a0 (0 : Int32) (0 : Int32) q8.2.1 q8.2.2).bind fun q10 => (some (q8.1, q10.1, q10.2)))) else (some ((-3 : Int32), I, L)))) else (some ((-1 : Int32), I, L))) else none)))
set_option maxRecDepth 100000 in
set_option maxHeartbeats 4000000 in
theorem c_Md_trip {G : xG} {S : List xSh} {Rf : Nat → Nat → Option Nat} (hT : xTM S Rf) {a0 : Int32} {I : Nat → Nat → Int32} {L : Nat → Nat → Int64} {q : (Int32 × (Nat → Nat → Int32) × (Nat → Nat → Int64))} (hf : f_Md_trip a0 I L = some q) : CT G 3 m_Md_trip [.ref (xP G 34), .int a0] (S, I, L, Rf) (some (.int q.1), (S, q.2.1, q.2.2, Rf)) := by
  refine CT.of (by decide +kernel) (Nat.le_of_ble_eq_true rfl) ?_
  show X G 3 m_Md_trip 0 [(0, .ref (xP G 34)), (1, .int a0)] [] (S, I, L, Rf) (some (.int q.1), (S, q.2.1, q.2.2, Rf))
  replace hf := (f_Md_trip.eq_1 _ _ _).symm.trans hf
  refine X_aload_n (pc := 0) (i := 0) 0 dX12_trip_0 rfl rfl ?_
  refine X_iload_n (pc := 1) (i := 1) 1 dX12_trip_1 rfl rfl ?_
  obtain ⟨q1, c2, hf⟩ := bd_some hf
  refine X_invV_i (pc := 2) (c_Md_isWork hT c2) ok_Md_isWork (ci := 11) (sh_34 hT) k_1660 k_1662 k_64 nd_5 (by decide) rfl (Nat.le_of_ble_eq_true rfl) dX12_trip_2 ?_
  by_cases c3 : q1 = (0 : Int32)
  · replace hf := (if_pos c3).symm.trans hf
    refine X_if_eq_t (pc := 5) 18 dX12_trip_5 (by decide) c3 ?_
    refine X_iconst (pc := 18) (-1 : Int32) dX12_trip_18 (by decide) ?_
    cases hf
    exact X_ireturn (pc := 19) rfl dX12_trip_19
  · replace hf := (if_neg c3).symm.trans hf
    refine X_if_eq_f (pc := 5) 18 dX12_trip_5 (by decide) c3 ?_
    refine X_aload_n (pc := 8) (i := 0) 0 dX12_trip_8 rfl rfl ?_
    refine X_getr (pc := 9) (a := 34) (ci := 11) (j := 17) (c := 42) (sh_34 hT) (by decide) k_1245 (rf_34_17 hT) (fun _ h => h) dX12_trip_9 ?_
    refine X_iload_n (pc := 12) (i := 1) 1 dX12_trip_12 rfl rfl ?_
    obtain ⟨c4, hf⟩ := gd_some hf
    refine X_ialdj (pc := 13) (j := a0.toNatClampNeg) (I 42 (a0.toNatClampNeg)) (sh_42 hT) (vp_in_lit (N := 8) c4 (by decide)) rfl rfl dX12_trip_13 ?_
    refine X_iconst (pc := 14) (2 : Int32) dX12_trip_14 (by decide) ?_
    by_cases c5 : (I 42 (a0.toNatClampNeg)) = (2 : Int32)
    · replace hf := (if_pos c5).symm.trans hf
      refine X_icmp_eq_t (pc := 15) 20 dX12_trip_15 (by decide) c5 ?_
      refine X_aload_n (pc := 20) (i := 0) 0 dX12_trip_20 rfl rfl ?_
      refine X_get (pc := 21) (a := 34) (ci := 11) (j := 24) (.int (I 34 24)) (sh_34 hT) (by decide) k_1252 rfl dX12_trip_21 ?_
      by_cases c6 : (I 34 24) = (0 : Int32)
      · replace hf := (if_pos c6).symm.trans hf
        refine X_if_ne_f (pc := 24) 30 dX12_trip_24 (by decide) c6 ?_
        refine X_bipush (pc := 27) (-2 : Int32) dX12_trip_27 (by decide) ?_
        cases hf
        exact X_ireturn (pc := 29) rfl dX12_trip_29
      · replace hf := (if_neg c6).symm.trans hf
        refine X_if_ne_t (pc := 24) 30 dX12_trip_24 (by decide) c6 ?_
        refine X_aload_n (pc := 30) (i := 0) 0 dX12_trip_30 rfl rfl ?_
        refine X_invV_i (pc := 31) (c_Md_isBookFull hT rfl) ok_Md_isBookFull (ci := 11) (sh_34 hT) k_1579 k_1581 k_51 nd_11 (by decide) rfl (Nat.le_of_ble_eq_true rfl) dX12_trip_31 ?_
        by_cases c7 : (f_Md_isBookFull I L) = (0 : Int32)
        · replace hf := (if_pos c7).symm.trans hf
          refine X_if_eq_t (pc := 34) 40 dX12_trip_34 (by decide) c7 ?_
          refine X_aload_n (pc := 40) (i := 0) 0 dX12_trip_40 rfl rfl ?_
          refine X_iload_n (pc := 41) (i := 1) 1 dX12_trip_41 rfl rfl ?_
          obtain ⟨q8, c9, hf⟩ := bd_some hf
          refine X_invV_i (pc := 42) (c_Md_strikes hT c9) ok_Md_strikes (ci := 11) (sh_34 hT) k_1635 k_1637 k_62 nd_8 (by decide) rfl (Nat.le_of_ble_eq_true rfl) dX12_trip_42 ?_
          refine X_istore_n (pc := 45) (i := 2) [(2, .int q8.1), (0, .ref (xP G 34)), (1, .int a0)] dX12_trip_45 rfl (by decide) rfl ?_
          refine X_aload_n (pc := 46) (i := 0) 1 dX12_trip_46 rfl rfl ?_
          refine X_iconst (pc := 47) (5 : Int32) dX12_trip_47 (by decide) ?_
          refine X_iload_n (pc := 48) (i := 1) 2 dX12_trip_48 rfl rfl ?_
          refine X_iconst (pc := 49) (0 : Int32) dX12_trip_49 (by decide) ?_
          refine X_iconst (pc := 50) (0 : Int32) dX12_trip_50 (by decide) ?_
          obtain ⟨q10, c11, hf⟩ := bd_some hf
          refine X_invV_v (pc := 51) (c_Md_write hT c11) ok_Md_write (ci := 11) (sh_34 hT) k_1639 k_1641 k_63 nd_2 (by decide) rfl (Nat.le_of_ble_eq_true rfl) dX12_trip_51 ?_
          refine X_iload_n (pc := 54) (i := 2) 0 dX12_trip_54 rfl rfl ?_
          cases hf
          exact X_ireturn (pc := 55) rfl dX12_trip_55
        · replace hf := (if_neg c7).symm.trans hf
          refine X_if_eq_f (pc := 34) 40 dX12_trip_34 (by decide) c7 ?_
          refine X_bipush (pc := 37) (-3 : Int32) dX12_trip_37 (by decide) ?_
          cases hf
          exact X_ireturn (pc := 39) rfl dX12_trip_39
    · replace hf := (if_neg c5).symm.trans hf
      refine X_icmp_eq_f (pc := 15) 20 dX12_trip_15 (by decide) c5 ?_
      refine X_iconst (pc := 18) (-1 : Int32) dX12_trip_18 (by decide) ?_
      cases hf
      exact X_ireturn (pc := 19) rfl dX12_trip_19
theorem u_Md_trip {S : List xSh} {a0 : Int32} {I : Nat → Nat → Int32} {L : Nat → Nat → Int64} {q : (Int32 × (Nat → Nat → Int32) × (Nat → Nat → Int64))} (hf : f_Md_trip a0 I L = some q) : FR S [48, 54, 55, 4440, 4442] [] I q.2.1 L q.2.2 := by
  replace hf := (f_Md_trip.eq_1 _ _ _).symm.trans hf
  obtain ⟨q1, c2, hf⟩ := bd_some hf
  by_cases c3 : q1 = (0 : Int32)
  · replace hf := (if_pos c3).symm.trans hf
    cases hf
    exact FR.rf
  · replace hf := (if_neg c3).symm.trans hf
    obtain ⟨c4, hf⟩ := gd_some hf
    by_cases c5 : (I 42 (a0.toNatClampNeg)) = (2 : Int32)
    · replace hf := (if_pos c5).symm.trans hf
      by_cases c6 : (I 34 24) = (0 : Int32)
      · replace hf := (if_pos c6).symm.trans hf
        cases hf
        exact FR.rf
      · replace hf := (if_neg c6).symm.trans hf
        by_cases c7 : (f_Md_isBookFull I L) = (0 : Int32)
        · replace hf := (if_pos c7).symm.trans hf
          obtain ⟨q8, c9, hf⟩ := bd_some hf
          obtain ⟨q10, c11, hf⟩ := bd_some hf
          cases hf
          exact (FR.tr (FR.tr FR.rf (u_Md_strikes (q := q8) c9) (by decide) (by decide)) (u_Md_write (q := q10) c11) (by decide) (by decide))
        · replace hf := (if_neg c7).symm.trans hf
          cases hf
          exact FR.rf
    · replace hf := (if_neg c5).symm.trans hf
      cases hf
      exact FR.rf
theorem dX12_back_0 : decode cX12_back 0 = .ok (.iload_n 1, 1) := by decide +kernel
theorem dX12_back_1 : decode cX12_back 1 = .ok (.i2l, 1) := by decide +kernel
theorem dX12_back_2 : decode cX12_back 2 = .ok (.lconst 0, 1) := by decide +kernel
theorem dX12_back_3 : decode cX12_back 3 = .ok (.aload_n 0, 1) := by decide +kernel
theorem dX12_back_4 : decode cX12_back 4 = .ok (.getfield 144, 3) := by decide +kernel
theorem dX12_back_7 : decode cX12_back 7 = .ok (.i2l, 1) := by decide +kernel
theorem dX12_back_8 : decode cX12_back 8 = .ok (.invokestatic 140, 3) := by decide +kernel
theorem dX12_back_11 : decode cX12_back 11 = .ok (.ifCond .ne 5, 3) := by decide +kernel
theorem dX12_back_14 : decode cX12_back 14 = .ok (.iconst (-1), 1) := by decide +kernel
theorem dX12_back_15 : decode cX12_back 15 = .ok (.ireturn, 1) := by decide +kernel
theorem dX12_back_16 : decode cX12_back 16 = .ok (.aload_n 0, 1) := by decide +kernel
theorem dX12_back_17 : decode cX12_back 17 = .ok (.getfield 178, 3) := by decide +kernel
theorem dX12_back_20 : decode cX12_back 20 = .ok (.ifCond .ne 6, 3) := by decide +kernel
theorem dX12_back_23 : decode cX12_back 23 = .ok (.bipush (-2), 2) := by decide +kernel
theorem dX12_back_25 : decode cX12_back 25 = .ok (.ireturn, 1) := by decide +kernel
theorem dX12_back_26 : decode cX12_back 26 = .ok (.aload_n 0, 1) := by decide +kernel
theorem dX12_back_27 : decode cX12_back 27 = .ok (.invokevirtual 182, 3) := by decide +kernel
theorem dX12_back_30 : decode cX12_back 30 = .ok (.aload_n 0, 1) := by decide +kernel
theorem dX12_back_31 : decode cX12_back 31 = .ok (.iconst 1, 1) := by decide +kernel
theorem dX12_back_32 : decode cX12_back 32 = .ok (.putfield 373, 3) := by decide +kernel
theorem dX12_back_35 : decode cX12_back 35 = .ok (.iconst 0, 1) := by decide +kernel
theorem dX12_back_36 : decode cX12_back 36 = .ok (.istore_n 2, 1) := by decide +kernel
theorem dX12_back_37 : decode cX12_back 37 = .ok (.iload_n 2, 1) := by decide +kernel
theorem dX12_back_38 : decode cX12_back 38 = .ok (.iload_n 1, 1) := by decide +kernel
theorem dX12_back_39 : decode cX12_back 39 = .ok (.if_icmp .ge 152, 3) := by decide +kernel
theorem dX12_back_42 : decode cX12_back 42 = .ok (.aload_n 0, 1) := by decide +kernel
theorem dX12_back_43 : decode cX12_back 43 = .ok (.getfield 71, 3) := by decide +kernel
theorem dX12_back_46 : decode cX12_back 46 = .ok (.iconst 4, 1) := by decide +kernel
theorem dX12_back_47 : decode cX12_back 47 = .ok (.iload_n 2, 1) := by decide +kernel
theorem dX12_back_48 : decode cX12_back 48 = .ok (.imul, 1) := by decide +kernel
theorem dX12_back_49 : decode cX12_back 49 = .ok (.iconst 1, 1) := by decide +kernel
theorem dX12_back_50 : decode cX12_back 50 = .ok (.iadd, 1) := by decide +kernel
theorem dX12_back_51 : decode cX12_back 51 = .ok (.iaload, 1) := by decide +kernel
theorem dX12_back_52 : decode cX12_back 52 = .ok (.istore_n 3, 1) := by decide +kernel
theorem dX12_back_53 : decode cX12_back 53 = .ok (.aload_n 0, 1) := by decide +kernel
theorem dX12_back_54 : decode cX12_back 54 = .ok (.getfield 71, 3) := by decide +kernel
theorem dX12_back_57 : decode cX12_back 57 = .ok (.iconst 4, 1) := by decide +kernel
theorem dX12_back_58 : decode cX12_back 58 = .ok (.iload_n 2, 1) := by decide +kernel
theorem dX12_back_59 : decode cX12_back 59 = .ok (.imul, 1) := by decide +kernel
theorem dX12_back_60 : decode cX12_back 60 = .ok (.iconst 2, 1) := by decide +kernel
theorem dX12_back_61 : decode cX12_back 61 = .ok (.iadd, 1) := by decide +kernel
theorem dX12_back_62 : decode cX12_back 62 = .ok (.iaload, 1) := by decide +kernel
theorem dX12_back_63 : decode cX12_back 63 = .ok (.istore 4, 2) := by decide +kernel
theorem dX12_back_65 : decode cX12_back 65 = .ok (.aload_n 0, 1) := by decide +kernel
theorem dX12_back_66 : decode cX12_back 66 = .ok (.getfield 71, 3) := by decide +kernel
theorem dX12_back_69 : decode cX12_back 69 = .ok (.iconst 4, 1) := by decide +kernel
theorem dX12_back_70 : decode cX12_back 70 = .ok (.iload_n 2, 1) := by decide +kernel
theorem dX12_back_71 : decode cX12_back 71 = .ok (.imul, 1) := by decide +kernel
theorem dX12_back_72 : decode cX12_back 72 = .ok (.iaload, 1) := by decide +kernel
theorem dX12_back_73 : decode cX12_back 73 = .ok (.ifCond .ne 11, 3) := by decide +kernel
theorem dX12_back_76 : decode cX12_back 76 = .ok (.aload_n 0, 1) := by decide +kernel
theorem dX12_back_77 : decode cX12_back 77 = .ok (.iload_n 3, 1) := by decide +kernel
theorem dX12_back_78 : decode cX12_back 78 = .ok (.invokevirtual 405, 3) := by decide +kernel
theorem dX12_back_81 : decode cX12_back 81 = .ok (.goto 102, 3) := by decide +kernel
theorem dX12_back_84 : decode cX12_back 84 = .ok (.aload_n 0, 1) := by decide +kernel
theorem dX12_back_85 : decode cX12_back 85 = .ok (.getfield 71, 3) := by decide +kernel
theorem dX12_back_88 : decode cX12_back 88 = .ok (.iconst 4, 1) := by decide +kernel
theorem dX12_back_89 : decode cX12_back 89 = .ok (.iload_n 2, 1) := by decide +kernel
theorem dX12_back_90 : decode cX12_back 90 = .ok (.imul, 1) := by decide +kernel
theorem dX12_back_91 : decode cX12_back 91 = .ok (.iaload, 1) := by decide +kernel
theorem dX12_back_92 : decode cX12_back 92 = .ok (.iconst 1, 1) := by decide +kernel
theorem dX12_back_93 : decode cX12_back 93 = .ok (.if_icmp .ne 11, 3) := by decide +kernel
theorem dX12_back_96 : decode cX12_back 96 = .ok (.aload_n 0, 1) := by decide +kernel
theorem dX12_back_97 : decode cX12_back 97 = .ok (.iload_n 3, 1) := by decide +kernel
theorem dX12_back_98 : decode cX12_back 98 = .ok (.invokevirtual 408, 3) := by decide +kernel
theorem dX12_back_101 : decode cX12_back 101 = .ok (.goto 82, 3) := by decide +kernel
theorem dX12_back_104 : decode cX12_back 104 = .ok (.aload_n 0, 1) := by decide +kernel
theorem dX12_back_105 : decode cX12_back 105 = .ok (.getfield 71, 3) := by decide +kernel
theorem dX12_back_108 : decode cX12_back 108 = .ok (.iconst 4, 1) := by decide +kernel
theorem dX12_back_109 : decode cX12_back 109 = .ok (.iload_n 2, 1) := by decide +kernel
theorem dX12_back_110 : decode cX12_back 110 = .ok (.imul, 1) := by decide +kernel
theorem dX12_back_111 : decode cX12_back 111 = .ok (.iaload, 1) := by decide +kernel
theorem dX12_back_112 : decode cX12_back 112 = .ok (.iconst 2, 1) := by decide +kernel
theorem dX12_back_113 : decode cX12_back 113 = .ok (.if_icmp .ne 11, 3) := by decide +kernel
theorem dX12_back_116 : decode cX12_back 116 = .ok (.aload_n 0, 1) := by decide +kernel
theorem dX12_back_117 : decode cX12_back 117 = .ok (.iload_n 3, 1) := by decide +kernel
theorem dX12_back_118 : decode cX12_back 118 = .ok (.invokevirtual 411, 3) := by decide +kernel
theorem dX12_back_121 : decode cX12_back 121 = .ok (.goto 62, 3) := by decide +kernel
theorem dX12_back_124 : decode cX12_back 124 = .ok (.aload_n 0, 1) := by decide +kernel
theorem dX12_back_125 : decode cX12_back 125 = .ok (.getfield 71, 3) := by decide +kernel
theorem dX12_back_128 : decode cX12_back 128 = .ok (.iconst 4, 1) := by decide +kernel
theorem dX12_back_129 : decode cX12_back 129 = .ok (.iload_n 2, 1) := by decide +kernel
theorem dX12_back_130 : decode cX12_back 130 = .ok (.imul, 1) := by decide +kernel
theorem dX12_back_131 : decode cX12_back 131 = .ok (.iaload, 1) := by decide +kernel
theorem dX12_back_132 : decode cX12_back 132 = .ok (.iconst 3, 1) := by decide +kernel
theorem dX12_back_133 : decode cX12_back 133 = .ok (.if_icmp .ne 13, 3) := by decide +kernel
theorem dX12_back_136 : decode cX12_back 136 = .ok (.aload_n 0, 1) := by decide +kernel
theorem dX12_back_137 : decode cX12_back 137 = .ok (.iload_n 3, 1) := by decide +kernel
theorem dX12_back_138 : decode cX12_back 138 = .ok (.iload 4, 2) := by decide +kernel
theorem dX12_back_140 : decode cX12_back 140 = .ok (.invokevirtual 414, 3) := by decide +kernel
theorem dX12_back_143 : decode cX12_back 143 = .ok (.goto 40, 3) := by decide +kernel
theorem dX12_back_146 : decode cX12_back 146 = .ok (.aload_n 0, 1) := by decide +kernel
theorem dX12_back_147 : decode cX12_back 147 = .ok (.getfield 71, 3) := by decide +kernel
theorem dX12_back_150 : decode cX12_back 150 = .ok (.iconst 4, 1) := by decide +kernel
theorem dX12_back_151 : decode cX12_back 151 = .ok (.iload_n 2, 1) := by decide +kernel
theorem dX12_back_152 : decode cX12_back 152 = .ok (.imul, 1) := by decide +kernel
theorem dX12_back_153 : decode cX12_back 153 = .ok (.iaload, 1) := by decide +kernel
theorem dX12_back_154 : decode cX12_back 154 = .ok (.iconst 4, 1) := by decide +kernel
theorem dX12_back_155 : decode cX12_back 155 = .ok (.if_icmp .ne 23, 3) := by decide +kernel
theorem dX12_back_158 : decode cX12_back 158 = .ok (.aload_n 0, 1) := by decide +kernel
theorem dX12_back_159 : decode cX12_back 159 = .ok (.iload_n 3, 1) := by decide +kernel
theorem dX12_back_160 : decode cX12_back 160 = .ok (.iload 4, 2) := by decide +kernel
theorem dX12_back_162 : decode cX12_back 162 = .ok (.aload_n 0, 1) := by decide +kernel
theorem dX12_back_163 : decode cX12_back 163 = .ok (.getfield 71, 3) := by decide +kernel
theorem dX12_back_166 : decode cX12_back 166 = .ok (.iconst 4, 1) := by decide +kernel
theorem dX12_back_167 : decode cX12_back 167 = .ok (.iload_n 2, 1) := by decide +kernel
theorem dX12_back_168 : decode cX12_back 168 = .ok (.imul, 1) := by decide +kernel
theorem dX12_back_169 : decode cX12_back 169 = .ok (.iconst 3, 1) := by decide +kernel
theorem dX12_back_170 : decode cX12_back 170 = .ok (.iadd, 1) := by decide +kernel
theorem dX12_back_171 : decode cX12_back 171 = .ok (.iaload, 1) := by decide +kernel
theorem dX12_back_172 : decode cX12_back 172 = .ok (.invokevirtual 417, 3) := by decide +kernel
theorem dX12_back_175 : decode cX12_back 175 = .ok (.goto 8, 3) := by decide +kernel
theorem dX12_back_178 : decode cX12_back 178 = .ok (.aload_n 0, 1) := by decide +kernel
theorem dX12_back_179 : decode cX12_back 179 = .ok (.iload_n 3, 1) := by decide +kernel
theorem dX12_back_180 : decode cX12_back 180 = .ok (.invokevirtual 420, 3) := by decide +kernel
theorem dX12_back_183 : decode cX12_back 183 = .ok (.istore 5, 2) := by decide +kernel
theorem dX12_back_185 : decode cX12_back 185 = .ok (.iinc 2 1, 3) := by decide +kernel
theorem dX12_back_188 : decode cX12_back 188 = .ok (.goto (-151), 3) := by decide +kernel
theorem dX12_back_191 : decode cX12_back 191 = .ok (.aload_n 0, 1) := by decide +kernel
theorem dX12_back_192 : decode cX12_back 192 = .ok (.iconst 0, 1) := by decide +kernel
theorem dX12_back_193 : decode cX12_back 193 = .ok (.putfield 373, 3) := by decide +kernel
theorem dX12_back_196 : decode cX12_back 196 = .ok (.aload_n 0, 1) := by decide +kernel
theorem dX12_back_197 : decode cX12_back 197 = .ok (.iload_n 1, 1) := by decide +kernel
theorem dX12_back_198 : decode cX12_back 198 = .ok (.putfield 144, 3) := by decide +kernel
theorem dX12_back_201 : decode cX12_back 201 = .ok (.iconst 0, 1) := by decide +kernel
theorem dX12_back_202 : decode cX12_back 202 = .ok (.ireturn, 1) := by decide +kernel
def f_Md_back_L37 : Nat → Int32 → Int32 → (Nat → Nat → Int32) → (Nat → Nat → Int64) → Option (Int32 × (Nat → Nat → Int32) × (Nat → Nat → Int64))
  | 0, _, _, _, _ => none
  | n + 1, l1, l2, I, L => (if l1 ≤ l2 then (some ((0 : Int32), (uI (uI I 34 43 (0 : Int32)) 34 42 l1), L)) else (if (0 ≤ (((4 : Int32) * l2) + (1 : Int32)) ∧ (((4 : Int32) * l2) + (1 : Int32)) < (8000 : Int32)) then (bnd (I 55 ((((4 : Int32) * l2) + (1 : Int32)).toNatClampNeg)) fun x8 => (if (0 ≤ (((4 : Int32) * l2) + (2 : Int32)) ∧ (((4 : Int32) * l2) + (2 : Int32)) < (8000 : Int32)) then (bnd (I 55 ((((4 : Int32) * l2) + (2 : Int32)).toNatClampNeg)) fun x10 => (if (0 ≤ ((4 : Int32) * l2) ∧ ((4 : Int32) * l2) < (8000 : Int32)) then (if (I 55 (((4 : Int32) * l2).toNatClampNeg)) = (0 : Int32) then ((f_Md_run x8 I L).bind fun q13 => (f_Md_back_L37 n l1 (l2 + (1 : Int32)) q13.2.1 q13.2.2)) else (if (0 ≤ ((4 : Int32) * l2) ∧ ((4 : Int32) * l2) < (8000 : Int32)) then (if (I 55 (((4 : Int32) * l2).toNatClampNeg)) = (1 : Int32) then ((f_Md_shock x8 I L).bind fun q17 => (f_Md_back_L37 n l1 (l2 + (1 : Int32)) q17.2.1 q17.2.2)) else (if (0 ≤ ((4 : Int32) * l2) ∧ ((4 : Int32) * l2) < (8000 : Int32)) then (if (I 55 (((4 : Int32) * l2).toNatClampNeg)) = (2 : Int32) then ((f_Md_wind x8 I L).bind fun q21 => (f_Md_back_L37 n l1 (l2 + (1 : Int32)) q21.2.1 q21.2.2)) else (if (0 ≤ ((4 : Int32) * l2) ∧ ((4 : Int32) * l2) < (8000 : Int32)) then (if (I 55 (((4 : Int32) * l2).toNatClampNeg)) = (3 : Int32) then ((f_Md_press x8 x10 I L).bind fun q25 => (f_Md_back_L37 n l1 (l2 + (1 : Int32)) q25.2.1 q25.2.2)) else (if (0 ≤ ((4 : Int32) * l2) ∧ ((4 : Int32) * l2) < (8000 : Int32)) then (if (I 55 (((4 : Int32) * l2).toNatClampNeg)) = (4 : Int32) then (if (0 ≤ (((4 : Int32) * l2) + (3 : Int32)) ∧ (((4 : Int32) * l2) + (3 : Int32)) < (8000 : Int32)) then ((f_Md_correct x8 x10 (I 55 ((((4 : Int32) * l2) + (3 : Int32)).toNatClampNeg)) I L).bind fun q30 => (f_Md_back_L37 n l1 (l2 + (1 : Int32)) q30.2.1 q30.2.2)) else none) else ((f_Md_trip x8 I L).bind fun q32 => (f_Md_back_L37 n l1 (l2 + (1 : Int32)) q32.2.1 q32.2.2))) else none)) else none)) else none)) else none)) else none)) else none)) else none))
set_option maxRecDepth 100000 in
set_option maxHeartbeats 4000000 in
theorem x_Md_back_L37 {G : xG} {S : List xSh} {Rf : Nat → Nat → Option Nat} (hT : xTM S Rf) : ∀ (n : Nat) {l1 : Int32} {l2 : Int32} {I : Nat → Nat → Int32} {L : Nat → Nat → Int64} {q : (Int32 × (Nat → Nat → Int32) × (Nat → Nat → Int64))}, f_Md_back_L37 n l1 l2 I L = some q → X G 9 m_Md_back 37 [(0, .ref (xP G 34)), (1, .int l1), (2, .int l2)] [] (S, I, L, Rf) (some (.int q.1), (S, q.2.1, q.2.2, Rf)) := by
  intro n
  induction n with
  | zero =>
    intro l1 l2 I L q hf
    exact absurd (show none = some q from hf) (by simp)
  | succ n ih =>
    intro l1 l2 I L q hf
    replace hf := (f_Md_back_L37.eq_2 _ _ _ _ _).symm.trans hf
    refine X_iload_n (pc := 37) (i := 2) 2 dX12_back_37 rfl rfl ?_
    refine X_iload_n (pc := 38) (i := 1) 1 dX12_back_38 rfl rfl ?_
    by_cases c6 : l1 ≤ l2
    · replace hf := (if_pos c6).symm.trans hf
      refine X_icmp_ge_t (pc := 39) 191 dX12_back_39 (by decide) c6 ?_
      refine X_aload_n (pc := 191) (i := 0) 0 dX12_back_191 rfl rfl ?_
      refine X_iconst (pc := 192) (0 : Int32) dX12_back_192 (by decide) ?_
      refine X_putz (pc := 193) (a := 34) (ci := 11) (j := 43) 43 rfl false (sh_34 hT) (by decide) k_1271 rfl (fun h => by cases h) rfl (by decide) dX12_back_193 ?_
      refine X_aload_n (pc := 196) (i := 0) 0 dX12_back_196 rfl rfl ?_
      refine X_iload_n (pc := 197) (i := 1) 1 dX12_back_197 rfl rfl ?_
      refine X_puti (pc := 198) (a := 34) (ci := 11) (j := 42) 42 rfl false (sh_34 hT) (by decide) k_1270 rfl (fun h => by cases h) rfl dX12_back_198 ?_
      refine X_iconst (pc := 201) (0 : Int32) dX12_back_201 (by decide) ?_
      cases hf
      exact X_ireturn (pc := 202) rfl dX12_back_202
    · replace hf := (if_neg c6).symm.trans hf
      refine X_icmp_ge_f (pc := 39) 191 dX12_back_39 (by decide) c6 ?_
      refine X_aload_n (pc := 42) (i := 0) 0 dX12_back_42 rfl rfl ?_
      refine X_getr (pc := 43) (a := 34) (ci := 11) (j := 41) (c := 55) (sh_34 hT) (by decide) k_1269 (rf_34_41 hT) (fun _ h => h) dX12_back_43 ?_
      refine X_iconst (pc := 46) (4 : Int32) dX12_back_46 (by decide) ?_
      refine X_iload_n (pc := 47) (i := 2) 2 dX12_back_47 rfl rfl ?_
      refine X_imul (pc := 48) dX12_back_48 ?_
      refine X_iconst (pc := 49) (1 : Int32) dX12_back_49 (by decide) ?_
      refine X_iadd (pc := 50) dX12_back_50 ?_
      obtain ⟨c7, hf⟩ := gd_some hf
      refine X_ialdj (pc := 51) (j := (((4 : Int32) * l2) + (1 : Int32)).toNatClampNeg) (I 55 ((((4 : Int32) * l2) + (1 : Int32)).toNatClampNeg)) (sh_55 hT) (vp_in_lit (N := 8000) c7 (by decide)) rfl rfl dX12_back_51 ?_
      obtain ⟨x8, ex8, hf⟩ := bnd_e hf
      refine X_tope ex8 ?_
      refine X_istore_n (pc := 52) (i := 3) [(3, .int x8), (0, .ref (xP G 34)), (1, .int l1), (2, .int l2)] dX12_back_52 rfl (by decide) rfl ?_
      refine X_aload_n (pc := 53) (i := 0) 1 dX12_back_53 rfl rfl ?_
      refine X_getr (pc := 54) (a := 34) (ci := 11) (j := 41) (c := 55) (sh_34 hT) (by decide) k_1269 (rf_34_41 hT) (fun _ h => h) dX12_back_54 ?_
      refine X_iconst (pc := 57) (4 : Int32) dX12_back_57 (by decide) ?_
      refine X_iload_n (pc := 58) (i := 2) 3 dX12_back_58 rfl rfl ?_
      refine X_imul (pc := 59) dX12_back_59 ?_
      refine X_iconst (pc := 60) (2 : Int32) dX12_back_60 (by decide) ?_
      refine X_iadd (pc := 61) dX12_back_61 ?_
      obtain ⟨c9, hf⟩ := gd_some hf
      refine X_ialdj (pc := 62) (j := (((4 : Int32) * l2) + (2 : Int32)).toNatClampNeg) (I 55 ((((4 : Int32) * l2) + (2 : Int32)).toNatClampNeg)) (sh_55 hT) (vp_in_lit (N := 8000) c9 (by decide)) rfl rfl dX12_back_62 ?_
      obtain ⟨x10, ex10, hf⟩ := bnd_e hf
      refine X_tope ex10 ?_
      refine X_istore (pc := 63) [(4, .int x10), (3, .int x8), (0, .ref (xP G 34)), (1, .int l1), (2, .int l2)] dX12_back_63 (by decide) rfl ?_
      refine X_aload_n (pc := 65) (i := 0) 2 dX12_back_65 rfl rfl ?_
      refine X_getr (pc := 66) (a := 34) (ci := 11) (j := 41) (c := 55) (sh_34 hT) (by decide) k_1269 (rf_34_41 hT) (fun _ h => h) dX12_back_66 ?_
      refine X_iconst (pc := 69) (4 : Int32) dX12_back_69 (by decide) ?_
      refine X_iload_n (pc := 70) (i := 2) 4 dX12_back_70 rfl rfl ?_
      refine X_imul (pc := 71) dX12_back_71 ?_
      obtain ⟨c11, hf⟩ := gd_some hf
      refine X_ialdj (pc := 72) (j := ((4 : Int32) * l2).toNatClampNeg) (I 55 (((4 : Int32) * l2).toNatClampNeg)) (sh_55 hT) (vp_in_lit (N := 8000) c11 (by decide)) rfl rfl dX12_back_72 ?_
      by_cases c12 : (I 55 (((4 : Int32) * l2).toNatClampNeg)) = (0 : Int32)
      · replace hf := (if_pos c12).symm.trans hf
        refine X_if_ne_f (pc := 73) 84 dX12_back_73 (by decide) c12 ?_
        refine X_aload_n (pc := 76) (i := 0) 2 dX12_back_76 rfl rfl ?_
        refine X_iload_n (pc := 77) (i := 3) 1 dX12_back_77 rfl rfl ?_
        obtain ⟨q13, c14, hf⟩ := bd_some hf
        refine X_invV_i (pc := 78) (c_Md_run hT c14) ok_Md_run (ci := 11) (sh_34 hT) k_1683 k_1574 k_1575 nd_8 (by decide) rfl (Nat.le_of_ble_eq_true rfl) dX12_back_78 ?_
        refine X_goto (pc := 81) 183 dX12_back_81 (by decide) ?_
        refine X_istore (pc := 183) [(5, .int q13.1), (4, .int x10), (3, .int x8), (0, .ref (xP G 34)), (1, .int l1), (2, .int l2)] dX12_back_183 (by decide) rfl ?_
        refine X_iinc (pc := 185) (i := 2) (q := 5) (v := (l2 + (1 : Int32))) [(2, .int (l2 + (1 : Int32))), (5, .int q13.1), (4, .int x10), (3, .int x8), (0, .ref (xP G 34)), (1, .int l1)] dX12_back_185 rfl rfl (by decide) rfl ?_
        refine X_goto (pc := 188) 37 dX12_back_188 (by decide) ?_
        exact X_lvs [4, 5, 0] rfl (ih hf)
      · replace hf := (if_neg c12).symm.trans hf
        refine X_if_ne_t (pc := 73) 84 dX12_back_73 (by decide) c12 ?_
        refine X_aload_n (pc := 84) (i := 0) 2 dX12_back_84 rfl rfl ?_
        refine X_getr (pc := 85) (a := 34) (ci := 11) (j := 41) (c := 55) (sh_34 hT) (by decide) k_1269 (rf_34_41 hT) (fun _ h => h) dX12_back_85 ?_
        refine X_iconst (pc := 88) (4 : Int32) dX12_back_88 (by decide) ?_
        refine X_iload_n (pc := 89) (i := 2) 4 dX12_back_89 rfl rfl ?_
        refine X_imul (pc := 90) dX12_back_90 ?_
        obtain ⟨c15, hf⟩ := gd_some hf
        refine X_ialdj (pc := 91) (j := ((4 : Int32) * l2).toNatClampNeg) (I 55 (((4 : Int32) * l2).toNatClampNeg)) (sh_55 hT) (vp_in_lit (N := 8000) c15 (by decide)) rfl rfl dX12_back_91 ?_
        refine X_iconst (pc := 92) (1 : Int32) dX12_back_92 (by decide) ?_
        by_cases c16 : (I 55 (((4 : Int32) * l2).toNatClampNeg)) = (1 : Int32)
        · replace hf := (if_pos c16).symm.trans hf
          refine X_icmp_ne_f (pc := 93) 104 dX12_back_93 (by decide) c16 ?_
          refine X_aload_n (pc := 96) (i := 0) 2 dX12_back_96 rfl rfl ?_
          refine X_iload_n (pc := 97) (i := 3) 1 dX12_back_97 rfl rfl ?_
          obtain ⟨q17, c18, hf⟩ := bd_some hf
          refine X_invV_i (pc := 98) (c_Md_shock hT c18) ok_Md_shock (ci := 11) (sh_34 hT) k_1684 k_1644 k_1645 nd_8 (by decide) rfl (Nat.le_of_ble_eq_true rfl) dX12_back_98 ?_
          refine X_goto (pc := 101) 183 dX12_back_101 (by decide) ?_
          refine X_istore (pc := 183) [(5, .int q17.1), (4, .int x10), (3, .int x8), (0, .ref (xP G 34)), (1, .int l1), (2, .int l2)] dX12_back_183 (by decide) rfl ?_
          refine X_iinc (pc := 185) (i := 2) (q := 5) (v := (l2 + (1 : Int32))) [(2, .int (l2 + (1 : Int32))), (5, .int q17.1), (4, .int x10), (3, .int x8), (0, .ref (xP G 34)), (1, .int l1)] dX12_back_185 rfl rfl (by decide) rfl ?_
          refine X_goto (pc := 188) 37 dX12_back_188 (by decide) ?_
          exact X_lvs [4, 5, 0] rfl (ih hf)
        · replace hf := (if_neg c16).symm.trans hf
          refine X_icmp_ne_t (pc := 93) 104 dX12_back_93 (by decide) c16 ?_
          refine X_aload_n (pc := 104) (i := 0) 2 dX12_back_104 rfl rfl ?_
          refine X_getr (pc := 105) (a := 34) (ci := 11) (j := 41) (c := 55) (sh_34 hT) (by decide) k_1269 (rf_34_41 hT) (fun _ h => h) dX12_back_105 ?_
          refine X_iconst (pc := 108) (4 : Int32) dX12_back_108 (by decide) ?_
          refine X_iload_n (pc := 109) (i := 2) 4 dX12_back_109 rfl rfl ?_
          refine X_imul (pc := 110) dX12_back_110 ?_
          obtain ⟨c19, hf⟩ := gd_some hf
          refine X_ialdj (pc := 111) (j := ((4 : Int32) * l2).toNatClampNeg) (I 55 (((4 : Int32) * l2).toNatClampNeg)) (sh_55 hT) (vp_in_lit (N := 8000) c19 (by decide)) rfl rfl dX12_back_111 ?_
          refine X_iconst (pc := 112) (2 : Int32) dX12_back_112 (by decide) ?_
          by_cases c20 : (I 55 (((4 : Int32) * l2).toNatClampNeg)) = (2 : Int32)
          · replace hf := (if_pos c20).symm.trans hf
            refine X_icmp_ne_f (pc := 113) 124 dX12_back_113 (by decide) c20 ?_
            refine X_aload_n (pc := 116) (i := 0) 2 dX12_back_116 rfl rfl ?_
            refine X_iload_n (pc := 117) (i := 3) 1 dX12_back_117 rfl rfl ?_
            obtain ⟨q21, c22, hf⟩ := bd_some hf
            refine X_invV_i (pc := 118) (c_Md_wind hT c22) ok_Md_wind (ci := 11) (sh_34 hT) k_1685 k_1648 k_1649 nd_8 (by decide) rfl (Nat.le_of_ble_eq_true rfl) dX12_back_118 ?_
            refine X_goto (pc := 121) 183 dX12_back_121 (by decide) ?_
            refine X_istore (pc := 183) [(5, .int q21.1), (4, .int x10), (3, .int x8), (0, .ref (xP G 34)), (1, .int l1), (2, .int l2)] dX12_back_183 (by decide) rfl ?_
            refine X_iinc (pc := 185) (i := 2) (q := 5) (v := (l2 + (1 : Int32))) [(2, .int (l2 + (1 : Int32))), (5, .int q21.1), (4, .int x10), (3, .int x8), (0, .ref (xP G 34)), (1, .int l1)] dX12_back_185 rfl rfl (by decide) rfl ?_
            refine X_goto (pc := 188) 37 dX12_back_188 (by decide) ?_
            exact X_lvs [4, 5, 0] rfl (ih hf)
          · replace hf := (if_neg c20).symm.trans hf
            refine X_icmp_ne_t (pc := 113) 124 dX12_back_113 (by decide) c20 ?_
            refine X_aload_n (pc := 124) (i := 0) 2 dX12_back_124 rfl rfl ?_
            refine X_getr (pc := 125) (a := 34) (ci := 11) (j := 41) (c := 55) (sh_34 hT) (by decide) k_1269 (rf_34_41 hT) (fun _ h => h) dX12_back_125 ?_
            refine X_iconst (pc := 128) (4 : Int32) dX12_back_128 (by decide) ?_
            refine X_iload_n (pc := 129) (i := 2) 4 dX12_back_129 rfl rfl ?_
            refine X_imul (pc := 130) dX12_back_130 ?_
            obtain ⟨c23, hf⟩ := gd_some hf
            refine X_ialdj (pc := 131) (j := ((4 : Int32) * l2).toNatClampNeg) (I 55 (((4 : Int32) * l2).toNatClampNeg)) (sh_55 hT) (vp_in_lit (N := 8000) c23 (by decide)) rfl rfl dX12_back_131 ?_
            refine X_iconst (pc := 132) (3 : Int32) dX12_back_132 (by decide) ?_
            by_cases c24 : (I 55 (((4 : Int32) * l2).toNatClampNeg)) = (3 : Int32)
            · replace hf := (if_pos c24).symm.trans hf
              refine X_icmp_ne_f (pc := 133) 146 dX12_back_133 (by decide) c24 ?_
              refine X_aload_n (pc := 136) (i := 0) 2 dX12_back_136 rfl rfl ?_
              refine X_iload_n (pc := 137) (i := 3) 1 dX12_back_137 rfl rfl ?_
              refine X_iload (pc := 138) 0 dX12_back_138 rfl ?_
              obtain ⟨q25, c26, hf⟩ := bd_some hf
              refine X_invV_i (pc := 140) (c_Md_press hT c26) ok_Md_press (ci := 11) (sh_34 hT) k_1686 k_1653 k_1654 nd_21 (by decide) rfl (Nat.le_of_ble_eq_true rfl) dX12_back_140 ?_
              refine X_goto (pc := 143) 183 dX12_back_143 (by decide) ?_
              refine X_istore (pc := 183) [(5, .int q25.1), (4, .int x10), (3, .int x8), (0, .ref (xP G 34)), (1, .int l1), (2, .int l2)] dX12_back_183 (by decide) rfl ?_
              refine X_iinc (pc := 185) (i := 2) (q := 5) (v := (l2 + (1 : Int32))) [(2, .int (l2 + (1 : Int32))), (5, .int q25.1), (4, .int x10), (3, .int x8), (0, .ref (xP G 34)), (1, .int l1)] dX12_back_185 rfl rfl (by decide) rfl ?_
              refine X_goto (pc := 188) 37 dX12_back_188 (by decide) ?_
              exact X_lvs [4, 5, 0] rfl (ih hf)
            · replace hf := (if_neg c24).symm.trans hf
              refine X_icmp_ne_t (pc := 133) 146 dX12_back_133 (by decide) c24 ?_
              refine X_aload_n (pc := 146) (i := 0) 2 dX12_back_146 rfl rfl ?_
              refine X_getr (pc := 147) (a := 34) (ci := 11) (j := 41) (c := 55) (sh_34 hT) (by decide) k_1269 (rf_34_41 hT) (fun _ h => h) dX12_back_147 ?_
              refine X_iconst (pc := 150) (4 : Int32) dX12_back_150 (by decide) ?_
              refine X_iload_n (pc := 151) (i := 2) 4 dX12_back_151 rfl rfl ?_
              refine X_imul (pc := 152) dX12_back_152 ?_
              obtain ⟨c27, hf⟩ := gd_some hf
              refine X_ialdj (pc := 153) (j := ((4 : Int32) * l2).toNatClampNeg) (I 55 (((4 : Int32) * l2).toNatClampNeg)) (sh_55 hT) (vp_in_lit (N := 8000) c27 (by decide)) rfl rfl dX12_back_153 ?_
              refine X_iconst (pc := 154) (4 : Int32) dX12_back_154 (by decide) ?_
              by_cases c28 : (I 55 (((4 : Int32) * l2).toNatClampNeg)) = (4 : Int32)
              · replace hf := (if_pos c28).symm.trans hf
                refine X_icmp_ne_f (pc := 155) 178 dX12_back_155 (by decide) c28 ?_
                refine X_aload_n (pc := 158) (i := 0) 2 dX12_back_158 rfl rfl ?_
                refine X_iload_n (pc := 159) (i := 3) 1 dX12_back_159 rfl rfl ?_
                refine X_iload (pc := 160) 0 dX12_back_160 rfl ?_
                refine X_aload_n (pc := 162) (i := 0) 2 dX12_back_162 rfl rfl ?_
                refine X_getr (pc := 163) (a := 34) (ci := 11) (j := 41) (c := 55) (sh_34 hT) (by decide) k_1269 (rf_34_41 hT) (fun _ h => h) dX12_back_163 ?_
                refine X_iconst (pc := 166) (4 : Int32) dX12_back_166 (by decide) ?_
                refine X_iload_n (pc := 167) (i := 2) 4 dX12_back_167 rfl rfl ?_
                refine X_imul (pc := 168) dX12_back_168 ?_
                refine X_iconst (pc := 169) (3 : Int32) dX12_back_169 (by decide) ?_
                refine X_iadd (pc := 170) dX12_back_170 ?_
                obtain ⟨c29, hf⟩ := gd_some hf
                refine X_ialdj (pc := 171) (j := (((4 : Int32) * l2) + (3 : Int32)).toNatClampNeg) (I 55 ((((4 : Int32) * l2) + (3 : Int32)).toNatClampNeg)) (sh_55 hT) (vp_in_lit (N := 8000) c29 (by decide)) rfl rfl dX12_back_171 ?_
                obtain ⟨q30, c31, hf⟩ := bd_some hf
                refine X_invV_i (pc := 172) (c_Md_correct hT c31) ok_Md_correct (ci := 11) (sh_34 hT) k_1687 k_1657 k_1658 nd_16 (by decide) rfl (Nat.le_of_ble_eq_true rfl) dX12_back_172 ?_
                refine X_goto (pc := 175) 183 dX12_back_175 (by decide) ?_
                refine X_istore (pc := 183) [(5, .int q30.1), (4, .int x10), (3, .int x8), (0, .ref (xP G 34)), (1, .int l1), (2, .int l2)] dX12_back_183 (by decide) rfl ?_
                refine X_iinc (pc := 185) (i := 2) (q := 5) (v := (l2 + (1 : Int32))) [(2, .int (l2 + (1 : Int32))), (5, .int q30.1), (4, .int x10), (3, .int x8), (0, .ref (xP G 34)), (1, .int l1)] dX12_back_185 rfl rfl (by decide) rfl ?_
                refine X_goto (pc := 188) 37 dX12_back_188 (by decide) ?_
                exact X_lvs [4, 5, 0] rfl (ih hf)
              · replace hf := (if_neg c28).symm.trans hf
                refine X_icmp_ne_t (pc := 155) 178 dX12_back_155 (by decide) c28 ?_
                refine X_aload_n (pc := 178) (i := 0) 2 dX12_back_178 rfl rfl ?_
                refine X_iload_n (pc := 179) (i := 3) 1 dX12_back_179 rfl rfl ?_
                obtain ⟨q32, c33, hf⟩ := bd_some hf
                refine X_invV_i (pc := 180) (c_Md_trip hT c33) ok_Md_trip (ci := 11) (sh_34 hT) k_1688 k_1676 k_1677 nd_8 (by decide) rfl (Nat.le_of_ble_eq_true rfl) dX12_back_180 ?_
                refine X_istore (pc := 183) [(5, .int q32.1), (4, .int x10), (3, .int x8), (0, .ref (xP G 34)), (1, .int l1), (2, .int l2)] dX12_back_183 (by decide) rfl ?_
                refine X_iinc (pc := 185) (i := 2) (q := 5) (v := (l2 + (1 : Int32))) [(2, .int (l2 + (1 : Int32))), (5, .int q32.1), (4, .int x10), (3, .int x8), (0, .ref (xP G 34)), (1, .int l1)] dX12_back_185 rfl rfl (by decide) rfl ?_
                refine X_goto (pc := 188) 37 dX12_back_188 (by decide) ?_
                exact X_lvs [4, 5, 0] rfl (ih hf)
theorem u_Md_back_L37 {S : List xSh} : ∀ (n : Nat) {l1 : Int32} {l2 : Int32} {I : Nat → Nat → Int32} {L : Nat → Nat → Int64} {q : (Int32 × (Nat → Nat → Int32) × (Nat → Nat → Int64))}, f_Md_back_L37 n l1 l2 I L = some q → FR S [48, 49, 50, 51, 52, 53, 54, 55, 56, 4425, 4426, 4427, 4428, 4429, 4430, 4431, 4440, 4442, 4443, 4445, 4446, 4447] [4432] I q.2.1 L q.2.2 := by
  intro n
  induction n with
  | zero =>
    intro l1 l2 I L q hf
    exact absurd (show none = some q from hf) (by simp)
  | succ n ih =>
    intro l1 l2 I L q hf
    replace hf := (f_Md_back_L37.eq_2 _ _ _ _ _).symm.trans hf
    by_cases c6 : l1 ≤ l2
    · replace hf := (if_pos c6).symm.trans hf
      cases hf
      exact (FR.fi (FR.fi FR.rf (by decide)) (by decide))
    · replace hf := (if_neg c6).symm.trans hf
      obtain ⟨c7, hf⟩ := gd_some hf
      obtain ⟨x8, ex8, hf⟩ := bnd_e hf
      obtain ⟨c9, hf⟩ := gd_some hf
      obtain ⟨x10, ex10, hf⟩ := bnd_e hf
      obtain ⟨c11, hf⟩ := gd_some hf
      by_cases c12 : (I 55 (((4 : Int32) * l2).toNatClampNeg)) = (0 : Int32)
      · replace hf := (if_pos c12).symm.trans hf
        obtain ⟨q13, c14, hf⟩ := bd_some hf
        exact FR.tr (FR.tr FR.rf (u_Md_run (q := q13) c14) (by decide) (by decide)) (ih hf) (by decide) (by decide)
      · replace hf := (if_neg c12).symm.trans hf
        obtain ⟨c15, hf⟩ := gd_some hf
        by_cases c16 : (I 55 (((4 : Int32) * l2).toNatClampNeg)) = (1 : Int32)
        · replace hf := (if_pos c16).symm.trans hf
          obtain ⟨q17, c18, hf⟩ := bd_some hf
          exact FR.tr (FR.tr FR.rf (u_Md_shock (q := q17) c18) (by decide) (by decide)) (ih hf) (by decide) (by decide)
        · replace hf := (if_neg c16).symm.trans hf
          obtain ⟨c19, hf⟩ := gd_some hf
          by_cases c20 : (I 55 (((4 : Int32) * l2).toNatClampNeg)) = (2 : Int32)
          · replace hf := (if_pos c20).symm.trans hf
            obtain ⟨q21, c22, hf⟩ := bd_some hf
            exact FR.tr (FR.tr FR.rf (u_Md_wind (q := q21) c22) (by decide) (by decide)) (ih hf) (by decide) (by decide)
          · replace hf := (if_neg c20).symm.trans hf
            obtain ⟨c23, hf⟩ := gd_some hf
            by_cases c24 : (I 55 (((4 : Int32) * l2).toNatClampNeg)) = (3 : Int32)
            · replace hf := (if_pos c24).symm.trans hf
              obtain ⟨q25, c26, hf⟩ := bd_some hf
              exact FR.tr (FR.tr FR.rf (u_Md_press (q := q25) c26) (by decide) (by decide)) (ih hf) (by decide) (by decide)
            · replace hf := (if_neg c24).symm.trans hf
              obtain ⟨c27, hf⟩ := gd_some hf
              by_cases c28 : (I 55 (((4 : Int32) * l2).toNatClampNeg)) = (4 : Int32)
              · replace hf := (if_pos c28).symm.trans hf
                obtain ⟨c29, hf⟩ := gd_some hf
                obtain ⟨q30, c31, hf⟩ := bd_some hf
                exact FR.tr (FR.tr FR.rf (u_Md_correct (q := q30) c31) (by decide) (by decide)) (ih hf) (by decide) (by decide)
              · replace hf := (if_neg c28).symm.trans hf
                obtain ⟨q32, c33, hf⟩ := bd_some hf
                exact FR.tr (FR.tr FR.rf (u_Md_trip (q := q32) c33) (by decide) (by decide)) (ih hf) (by decide) (by decide)
def f_Md_back (a0 : Int32) (I : Nat → Nat → Int32) (L : Nat → Nat → Int64) : Option (Int32 × (Nat → Nat → Int32) × (Nat → Nat → Int64)) := (bnd (f_Md_within (Int32.toInt64 a0) (0 : Int64) (Int32.toInt64 (I 34 42))) fun x1 => (if x1 = (0 : Int32) then (some ((-1 : Int32), I, L)) else (if (I 34 24) = (0 : Int32) then (some ((-2 : Int32), I, L)) else ((f_Md_renew I L).bind fun q4 => (f_Md_back_L37 xF a0 (0 : Int32) (uI q4.1 34 43 (1 : Int32)) q4.2)))))
set_option maxRecDepth 100000 in
set_option maxHeartbeats 4000000 in
theorem c_Md_back {G : xG} {S : List xSh} {Rf : Nat → Nat → Option Nat} (hT : xTM S Rf) {a0 : Int32} {I : Nat → Nat → Int32} {L : Nat → Nat → Int64} {q : (Int32 × (Nat → Nat → Int32) × (Nat → Nat → Int64))} (hf : f_Md_back a0 I L = some q) : CT G 9 m_Md_back [.ref (xP G 34), .int a0] (S, I, L, Rf) (some (.int q.1), (S, q.2.1, q.2.2, Rf)) := by
  refine CT.of (by decide +kernel) (Nat.le_of_ble_eq_true rfl) ?_
  show X G 9 m_Md_back 0 [(0, .ref (xP G 34)), (1, .int a0)] [] (S, I, L, Rf) (some (.int q.1), (S, q.2.1, q.2.2, Rf))
  replace hf := (f_Md_back.eq_1 _ _ _).symm.trans hf
  refine X_iload_n (pc := 0) (i := 1) 1 dX12_back_0 rfl rfl ?_
  refine X_i2l (pc := 1) dX12_back_1 ?_
  refine X_lconst (pc := 2) (0 : Int64) dX12_back_2 (by decide) ?_
  refine X_aload_n (pc := 3) (i := 0) 0 dX12_back_3 rfl rfl ?_
  refine X_get (pc := 4) (a := 34) (ci := 11) (j := 42) (.int (I 34 42)) (sh_34 hT) (by decide) k_1270 rfl dX12_back_4 ?_
  refine X_i2l (pc := 7) dX12_back_7 ?_
  refine X_invS_i (pc := 8) (c_Md_within hT rfl) ok_Md_within k_1482 k_1483 nd_33 (by decide) rfl (Nat.le_of_ble_eq_true rfl) dX12_back_8 ?_
  obtain ⟨x1, ex1, hf⟩ := bnd_e hf
  refine X_tope ex1 ?_
  by_cases c2 : x1 = (0 : Int32)
  · replace hf := (if_pos c2).symm.trans hf
    refine X_if_ne_f (pc := 11) 16 dX12_back_11 (by decide) c2 ?_
    refine X_iconst (pc := 14) (-1 : Int32) dX12_back_14 (by decide) ?_
    cases hf
    exact X_ireturn (pc := 15) rfl dX12_back_15
  · replace hf := (if_neg c2).symm.trans hf
    refine X_if_ne_t (pc := 11) 16 dX12_back_11 (by decide) c2 ?_
    refine X_aload_n (pc := 16) (i := 0) 0 dX12_back_16 rfl rfl ?_
    refine X_get (pc := 17) (a := 34) (ci := 11) (j := 24) (.int (I 34 24)) (sh_34 hT) (by decide) k_1252 rfl dX12_back_17 ?_
    by_cases c3 : (I 34 24) = (0 : Int32)
    · replace hf := (if_pos c3).symm.trans hf
      refine X_if_ne_f (pc := 20) 26 dX12_back_20 (by decide) c3 ?_
      refine X_bipush (pc := 23) (-2 : Int32) dX12_back_23 (by decide) ?_
      cases hf
      exact X_ireturn (pc := 25) rfl dX12_back_25
    · replace hf := (if_neg c3).symm.trans hf
      refine X_if_ne_t (pc := 20) 26 dX12_back_20 (by decide) c3 ?_
      refine X_aload_n (pc := 26) (i := 0) 0 dX12_back_26 rfl rfl ?_
      obtain ⟨q4, c5, hf⟩ := bd_some hf
      refine X_invV_v (pc := 27) (c_Md_renew hT c5) ok_Md_renew (ci := 11) (sh_34 hT) k_1207 k_1209 k_40 nd_1 (by decide) rfl (Nat.le_of_ble_eq_true rfl) dX12_back_27 ?_
      refine X_aload_n (pc := 30) (i := 0) 0 dX12_back_30 rfl rfl ?_
      refine X_iconst (pc := 31) (1 : Int32) dX12_back_31 (by decide) ?_
      refine X_putz (pc := 32) (a := 34) (ci := 11) (j := 43) 43 rfl false (sh_34 hT) (by decide) k_1271 rfl (fun h => by cases h) rfl (by decide) dX12_back_32 ?_
      refine X_iconst (pc := 35) (0 : Int32) dX12_back_35 (by decide) ?_
      refine X_istore_n (pc := 36) (i := 2) [(2, .int (0 : Int32)), (0, .ref (xP G 34)), (1, .int a0)] dX12_back_36 rfl (by decide) rfl ?_
      exact X_lvs [1, 2, 0] rfl (x_Md_back_L37 hT xF hf)
theorem u_Md_back {S : List xSh} {a0 : Int32} {I : Nat → Nat → Int32} {L : Nat → Nat → Int64} {q : (Int32 × (Nat → Nat → Int32) × (Nat → Nat → Int64))} (hf : f_Md_back a0 I L = some q) : FR S [48, 49, 50, 51, 52, 53, 54, 55, 56, 4425, 4426, 4427, 4428, 4429, 4430, 4431, 4440, 4442, 4443, 4445, 4446, 4447] [4432] I q.2.1 L q.2.2 := by
  replace hf := (f_Md_back.eq_1 _ _ _).symm.trans hf
  obtain ⟨x1, ex1, hf⟩ := bnd_e hf
  by_cases c2 : x1 = (0 : Int32)
  · replace hf := (if_pos c2).symm.trans hf
    cases hf
    exact FR.rf
  · replace hf := (if_neg c2).symm.trans hf
    by_cases c3 : (I 34 24) = (0 : Int32)
    · replace hf := (if_pos c3).symm.trans hf
      cases hf
      exact FR.rf
    · replace hf := (if_neg c3).symm.trans hf
      obtain ⟨q4, c5, hf⟩ := bd_some hf
      exact FR.tr (FR.fi (FR.tr FR.rf (u_Md_renew (q := q4) c5) (by decide) (by decide)) (by decide)) (u_Md_back_L37 xF hf) (by decide) (by decide)
theorem dX12_speed_0 : decode cX12_speed 0 = .ok (.aload_n 0, 1) := by decide +kernel
theorem dX12_speed_1 : decode cX12_speed 1 = .ok (.iload_n 1, 1) := by decide +kernel
theorem dX12_speed_2 : decode cX12_speed 2 = .ok (.invokevirtual 229, 3) := by decide +kernel
theorem dX12_speed_5 : decode cX12_speed 5 = .ok (.ifCond .eq 15, 3) := by decide +kernel
theorem dX12_speed_8 : decode cX12_speed 8 = .ok (.iload_n 2, 1) := by decide +kernel
theorem dX12_speed_9 : decode cX12_speed 9 = .ok (.i2l, 1) := by decide +kernel
theorem dX12_speed_10 : decode cX12_speed 10 = .ok (.lconst 0, 1) := by decide +kernel
theorem dX12_speed_11 : decode cX12_speed 11 = .ok (.ldc2_w 253, 3) := by decide +kernel
theorem dX12_speed_14 : decode cX12_speed 14 = .ok (.invokestatic 140, 3) := by decide +kernel
theorem dX12_speed_17 : decode cX12_speed 17 = .ok (.ifCond .ne 7, 3) := by decide +kernel
theorem dX12_speed_20 : decode cX12_speed 20 = .ok (.ldc2_w 423, 3) := by decide +kernel
theorem dX12_speed_23 : decode cX12_speed 23 = .ok (.lreturn, 1) := by decide +kernel
theorem dX12_speed_24 : decode cX12_speed 24 = .ok (.aload_n 0, 1) := by decide +kernel
theorem dX12_speed_25 : decode cX12_speed 25 = .ok (.invokevirtual 273, 3) := by decide +kernel
theorem dX12_speed_28 : decode cX12_speed 28 = .ok (.aload_n 0, 1) := by decide +kernel
theorem dX12_speed_29 : decode cX12_speed 29 = .ok (.getfield 77, 3) := by decide +kernel
theorem dX12_speed_32 : decode cX12_speed 32 = .ok (.iload_n 1, 1) := by decide +kernel
theorem dX12_speed_33 : decode cX12_speed 33 = .ok (.baload, 1) := by decide +kernel
theorem dX12_speed_34 : decode cX12_speed 34 = .ok (.ifCond .ne 7, 3) := by decide +kernel
theorem dX12_speed_37 : decode cX12_speed 37 = .ok (.lconst 0, 1) := by decide +kernel
theorem dX12_speed_38 : decode cX12_speed 38 = .ok (.goto 40, 3) := by decide +kernel
theorem dX12_speed_41 : decode cX12_speed 41 = .ok (.iload_n 2, 1) := by decide +kernel
theorem dX12_speed_42 : decode cX12_speed 42 = .ok (.ifCond .ne 12, 3) := by decide +kernel
theorem dX12_speed_45 : decode cX12_speed 45 = .ok (.aload_n 0, 1) := by decide +kernel
theorem dX12_speed_46 : decode cX12_speed 46 = .ok (.getfield 80, 3) := by decide +kernel
theorem dX12_speed_49 : decode cX12_speed 49 = .ok (.iload_n 1, 1) := by decide +kernel
theorem dX12_speed_50 : decode cX12_speed 50 = .ok (.laload, 1) := by decide +kernel
theorem dX12_speed_51 : decode cX12_speed 51 = .ok (.goto 27, 3) := by decide +kernel
theorem dX12_speed_54 : decode cX12_speed 54 = .ok (.iload_n 2, 1) := by decide +kernel
theorem dX12_speed_55 : decode cX12_speed 55 = .ok (.iconst 1, 1) := by decide +kernel
theorem dX12_speed_56 : decode cX12_speed 56 = .ok (.if_icmp .ne 12, 3) := by decide +kernel
theorem dX12_speed_59 : decode cX12_speed 59 = .ok (.aload_n 0, 1) := by decide +kernel
theorem dX12_speed_60 : decode cX12_speed 60 = .ok (.getfield 84, 3) := by decide +kernel
theorem dX12_speed_63 : decode cX12_speed 63 = .ok (.iload_n 1, 1) := by decide +kernel
theorem dX12_speed_64 : decode cX12_speed 64 = .ok (.laload, 1) := by decide +kernel
theorem dX12_speed_65 : decode cX12_speed 65 = .ok (.goto 13, 3) := by decide +kernel
theorem dX12_speed_68 : decode cX12_speed 68 = .ok (.aload_n 0, 1) := by decide +kernel
theorem dX12_speed_69 : decode cX12_speed 69 = .ok (.iload_n 1, 1) := by decide +kernel
theorem dX12_speed_70 : decode cX12_speed 70 = .ok (.aload_n 0, 1) := by decide +kernel
theorem dX12_speed_71 : decode cX12_speed 71 = .ok (.getfield 185, 3) := by decide +kernel
theorem dX12_speed_74 : decode cX12_speed 74 = .ok (.i2l, 1) := by decide +kernel
theorem dX12_speed_75 : decode cX12_speed 75 = .ok (.invokevirtual 358, 3) := by decide +kernel
theorem dX12_speed_78 : decode cX12_speed 78 = .ok (.lreturn, 1) := by decide +kernel
def f_Md_speed (a0 : Int32) (a1 : Int32) (I : Nat → Nat → Int32) (L : Nat → Nat → Int64) : Option (Int64 × (Nat → Nat → Int32) × (Nat → Nat → Int64)) := ((f_Md_isArbor a0 I L).bind fun q1 => (if q1 = (0 : Int32) then (some ((-9999999 : Int64), I, L)) else (bnd (f_Md_within (Int32.toInt64 a1) (0 : Int64) (2 : Int64)) fun x4 => (if x4 = (0 : Int32) then (some ((-9999999 : Int64), I, L)) else ((f_Md_speeds I L).bind fun q6 => (if (0 ≤ a0 ∧ a0 < (24 : Int32)) then (if (q6.1 57 (a0.toNatClampNeg)) = (0 : Int32) then (some ((0 : Int64), q6.1, q6.2)) else (if a1 = (0 : Int32) then (if (0 ≤ a0 ∧ a0 < (24 : Int32)) then (some ((q6.2 58 (a0.toNatClampNeg)), q6.1, q6.2)) else none) else (if a1 = (1 : Int32) then (if (0 ≤ a0 ∧ a0 < (24 : Int32)) then (some ((q6.2 59 (a0.toNatClampNeg)), q6.1, q6.2)) else none) else ((f_Md_turnsAt a0 (Int32.toInt64 (q6.1 34 25)) q6.1 q6.2).bind fun q14 => (some (q14, q6.1, q6.2)))))) else none))))))
set_option maxRecDepth 100000 in
set_option maxHeartbeats 4000000 in
theorem c_Md_speed {G : xG} {S : List xSh} {Rf : Nat → Nat → Option Nat} (hT : xTM S Rf) {a0 : Int32} {a1 : Int32} {I : Nat → Nat → Int32} {L : Nat → Nat → Int64} {q : (Int64 × (Nat → Nat → Int32) × (Nat → Nat → Int64))} (hf : f_Md_speed a0 a1 I L = some q) : CT G 5 m_Md_speed [.ref (xP G 34), .int a0, .int a1] (S, I, L, Rf) (some (.long q.1), (S, q.2.1, q.2.2, Rf)) := by
  refine CT.of (by decide +kernel) (Nat.le_of_ble_eq_true rfl) ?_
  show X G 5 m_Md_speed 0 [(0, .ref (xP G 34)), (1, .int a0), (2, .int a1)] [] (S, I, L, Rf) (some (.long q.1), (S, q.2.1, q.2.2, Rf))
  replace hf := (f_Md_speed.eq_1 _ _ _ _).symm.trans hf
  refine X_aload_n (pc := 0) (i := 0) 0 dX12_speed_0 rfl rfl ?_
  refine X_iload_n (pc := 1) (i := 1) 1 dX12_speed_1 rfl rfl ?_
  obtain ⟨q1, c2, hf⟩ := bd_some hf
  refine X_invV_i (pc := 2) (c_Md_isArbor hT c2) ok_Md_isArbor (ci := 11) (sh_34 hT) k_1478 k_1480 k_43 nd_5 (by decide) rfl (Nat.le_of_ble_eq_true rfl) dX12_speed_2 ?_
  by_cases c3 : q1 = (0 : Int32)
  · replace hf := (if_pos c3).symm.trans hf
    refine X_if_eq_t (pc := 5) 20 dX12_speed_5 (by decide) c3 ?_
    refine X_ldc2 (pc := 20) (-9999999 : Int64) k_1693 dX12_speed_20 ?_
    cases hf
    exact X_lreturn (pc := 23) rfl dX12_speed_23
  · replace hf := (if_neg c3).symm.trans hf
    refine X_if_eq_f (pc := 5) 20 dX12_speed_5 (by decide) c3 ?_
    refine X_iload_n (pc := 8) (i := 2) 2 dX12_speed_8 rfl rfl ?_
    refine X_i2l (pc := 9) dX12_speed_9 ?_
    refine X_lconst (pc := 10) (0 : Int64) dX12_speed_10 (by decide) ?_
    refine X_ldc2 (pc := 11) (2 : Int64) k_1521 dX12_speed_11 ?_
    refine X_invS_i (pc := 14) (c_Md_within hT rfl) ok_Md_within k_1482 k_1483 nd_33 (by decide) rfl (Nat.le_of_ble_eq_true rfl) dX12_speed_14 ?_
    obtain ⟨x4, ex4, hf⟩ := bnd_e hf
    refine X_tope ex4 ?_
    by_cases c5 : x4 = (0 : Int32)
    · replace hf := (if_pos c5).symm.trans hf
      refine X_if_ne_f (pc := 17) 24 dX12_speed_17 (by decide) c5 ?_
      refine X_ldc2 (pc := 20) (-9999999 : Int64) k_1693 dX12_speed_20 ?_
      cases hf
      exact X_lreturn (pc := 23) rfl dX12_speed_23
    · replace hf := (if_neg c5).symm.trans hf
      refine X_if_ne_t (pc := 17) 24 dX12_speed_17 (by decide) c5 ?_
      refine X_aload_n (pc := 24) (i := 0) 0 dX12_speed_24 rfl rfl ?_
      obtain ⟨q6, c7, hf⟩ := bd_some hf
      refine X_invV_v (pc := 25) (c_Md_speeds hT c7) ok_Md_speeds (ci := 11) (sh_34 hT) k_1548 k_1550 k_46 nd_1 (by decide) rfl (Nat.le_of_ble_eq_true rfl) dX12_speed_25 ?_
      refine X_aload_n (pc := 28) (i := 0) 0 dX12_speed_28 rfl rfl ?_
      refine X_getr (pc := 29) (a := 34) (ci := 11) (j := 48) (c := 57) (sh_34 hT) (by decide) k_1276 (rf_34_48 hT) (fun _ h => h) dX12_speed_29 ?_
      refine X_iload_n (pc := 32) (i := 1) 1 dX12_speed_32 rfl rfl ?_
      obtain ⟨c8, hf⟩ := gd_some hf
      refine X_zaldj (pc := 33) (j := a0.toNatClampNeg) (q6.1 57 (a0.toNatClampNeg)) (sh_57 hT) (vp_in_lit (N := 24) c8 (by decide)) rfl rfl dX12_speed_33 ?_
      by_cases c9 : (q6.1 57 (a0.toNatClampNeg)) = (0 : Int32)
      · replace hf := (if_pos c9).symm.trans hf
        refine X_if_ne_f (pc := 34) 41 dX12_speed_34 (by decide) c9 ?_
        refine X_lconst (pc := 37) (0 : Int64) dX12_speed_37 (by decide) ?_
        refine X_goto (pc := 38) 78 dX12_speed_38 (by decide) ?_
        cases hf
        exact X_lreturn (pc := 78) rfl dX12_speed_78
      · replace hf := (if_neg c9).symm.trans hf
        refine X_if_ne_t (pc := 34) 41 dX12_speed_34 (by decide) c9 ?_
        refine X_iload_n (pc := 41) (i := 2) 2 dX12_speed_41 rfl rfl ?_
        by_cases c10 : a1 = (0 : Int32)
        · replace hf := (if_pos c10).symm.trans hf
          refine X_if_ne_f (pc := 42) 54 dX12_speed_42 (by decide) c10 ?_
          refine X_aload_n (pc := 45) (i := 0) 0 dX12_speed_45 rfl rfl ?_
          refine X_getr (pc := 46) (a := 34) (ci := 11) (j := 49) (c := 58) (sh_34 hT) (by decide) k_1277 (rf_34_49 hT) (fun _ h => h) dX12_speed_46 ?_
          refine X_iload_n (pc := 49) (i := 1) 1 dX12_speed_49 rfl rfl ?_
          obtain ⟨c11, hf⟩ := gd_some hf
          refine X_laldj (pc := 50) (j := a0.toNatClampNeg) (q6.2 58 (a0.toNatClampNeg)) (sh_58 hT) (vp_in_lit (N := 24) c11 (by decide)) rfl rfl dX12_speed_50 ?_
          refine X_goto (pc := 51) 78 dX12_speed_51 (by decide) ?_
          cases hf
          exact X_lreturn (pc := 78) rfl dX12_speed_78
        · replace hf := (if_neg c10).symm.trans hf
          refine X_if_ne_t (pc := 42) 54 dX12_speed_42 (by decide) c10 ?_
          refine X_iload_n (pc := 54) (i := 2) 2 dX12_speed_54 rfl rfl ?_
          refine X_iconst (pc := 55) (1 : Int32) dX12_speed_55 (by decide) ?_
          by_cases c12 : a1 = (1 : Int32)
          · replace hf := (if_pos c12).symm.trans hf
            refine X_icmp_ne_f (pc := 56) 68 dX12_speed_56 (by decide) c12 ?_
            refine X_aload_n (pc := 59) (i := 0) 0 dX12_speed_59 rfl rfl ?_
            refine X_getr (pc := 60) (a := 34) (ci := 11) (j := 50) (c := 59) (sh_34 hT) (by decide) k_1278 (rf_34_50 hT) (fun _ h => h) dX12_speed_60 ?_
            refine X_iload_n (pc := 63) (i := 1) 1 dX12_speed_63 rfl rfl ?_
            obtain ⟨c13, hf⟩ := gd_some hf
            refine X_laldj (pc := 64) (j := a0.toNatClampNeg) (q6.2 59 (a0.toNatClampNeg)) (sh_59 hT) (vp_in_lit (N := 24) c13 (by decide)) rfl rfl dX12_speed_64 ?_
            refine X_goto (pc := 65) 78 dX12_speed_65 (by decide) ?_
            cases hf
            exact X_lreturn (pc := 78) rfl dX12_speed_78
          · replace hf := (if_neg c12).symm.trans hf
            refine X_icmp_ne_t (pc := 56) 68 dX12_speed_56 (by decide) c12 ?_
            refine X_aload_n (pc := 68) (i := 0) 0 dX12_speed_68 rfl rfl ?_
            refine X_iload_n (pc := 69) (i := 1) 1 dX12_speed_69 rfl rfl ?_
            refine X_aload_n (pc := 70) (i := 0) 0 dX12_speed_70 rfl rfl ?_
            refine X_get (pc := 71) (a := 34) (ci := 11) (j := 25) (.int (q6.1 34 25)) (sh_34 hT) (by decide) k_1253 rfl dX12_speed_71 ?_
            refine X_i2l (pc := 74) dX12_speed_74 ?_
            obtain ⟨q14, c15, hf⟩ := bd_some hf
            refine X_invV_l (pc := 75) (c_Md_turnsAt hT c15) ok_Md_turnsAt (ci := 11) (sh_34 hT) k_1620 k_1622 k_59 nd_37 (by decide) rfl (Nat.le_of_ble_eq_true rfl) dX12_speed_75 ?_
            cases hf
            exact X_lreturn (pc := 78) rfl dX12_speed_78
theorem u_Md_speed {S : List xSh} {a0 : Int32} {a1 : Int32} {I : Nat → Nat → Int32} {L : Nat → Nat → Int64} {q : (Int64 × (Nat → Nat → Int32) × (Nat → Nat → Int64))} (hf : f_Md_speed a0 a1 I L = some q) : FR S [57] [58, 59, 4451, 4452] I q.2.1 L q.2.2 := by
  replace hf := (f_Md_speed.eq_1 _ _ _ _).symm.trans hf
  obtain ⟨q1, c2, hf⟩ := bd_some hf
  by_cases c3 : q1 = (0 : Int32)
  · replace hf := (if_pos c3).symm.trans hf
    cases hf
    exact FR.rf
  · replace hf := (if_neg c3).symm.trans hf
    obtain ⟨x4, ex4, hf⟩ := bnd_e hf
    by_cases c5 : x4 = (0 : Int32)
    · replace hf := (if_pos c5).symm.trans hf
      cases hf
      exact FR.rf
    · replace hf := (if_neg c5).symm.trans hf
      obtain ⟨q6, c7, hf⟩ := bd_some hf
      obtain ⟨c8, hf⟩ := gd_some hf
      by_cases c9 : (q6.1 57 (a0.toNatClampNeg)) = (0 : Int32)
      · replace hf := (if_pos c9).symm.trans hf
        cases hf
        exact (FR.tr FR.rf (u_Md_speeds (q := q6) c7) (by decide) (by decide))
      · replace hf := (if_neg c9).symm.trans hf
        by_cases c10 : a1 = (0 : Int32)
        · replace hf := (if_pos c10).symm.trans hf
          obtain ⟨c11, hf⟩ := gd_some hf
          cases hf
          exact (FR.tr FR.rf (u_Md_speeds (q := q6) c7) (by decide) (by decide))
        · replace hf := (if_neg c10).symm.trans hf
          by_cases c12 : a1 = (1 : Int32)
          · replace hf := (if_pos c12).symm.trans hf
            obtain ⟨c13, hf⟩ := gd_some hf
            cases hf
            exact (FR.tr FR.rf (u_Md_speeds (q := q6) c7) (by decide) (by decide))
          · replace hf := (if_neg c12).symm.trans hf
            obtain ⟨q14, c15, hf⟩ := bd_some hf
            cases hf
            exact (FR.tr FR.rf (u_Md_speeds (q := q6) c7) (by decide) (by decide))
theorem dX12_state_0 : decode cX12_state 0 = .ok (.aload_n 0, 1) := by decide +kernel
theorem dX12_state_1 : decode cX12_state 1 = .ok (.invokevirtual 273, 3) := by decide +kernel
theorem dX12_state_4 : decode cX12_state 4 = .ok (.iload_n 1, 1) := by decide +kernel
theorem dX12_state_5 : decode cX12_state 5 = .ok (.tableswitch 121 0 9 #[55, 61, 67, 73, 79, 85, 91, 96, 102, 108], 55) := by decide +kernel
theorem dX12_state_60 : decode cX12_state 60 = .ok (.aload_n 0, 1) := by decide +kernel
theorem dX12_state_61 : decode cX12_state 61 = .ok (.getfield 185, 3) := by decide +kernel
theorem dX12_state_64 : decode cX12_state 64 = .ok (.i2l, 1) := by decide +kernel
theorem dX12_state_65 : decode cX12_state 65 = .ok (.lreturn, 1) := by decide +kernel
theorem dX12_state_66 : decode cX12_state 66 = .ok (.aload_n 0, 1) := by decide +kernel
theorem dX12_state_67 : decode cX12_state 67 = .ok (.getfield 188, 3) := by decide +kernel
theorem dX12_state_70 : decode cX12_state 70 = .ok (.i2l, 1) := by decide +kernel
theorem dX12_state_71 : decode cX12_state 71 = .ok (.lreturn, 1) := by decide +kernel
theorem dX12_state_72 : decode cX12_state 72 = .ok (.aload_n 0, 1) := by decide +kernel
theorem dX12_state_73 : decode cX12_state 73 = .ok (.getfield 191, 3) := by decide +kernel
theorem dX12_state_76 : decode cX12_state 76 = .ok (.i2l, 1) := by decide +kernel
theorem dX12_state_77 : decode cX12_state 77 = .ok (.lreturn, 1) := by decide +kernel
theorem dX12_state_78 : decode cX12_state 78 = .ok (.aload_n 0, 1) := by decide +kernel
theorem dX12_state_79 : decode cX12_state 79 = .ok (.getfield 194, 3) := by decide +kernel
theorem dX12_state_82 : decode cX12_state 82 = .ok (.i2l, 1) := by decide +kernel
theorem dX12_state_83 : decode cX12_state 83 = .ok (.lreturn, 1) := by decide +kernel
theorem dX12_state_84 : decode cX12_state 84 = .ok (.aload_n 0, 1) := by decide +kernel
theorem dX12_state_85 : decode cX12_state 85 = .ok (.getfield 197, 3) := by decide +kernel
theorem dX12_state_88 : decode cX12_state 88 = .ok (.i2l, 1) := by decide +kernel
theorem dX12_state_89 : decode cX12_state 89 = .ok (.lreturn, 1) := by decide +kernel
theorem dX12_state_90 : decode cX12_state 90 = .ok (.aload_n 0, 1) := by decide +kernel
theorem dX12_state_91 : decode cX12_state 91 = .ok (.invokevirtual 352, 3) := by decide +kernel
theorem dX12_state_94 : decode cX12_state 94 = .ok (.i2l, 1) := by decide +kernel
theorem dX12_state_95 : decode cX12_state 95 = .ok (.lreturn, 1) := by decide +kernel
theorem dX12_state_96 : decode cX12_state 96 = .ok (.aload_n 0, 1) := by decide +kernel
theorem dX12_state_97 : decode cX12_state 97 = .ok (.invokevirtual 326, 3) := by decide +kernel
theorem dX12_state_100 : decode cX12_state 100 = .ok (.lreturn, 1) := by decide +kernel
theorem dX12_state_101 : decode cX12_state 101 = .ok (.aload_n 0, 1) := by decide +kernel
theorem dX12_state_102 : decode cX12_state 102 = .ok (.getfield 200, 3) := by decide +kernel
theorem dX12_state_105 : decode cX12_state 105 = .ok (.i2l, 1) := by decide +kernel
theorem dX12_state_106 : decode cX12_state 106 = .ok (.lreturn, 1) := by decide +kernel
theorem dX12_state_107 : decode cX12_state 107 = .ok (.aload_n 0, 1) := by decide +kernel
theorem dX12_state_108 : decode cX12_state 108 = .ok (.getfield 203, 3) := by decide +kernel
theorem dX12_state_111 : decode cX12_state 111 = .ok (.i2l, 1) := by decide +kernel
theorem dX12_state_112 : decode cX12_state 112 = .ok (.lreturn, 1) := by decide +kernel
theorem dX12_state_113 : decode cX12_state 113 = .ok (.aload_n 0, 1) := by decide +kernel
theorem dX12_state_114 : decode cX12_state 114 = .ok (.invokevirtual 276, 3) := by decide +kernel
theorem dX12_state_117 : decode cX12_state 117 = .ok (.ifCond .eq 7, 3) := by decide +kernel
theorem dX12_state_120 : decode cX12_state 120 = .ok (.lconst 1, 1) := by decide +kernel
theorem dX12_state_121 : decode cX12_state 121 = .ok (.goto 4, 3) := by decide +kernel
theorem dX12_state_124 : decode cX12_state 124 = .ok (.lconst 0, 1) := by decide +kernel
theorem dX12_state_125 : decode cX12_state 125 = .ok (.lreturn, 1) := by decide +kernel
theorem dX12_state_126 : decode cX12_state 126 = .ok (.ldc2_w 423, 3) := by decide +kernel
theorem dX12_state_129 : decode cX12_state 129 = .ok (.lreturn, 1) := by decide +kernel
def f_Md_state (a0 : Int32) (I : Nat → Nat → Int32) (L : Nat → Nat → Int64) : Option (Int64 × (Nat → Nat → Int32) × (Nat → Nat → Int64)) := ((f_Md_speeds I L).bind fun q1 => (if a0 = (0 : Int32) then (some ((Int32.toInt64 (q1.1 34 25)), q1.1, q1.2)) else (if a0 = (1 : Int32) then (some ((Int32.toInt64 (q1.1 34 26)), q1.1, q1.2)) else (if a0 = (2 : Int32) then (some ((Int32.toInt64 (q1.1 34 27)), q1.1, q1.2)) else (if a0 = (3 : Int32) then (some ((Int32.toInt64 (q1.1 34 28)), q1.1, q1.2)) else (if a0 = (4 : Int32) then (some ((Int32.toInt64 (q1.1 34 29)), q1.1, q1.2)) else (if a0 = (5 : Int32) then ((f_Md_torqueNow q1.1 q1.2).bind fun q13 => (some ((Int32.toInt64 q13), q1.1, q1.2))) else (if a0 = (6 : Int32) then ((f_Md_letDown q1.1 q1.2).bind fun q15 => (some (q15, q1.1, q1.2))) else (if a0 = (7 : Int32) then (some ((Int32.toInt64 (q1.1 34 30)), q1.1, q1.2)) else (if a0 = (8 : Int32) then (some ((Int32.toInt64 (q1.1 34 31)), q1.1, q1.2)) else (if a0 = (9 : Int32) then ((f_Md_isLocked q1.1 q1.2).bind fun q17 => (if q17.1 = (0 : Int32) then (some ((0 : Int64), q17.2.1, q17.2.2)) else (some ((1 : Int64), q17.2.1, q17.2.2)))) else (some ((-9999999 : Int64), q1.1, q1.2)))))))))))))
set_option maxRecDepth 100000 in
set_option maxHeartbeats 4000000 in
theorem c_Md_state {G : xG} {S : List xSh} {Rf : Nat → Nat → Option Nat} (hT : xTM S Rf) {a0 : Int32} {I : Nat → Nat → Int32} {L : Nat → Nat → Int64} {q : (Int64 × (Nat → Nat → Int32) × (Nat → Nat → Int64))} (hf : f_Md_state a0 I L = some q) : CT G 5 m_Md_state [.ref (xP G 34), .int a0] (S, I, L, Rf) (some (.long q.1), (S, q.2.1, q.2.2, Rf)) := by
  refine CT.of (by decide +kernel) (Nat.le_of_ble_eq_true rfl) ?_
  show X G 5 m_Md_state 0 [(0, .ref (xP G 34)), (1, .int a0)] [] (S, I, L, Rf) (some (.long q.1), (S, q.2.1, q.2.2, Rf))
  replace hf := (f_Md_state.eq_1 _ _ _).symm.trans hf
  refine X_aload_n (pc := 0) (i := 0) 0 dX12_state_0 rfl rfl ?_
  obtain ⟨q1, c2, hf⟩ := bd_some hf
  refine X_invV_v (pc := 1) (c_Md_speeds hT c2) ok_Md_speeds (ci := 11) (sh_34 hT) k_1548 k_1550 k_46 nd_1 (by decide) rfl (Nat.le_of_ble_eq_true rfl) dX12_state_1 ?_
  refine X_iload_n (pc := 4) (i := 1) 1 dX12_state_4 rfl rfl ?_
  by_cases c3 : a0 = (0 : Int32)
  · replace hf := (if_pos c3).symm.trans hf
    refine X_tabIn (pc := 5) (off := 55) (0) 60 dX12_state_5 (by rw [c3]; rfl) (by decide) ?_
    refine X_aload_n (pc := 60) (i := 0) 0 dX12_state_60 rfl rfl ?_
    refine X_get (pc := 61) (a := 34) (ci := 11) (j := 25) (.int (q1.1 34 25)) (sh_34 hT) (by decide) k_1253 rfl dX12_state_61 ?_
    refine X_i2l (pc := 64) dX12_state_64 ?_
    cases hf
    exact X_lreturn (pc := 65) rfl dX12_state_65
  · replace hf := (if_neg c3).symm.trans hf
    by_cases c4 : a0 = (1 : Int32)
    · replace hf := (if_pos c4).symm.trans hf
      refine X_tabIn (pc := 5) (off := 61) (1) 66 dX12_state_5 (by rw [c4]; rfl) (by decide) ?_
      refine X_aload_n (pc := 66) (i := 0) 0 dX12_state_66 rfl rfl ?_
      refine X_get (pc := 67) (a := 34) (ci := 11) (j := 26) (.int (q1.1 34 26)) (sh_34 hT) (by decide) k_1254 rfl dX12_state_67 ?_
      refine X_i2l (pc := 70) dX12_state_70 ?_
      cases hf
      exact X_lreturn (pc := 71) rfl dX12_state_71
    · replace hf := (if_neg c4).symm.trans hf
      by_cases c5 : a0 = (2 : Int32)
      · replace hf := (if_pos c5).symm.trans hf
        refine X_tabIn (pc := 5) (off := 67) (2) 72 dX12_state_5 (by rw [c5]; rfl) (by decide) ?_
        refine X_aload_n (pc := 72) (i := 0) 0 dX12_state_72 rfl rfl ?_
        refine X_get (pc := 73) (a := 34) (ci := 11) (j := 27) (.int (q1.1 34 27)) (sh_34 hT) (by decide) k_1255 rfl dX12_state_73 ?_
        refine X_i2l (pc := 76) dX12_state_76 ?_
        cases hf
        exact X_lreturn (pc := 77) rfl dX12_state_77
      · replace hf := (if_neg c5).symm.trans hf
        by_cases c6 : a0 = (3 : Int32)
        · replace hf := (if_pos c6).symm.trans hf
          refine X_tabIn (pc := 5) (off := 73) (3) 78 dX12_state_5 (by rw [c6]; rfl) (by decide) ?_
          refine X_aload_n (pc := 78) (i := 0) 0 dX12_state_78 rfl rfl ?_
          refine X_get (pc := 79) (a := 34) (ci := 11) (j := 28) (.int (q1.1 34 28)) (sh_34 hT) (by decide) k_1256 rfl dX12_state_79 ?_
          refine X_i2l (pc := 82) dX12_state_82 ?_
          cases hf
          exact X_lreturn (pc := 83) rfl dX12_state_83
        · replace hf := (if_neg c6).symm.trans hf
          by_cases c7 : a0 = (4 : Int32)
          · replace hf := (if_pos c7).symm.trans hf
            refine X_tabIn (pc := 5) (off := 79) (4) 84 dX12_state_5 (by rw [c7]; rfl) (by decide) ?_
            refine X_aload_n (pc := 84) (i := 0) 0 dX12_state_84 rfl rfl ?_
            refine X_get (pc := 85) (a := 34) (ci := 11) (j := 29) (.int (q1.1 34 29)) (sh_34 hT) (by decide) k_1257 rfl dX12_state_85 ?_
            refine X_i2l (pc := 88) dX12_state_88 ?_
            cases hf
            exact X_lreturn (pc := 89) rfl dX12_state_89
          · replace hf := (if_neg c7).symm.trans hf
            by_cases c8 : a0 = (5 : Int32)
            · replace hf := (if_pos c8).symm.trans hf
              refine X_tabIn (pc := 5) (off := 85) (5) 90 dX12_state_5 (by rw [c8]; rfl) (by decide) ?_
              refine X_aload_n (pc := 90) (i := 0) 0 dX12_state_90 rfl rfl ?_
              obtain ⟨q13, c14, hf⟩ := bd_some hf
              refine X_invV_i (pc := 91) (c_Md_torqueNow hT c14) ok_Md_torqueNow (ci := 11) (sh_34 hT) k_1597 k_1599 k_54 nd_4 (by decide) rfl (Nat.le_of_ble_eq_true rfl) dX12_state_91 ?_
              refine X_i2l (pc := 94) dX12_state_94 ?_
              cases hf
              exact X_lreturn (pc := 95) rfl dX12_state_95
            · replace hf := (if_neg c8).symm.trans hf
              by_cases c9 : a0 = (6 : Int32)
              · replace hf := (if_pos c9).symm.trans hf
                refine X_tabIn (pc := 5) (off := 91) (6) 96 dX12_state_5 (by rw [c9]; rfl) (by decide) ?_
                refine X_aload_n (pc := 96) (i := 0) 0 dX12_state_96 rfl rfl ?_
                obtain ⟨q15, c16, hf⟩ := bd_some hf
                refine X_invV_l (pc := 97) (c_Md_letDown hT c16) ok_Md_letDown (ci := 11) (sh_34 hT) k_1609 k_1611 k_57 nd_20 (by decide) rfl (Nat.le_of_ble_eq_true rfl) dX12_state_97 ?_
                cases hf
                exact X_lreturn (pc := 100) rfl dX12_state_100
              · replace hf := (if_neg c9).symm.trans hf
                by_cases c10 : a0 = (7 : Int32)
                · replace hf := (if_pos c10).symm.trans hf
                  refine X_tabIn (pc := 5) (off := 96) (7) 101 dX12_state_5 (by rw [c10]; rfl) (by decide) ?_
                  refine X_aload_n (pc := 101) (i := 0) 0 dX12_state_101 rfl rfl ?_
                  refine X_get (pc := 102) (a := 34) (ci := 11) (j := 30) (.int (q1.1 34 30)) (sh_34 hT) (by decide) k_1258 rfl dX12_state_102 ?_
                  refine X_i2l (pc := 105) dX12_state_105 ?_
                  cases hf
                  exact X_lreturn (pc := 106) rfl dX12_state_106
                · replace hf := (if_neg c10).symm.trans hf
                  by_cases c11 : a0 = (8 : Int32)
                  · replace hf := (if_pos c11).symm.trans hf
                    refine X_tabIn (pc := 5) (off := 102) (8) 107 dX12_state_5 (by rw [c11]; rfl) (by decide) ?_
                    refine X_aload_n (pc := 107) (i := 0) 0 dX12_state_107 rfl rfl ?_
                    refine X_get (pc := 108) (a := 34) (ci := 11) (j := 31) (.int (q1.1 34 31)) (sh_34 hT) (by decide) k_1259 rfl dX12_state_108 ?_
                    refine X_i2l (pc := 111) dX12_state_111 ?_
                    cases hf
                    exact X_lreturn (pc := 112) rfl dX12_state_112
                  · replace hf := (if_neg c11).symm.trans hf
                    by_cases c12 : a0 = (9 : Int32)
                    · replace hf := (if_pos c12).symm.trans hf
                      refine X_tabIn (pc := 5) (off := 108) (9) 113 dX12_state_5 (by rw [c12]; rfl) (by decide) ?_
                      refine X_aload_n (pc := 113) (i := 0) 0 dX12_state_113 rfl rfl ?_
                      obtain ⟨q17, c18, hf⟩ := bd_some hf
                      refine X_invV_i (pc := 114) (c_Md_isLocked hT c18) ok_Md_isLocked (ci := 11) (sh_34 hT) k_1569 k_1571 k_50 nd_11 (by decide) rfl (Nat.le_of_ble_eq_true rfl) dX12_state_114 ?_
                      by_cases c19 : q17.1 = (0 : Int32)
                      · replace hf := (if_pos c19).symm.trans hf
                        refine X_if_eq_t (pc := 117) 124 dX12_state_117 (by decide) c19 ?_
                        refine X_lconst (pc := 124) (0 : Int64) dX12_state_124 (by decide) ?_
                        cases hf
                        exact X_lreturn (pc := 125) rfl dX12_state_125
                      · replace hf := (if_neg c19).symm.trans hf
                        refine X_if_eq_f (pc := 117) 124 dX12_state_117 (by decide) c19 ?_
                        refine X_lconst (pc := 120) (1 : Int64) dX12_state_120 (by decide) ?_
                        refine X_goto (pc := 121) 125 dX12_state_121 (by decide) ?_
                        cases hf
                        exact X_lreturn (pc := 125) rfl dX12_state_125
                    · replace hf := (if_neg c12).symm.trans hf
                      refine X_tabOut (pc := 5) 126 dX12_state_5 (by have zc3 := lv_neT (a := 0) c3 rfl; have zc4 := lv_neT (a := 1) c4 rfl; have zc5 := lv_neT (a := 2) c5 rfl; have zc6 := lv_neT (a := 3) c6 rfl; have zc7 := lv_neT (a := 4) c7 rfl; have zc8 := lv_neT (a := 5) c8 rfl; have zc9 := lv_neT (a := 6) c9 rfl; have zc10 := lv_neT (a := 7) c10 rfl; have zc11 := lv_neT (a := 8) c11 rfl; have zc12 := lv_neT (a := 9) c12 rfl; omega) (by decide) ?_
                      refine X_ldc2 (pc := 126) (-9999999 : Int64) k_1693 dX12_state_126 ?_
                      cases hf
                      exact X_lreturn (pc := 129) rfl dX12_state_129
theorem u_Md_state {S : List xSh} {a0 : Int32} {I : Nat → Nat → Int32} {L : Nat → Nat → Int64} {q : (Int64 × (Nat → Nat → Int32) × (Nat → Nat → Int64))} (hf : f_Md_state a0 I L = some q) : FR S [57] [58, 59, 4451, 4452] I q.2.1 L q.2.2 := by
  replace hf := (f_Md_state.eq_1 _ _ _).symm.trans hf
  obtain ⟨q1, c2, hf⟩ := bd_some hf
  by_cases c3 : a0 = (0 : Int32)
  · replace hf := (if_pos c3).symm.trans hf
    cases hf
    exact (FR.tr FR.rf (u_Md_speeds (q := q1) c2) (by decide) (by decide))
  · replace hf := (if_neg c3).symm.trans hf
    by_cases c4 : a0 = (1 : Int32)
    · replace hf := (if_pos c4).symm.trans hf
      cases hf
      exact (FR.tr FR.rf (u_Md_speeds (q := q1) c2) (by decide) (by decide))
    · replace hf := (if_neg c4).symm.trans hf
      by_cases c5 : a0 = (2 : Int32)
      · replace hf := (if_pos c5).symm.trans hf
        cases hf
        exact (FR.tr FR.rf (u_Md_speeds (q := q1) c2) (by decide) (by decide))
      · replace hf := (if_neg c5).symm.trans hf
        by_cases c6 : a0 = (3 : Int32)
        · replace hf := (if_pos c6).symm.trans hf
          cases hf
          exact (FR.tr FR.rf (u_Md_speeds (q := q1) c2) (by decide) (by decide))
        · replace hf := (if_neg c6).symm.trans hf
          by_cases c7 : a0 = (4 : Int32)
          · replace hf := (if_pos c7).symm.trans hf
            cases hf
            exact (FR.tr FR.rf (u_Md_speeds (q := q1) c2) (by decide) (by decide))
          · replace hf := (if_neg c7).symm.trans hf
            by_cases c8 : a0 = (5 : Int32)
            · replace hf := (if_pos c8).symm.trans hf
              obtain ⟨q13, c14, hf⟩ := bd_some hf
              cases hf
              exact (FR.tr FR.rf (u_Md_speeds (q := q1) c2) (by decide) (by decide))
            · replace hf := (if_neg c8).symm.trans hf
              by_cases c9 : a0 = (6 : Int32)
              · replace hf := (if_pos c9).symm.trans hf
                obtain ⟨q15, c16, hf⟩ := bd_some hf
                cases hf
                exact (FR.tr FR.rf (u_Md_speeds (q := q1) c2) (by decide) (by decide))
              · replace hf := (if_neg c9).symm.trans hf
                by_cases c10 : a0 = (7 : Int32)
                · replace hf := (if_pos c10).symm.trans hf
                  cases hf
                  exact (FR.tr FR.rf (u_Md_speeds (q := q1) c2) (by decide) (by decide))
                · replace hf := (if_neg c10).symm.trans hf
                  by_cases c11 : a0 = (8 : Int32)
                  · replace hf := (if_pos c11).symm.trans hf
                    cases hf
                    exact (FR.tr FR.rf (u_Md_speeds (q := q1) c2) (by decide) (by decide))
                  · replace hf := (if_neg c11).symm.trans hf
                    by_cases c12 : a0 = (9 : Int32)
                    · replace hf := (if_pos c12).symm.trans hf
                      obtain ⟨q17, c18, hf⟩ := bd_some hf
                      by_cases c19 : q17.1 = (0 : Int32)
                      · replace hf := (if_pos c19).symm.trans hf
                        cases hf
                        exact (FR.tr (FR.tr FR.rf (u_Md_speeds (q := q1) c2) (by decide) (by decide)) (u_Md_isLocked (q := q17) c18) (by decide) (by decide))
                      · replace hf := (if_neg c19).symm.trans hf
                        cases hf
                        exact (FR.tr (FR.tr FR.rf (u_Md_speeds (q := q1) c2) (by decide) (by decide)) (u_Md_isLocked (q := q17) c18) (by decide) (by decide))
                    · replace hf := (if_neg c12).symm.trans hf
                      cases hf
                      exact (FR.tr FR.rf (u_Md_speeds (q := q1) c2) (by decide) (by decide))

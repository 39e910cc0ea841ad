theorem dX12_setting_0 : decode cX12_setting 0 = .ok (.iload_n 2, 1) := by decide +kernel
theorem dX12_setting_1 : decode cX12_setting 1 = .ok (.i2l, 1) := by decide +kernel
theorem dX12_setting_2 : decode cX12_setting 2 = .ok (.lconst 0, 1) := by decide +kernel
theorem dX12_setting_3 : decode cX12_setting 3 = .ok (.ldc2_w 391, 3) := by decide +kernel
theorem dX12_setting_6 : decode cX12_setting 6 = .ok (.invokestatic 140, 3) := by decide +kernel
theorem dX12_setting_9 : decode cX12_setting 9 = .ok (.ifCond .eq 19, 3) := by decide +kernel
theorem dX12_setting_12 : decode cX12_setting 12 = .ok (.iload_n 1, 1) := by decide +kernel
theorem dX12_setting_13 : decode cX12_setting 13 = .ok (.i2l, 1) := by decide +kernel
theorem dX12_setting_14 : decode cX12_setting 14 = .ok (.ldc2_w 514, 3) := by decide +kernel
theorem dX12_setting_17 : decode cX12_setting 17 = .ok (.aload_n 0, 1) := by decide +kernel
theorem dX12_setting_18 : decode cX12_setting 18 = .ok (.getfield 508, 3) := by decide +kernel
theorem dX12_setting_21 : decode cX12_setting 21 = .ok (.i2l, 1) := by decide +kernel
theorem dX12_setting_22 : decode cX12_setting 22 = .ok (.invokestatic 140, 3) := by decide +kernel
theorem dX12_setting_25 : decode cX12_setting 25 = .ok (.ifCond .ne 7, 3) := by decide +kernel
theorem dX12_setting_28 : decode cX12_setting 28 = .ok (.ldc_w 480, 3) := by decide +kernel
theorem dX12_setting_31 : decode cX12_setting 31 = .ok (.ireturn, 1) := by decide +kernel
theorem dX12_setting_32 : decode cX12_setting 32 = .ok (.iload_n 1, 1) := by decide +kernel
theorem dX12_setting_33 : decode cX12_setting 33 = .ok (.ifCond .lt 17, 3) := by decide +kernel
theorem dX12_setting_36 : decode cX12_setting 36 = .ok (.aload_n 0, 1) := by decide +kernel
theorem dX12_setting_37 : decode cX12_setting 37 = .ok (.getfield 120, 3) := by decide +kernel
theorem dX12_setting_40 : decode cX12_setting 40 = .ok (.bipush 32, 2) := by decide +kernel
theorem dX12_setting_42 : decode cX12_setting 42 = .ok (.iload_n 1, 1) := by decide +kernel
theorem dX12_setting_43 : decode cX12_setting 43 = .ok (.imul, 1) := by decide +kernel
theorem dX12_setting_44 : decode cX12_setting 44 = .ok (.iload_n 2, 1) := by decide +kernel
theorem dX12_setting_45 : decode cX12_setting 45 = .ok (.iadd, 1) := by decide +kernel
theorem dX12_setting_46 : decode cX12_setting 46 = .ok (.iaload, 1) := by decide +kernel
theorem dX12_setting_47 : decode cX12_setting 47 = .ok (.goto 16, 3) := by decide +kernel
theorem dX12_setting_50 : decode cX12_setting 50 = .ok (.aload_n 0, 1) := by decide +kernel
theorem dX12_setting_51 : decode cX12_setting 51 = .ok (.getfield 123, 3) := by decide +kernel
theorem dX12_setting_54 : decode cX12_setting 54 = .ok (.bipush 32, 2) := by decide +kernel
theorem dX12_setting_56 : decode cX12_setting 56 = .ok (.iconst (-1), 1) := by decide +kernel
theorem dX12_setting_57 : decode cX12_setting 57 = .ok (.iload_n 1, 1) := by decide +kernel
theorem dX12_setting_58 : decode cX12_setting 58 = .ok (.isub, 1) := by decide +kernel
theorem dX12_setting_59 : decode cX12_setting 59 = .ok (.imul, 1) := by decide +kernel
theorem dX12_setting_60 : decode cX12_setting 60 = .ok (.iload_n 2, 1) := by decide +kernel
theorem dX12_setting_61 : decode cX12_setting 61 = .ok (.iadd, 1) := by decide +kernel
theorem dX12_setting_62 : decode cX12_setting 62 = .ok (.iaload, 1) := by decide +kernel
theorem dX12_setting_63 : decode cX12_setting 63 = .ok (.ireturn, 1) := by decide +kernel
def f_Md_setting (a0 : Int32) (a1 : Int32) (I : Nat → Nat → Int32) (L : Nat → Nat → Int64) : Option Int32 := (bnd (f_Md_within (Int32.toInt64 a1) (0 : Int64) (31 : Int64)) fun x1 => (if x1 = (0 : Int32) then (some (-9999999 : Int32)) else (bnd (f_Md_within (Int32.toInt64 a0) (-4 : Int64) (Int32.toInt64 (I 34 75))) fun x3 => (if x3 = (0 : Int32) then (some (-9999999 : Int32)) else (if a0 < (0 : Int32) then (bnd (((32 : Int32) * ((-1 : Int32) - a0)) + a1) fun x6 => (if (0 ≤ x6 ∧ x6 < (128 : Int32)) then (some (I 72 (x6.toNatClampNeg))) else none)) else (if (0 ≤ (((32 : Int32) * a0) + a1) ∧ (((32 : Int32) * a0) + a1) < (16032 : Int32)) then (some (I 71 ((((32 : Int32) * a0) + a1).toNatClampNeg))) else none))))))
set_option maxRecDepth 100000 in
set_option maxHeartbeats 4000000 in
theorem c_Md_setting {G : xG} {S : List xSh} {Rf : Nat → Nat → Option Nat} (hT : xTM S Rf) {a0 : Int32} {a1 : Int32} {I : Nat → Nat → Int32} {L : Nat → Nat → Int64} {q : Int32} (hf : f_Md_setting a0 a1 I L = some q) : CT G 2 m_Md_setting [.ref (xP G 34), .int a0, .int a1] (S, I, L, Rf) (some (.int q), (S, I, L, Rf)) := by
  refine CT.of (by decide +kernel) (Nat.le_of_ble_eq_true rfl) ?_
  show X G 2 m_Md_setting 0 [(0, .ref (xP G 34)), (1, .int a0), (2, .int a1)] [] (S, I, L, Rf) (some (.int q), (S, I, L, Rf))
  replace hf := (f_Md_setting.eq_1 _ _ _ _).symm.trans hf
  refine X_iload_n (pc := 0) (i := 2) 2 dX12_setting_0 rfl rfl ?_
  refine X_i2l (pc := 1) dX12_setting_1 ?_
  refine X_lconst (pc := 2) (0 : Int64) dX12_setting_2 (by decide) ?_
  refine X_ldc2 (pc := 3) (31 : Int64) k_1668 dX12_setting_3 ?_
  refine X_invS_i (pc := 6) (c_Md_within hT rfl) ok_Md_within k_1482 k_1483 nd_33 (by decide) rfl (Nat.le_of_ble_eq_true rfl) dX12_setting_6 ?_
  obtain ⟨x1, ex1, hf⟩ := bnd_e hf
  refine X_tope ex1 ?_
  by_cases c2 : x1 = (0 : Int32)
  · replace hf := (if_pos c2).symm.trans hf
    refine X_if_eq_t (pc := 9) 28 dX12_setting_9 (by decide) c2 ?_
    refine X_ldcw (pc := 28) (-9999999 : Int32) k_1761 dX12_setting_28 ?_
    cases hf
    exact X_ireturn (pc := 31) rfl dX12_setting_31
  · replace hf := (if_neg c2).symm.trans hf
    refine X_if_eq_f (pc := 9) 28 dX12_setting_9 (by decide) c2 ?_
    refine X_iload_n (pc := 12) (i := 1) 1 dX12_setting_12 rfl rfl ?_
    refine X_i2l (pc := 13) dX12_setting_13 ?_
    refine X_ldc2 (pc := 14) (-4 : Int64) k_1812 dX12_setting_14 ?_
    refine X_aload_n (pc := 17) (i := 0) 0 dX12_setting_17 rfl rfl ?_
    refine X_get (pc := 18) (a := 34) (ci := 11) (j := 75) (.int (I 34 75)) (sh_34 hT) (by decide) k_1303 rfl dX12_setting_18 ?_
    refine X_i2l (pc := 21) dX12_setting_21 ?_
    refine X_invS_i (pc := 22) (c_Md_within hT rfl) ok_Md_within k_1482 k_1483 nd_33 (by decide) rfl (Nat.le_of_ble_eq_true rfl) dX12_setting_22 ?_
    obtain ⟨x3, ex3, hf⟩ := bnd_e hf
    refine X_tope ex3 ?_
    by_cases c4 : x3 = (0 : Int32)
    · replace hf := (if_pos c4).symm.trans hf
      refine X_if_ne_f (pc := 25) 32 dX12_setting_25 (by decide) c4 ?_
      refine X_ldcw (pc := 28) (-9999999 : Int32) k_1761 dX12_setting_28 ?_
      cases hf
      exact X_ireturn (pc := 31) rfl dX12_setting_31
    · replace hf := (if_neg c4).symm.trans hf
      refine X_if_ne_t (pc := 25) 32 dX12_setting_25 (by decide) c4 ?_
      refine X_iload_n (pc := 32) (i := 1) 1 dX12_setting_32 rfl rfl ?_
      by_cases c5 : a0 < (0 : Int32)
      · replace hf := (if_pos c5).symm.trans hf
        refine X_if_lt_t (pc := 33) 50 dX12_setting_33 (by decide) c5 ?_
        refine X_aload_n (pc := 50) (i := 0) 0 dX12_setting_50 rfl rfl ?_
        refine X_getr (pc := 51) (a := 34) (ci := 11) (j := 77) (c := 72) (sh_34 hT) (by decide) k_1305 (rf_34_77 hT) (fun _ h => h) dX12_setting_51 ?_
        refine X_bipush (pc := 54) (32 : Int32) dX12_setting_54 (by decide) ?_
        refine X_iconst (pc := 56) (-1 : Int32) dX12_setting_56 (by decide) ?_
        refine X_iload_n (pc := 57) (i := 1) 1 dX12_setting_57 rfl rfl ?_
        refine X_isub (pc := 58) dX12_setting_58 ?_
        refine X_imul (pc := 59) dX12_setting_59 ?_
        refine X_iload_n (pc := 60) (i := 2) 2 dX12_setting_60 rfl rfl ?_
        refine X_iadd (pc := 61) dX12_setting_61 ?_
        obtain ⟨x6, ex6, hf⟩ := bnd_e hf
        refine X_tope ex6 ?_
        obtain ⟨c7, hf⟩ := gd_some hf
        refine X_ialdj (pc := 62) (j := x6.toNatClampNeg) (I 72 (x6.toNatClampNeg)) (sh_72 hT) (vp_in_lit (N := 128) c7 (by decide)) rfl rfl dX12_setting_62 ?_
        cases hf
        exact X_ireturn (pc := 63) rfl dX12_setting_63
      · replace hf := (if_neg c5).symm.trans hf
        refine X_if_lt_f (pc := 33) 50 dX12_setting_33 (by decide) c5 ?_
        refine X_aload_n (pc := 36) (i := 0) 0 dX12_setting_36 rfl rfl ?_
        refine X_getr (pc := 37) (a := 34) (ci := 11) (j := 76) (c := 71) (sh_34 hT) (by decide) k_1304 (rf_34_76 hT) (fun _ h => h) dX12_setting_37 ?_
        refine X_bipush (pc := 40) (32 : Int32) dX12_setting_40 (by decide) ?_
        refine X_iload_n (pc := 42) (i := 1) 1 dX12_setting_42 rfl rfl ?_
        refine X_imul (pc := 43) dX12_setting_43 ?_
        refine X_iload_n (pc := 44) (i := 2) 2 dX12_setting_44 rfl rfl ?_
        refine X_iadd (pc := 45) dX12_setting_45 ?_
        obtain ⟨c8, hf⟩ := gd_some hf
        refine X_ialdj (pc := 46) (j := (((32 : Int32) * a0) + a1).toNatClampNeg) (I 71 ((((32 : Int32) * a0) + a1).toNatClampNeg)) (sh_71 hT) (vp_in_lit (N := 16032) c8 (by decide)) rfl rfl dX12_setting_46 ?_
        refine X_goto (pc := 47) 63 dX12_setting_47 (by decide) ?_
        cases hf
        exact X_ireturn (pc := 63) rfl dX12_setting_63
theorem dX12_version_0 : decode cX12_version 0 = .ok (.iload_n 1, 1) := by decide +kernel
theorem dX12_version_1 : decode cX12_version 1 = .ok (.ifCond .ne 10, 3) := by decide +kernel
theorem dX12_version_4 : decode cX12_version 4 = .ok (.aload_n 0, 1) := by decide +kernel
theorem dX12_version_5 : decode cX12_version 5 = .ok (.getfield 508, 3) := by decide +kernel
theorem dX12_version_8 : decode cX12_version 8 = .ok (.goto 27, 3) := by decide +kernel
theorem dX12_version_11 : decode cX12_version 11 = .ok (.iload_n 1, 1) := by decide +kernel
theorem dX12_version_12 : decode cX12_version 12 = .ok (.i2l, 1) := by decide +kernel
theorem dX12_version_13 : decode cX12_version 13 = .ok (.lconst 1, 1) := by decide +kernel
theorem dX12_version_14 : decode cX12_version 14 = .ok (.ldc2_w 319, 3) := by decide +kernel
theorem dX12_version_17 : decode cX12_version 17 = .ok (.invokestatic 140, 3) := by decide +kernel
theorem dX12_version_20 : decode cX12_version 20 = .ok (.ifCond .eq 14, 3) := by decide +kernel
theorem dX12_version_23 : decode cX12_version 23 = .ok (.aload_n 0, 1) := by decide +kernel
theorem dX12_version_24 : decode cX12_version 24 = .ok (.getfield 126, 3) := by decide +kernel
theorem dX12_version_27 : decode cX12_version 27 = .ok (.iload_n 1, 1) := by decide +kernel
theorem dX12_version_28 : decode cX12_version 28 = .ok (.iconst 1, 1) := by decide +kernel
theorem dX12_version_29 : decode cX12_version 29 = .ok (.isub, 1) := by decide +kernel
theorem dX12_version_30 : decode cX12_version 30 = .ok (.iaload, 1) := by decide +kernel
theorem dX12_version_31 : decode cX12_version 31 = .ok (.goto 4, 3) := by decide +kernel
theorem dX12_version_34 : decode cX12_version 34 = .ok (.iconst (-1), 1) := by decide +kernel
theorem dX12_version_35 : decode cX12_version 35 = .ok (.ireturn, 1) := by decide +kernel
def f_Md_version (a0 : Int32) (I : Nat → Nat → Int32) (L : Nat → Nat → Int64) : Option Int32 := (if a0 = (0 : Int32) then (some (I 34 75)) else (bnd (f_Md_within (Int32.toInt64 a0) (1 : Int64) (4 : Int64)) fun x2 => (if x2 = (0 : Int32) then (some (-1 : Int32)) else (if (0 ≤ (a0 - (1 : Int32)) ∧ (a0 - (1 : Int32)) < (4 : Int32)) then (some (I 73 ((a0 - (1 : Int32)).toNatClampNeg))) else none))))
set_option maxRecDepth 100000 in
set_option maxHeartbeats 4000000 in
theorem c_Md_version {G : xG} {S : List xSh} {Rf : Nat → Nat → Option Nat} (hT : xTM S Rf) {a0 : Int32} {I : Nat → Nat → Int32} {L : Nat → Nat → Int64} {q : Int32} (hf : f_Md_version a0 I L = some q) : CT G 2 m_Md_version [.ref (xP G 34), .int a0] (S, I, L, Rf) (some (.int q), (S, I, L, Rf)) := by
  refine CT.of (by decide +kernel) (Nat.le_of_ble_eq_true rfl) ?_
  show X G 2 m_Md_version 0 [(0, .ref (xP G 34)), (1, .int a0)] [] (S, I, L, Rf) (some (.int q), (S, I, L, Rf))
  replace hf := (f_Md_version.eq_1 _ _ _).symm.trans hf
  refine X_iload_n (pc := 0) (i := 1) 1 dX12_version_0 rfl rfl ?_
  by_cases c1 : a0 = (0 : Int32)
  · replace hf := (if_pos c1).symm.trans hf
    refine X_if_ne_f (pc := 1) 11 dX12_version_1 (by decide) c1 ?_
    refine X_aload_n (pc := 4) (i := 0) 0 dX12_version_4 rfl rfl ?_
    refine X_get (pc := 5) (a := 34) (ci := 11) (j := 75) (.int (I 34 75)) (sh_34 hT) (by decide) k_1303 rfl dX12_version_5 ?_
    refine X_goto (pc := 8) 35 dX12_version_8 (by decide) ?_
    cases hf
    exact X_ireturn (pc := 35) rfl dX12_version_35
  · replace hf := (if_neg c1).symm.trans hf
    refine X_if_ne_t (pc := 1) 11 dX12_version_1 (by decide) c1 ?_
    refine X_iload_n (pc := 11) (i := 1) 1 dX12_version_11 rfl rfl ?_
    refine X_i2l (pc := 12) dX12_version_12 ?_
    refine X_lconst (pc := 13) (1 : Int64) dX12_version_13 (by decide) ?_
    refine X_ldc2 (pc := 14) (4 : Int64) k_1674 dX12_version_14 ?_
    refine X_invS_i (pc := 17) (c_Md_within hT rfl) ok_Md_within k_1482 k_1483 nd_33 (by decide) rfl (Nat.le_of_ble_eq_true rfl) dX12_version_17 ?_
    obtain ⟨x2, ex2, hf⟩ := bnd_e hf
    refine X_tope ex2 ?_
    by_cases c3 : x2 = (0 : Int32)
    · replace hf := (if_pos c3).symm.trans hf
      refine X_if_eq_t (pc := 20) 34 dX12_version_20 (by decide) c3 ?_
      refine X_iconst (pc := 34) (-1 : Int32) dX12_version_34 (by decide) ?_
      cases hf
      exact X_ireturn (pc := 35) rfl dX12_version_35
    · replace hf := (if_neg c3).symm.trans hf
      refine X_if_eq_f (pc := 20) 34 dX12_version_20 (by decide) c3 ?_
      refine X_aload_n (pc := 23) (i := 0) 0 dX12_version_23 rfl rfl ?_
      refine X_getr (pc := 24) (a := 34) (ci := 11) (j := 78) (c := 73) (sh_34 hT) (by decide) k_1306 (rf_34_78 hT) (fun _ h => h) dX12_version_24 ?_
      refine X_iload_n (pc := 27) (i := 1) 1 dX12_version_27 rfl rfl ?_
      refine X_iconst (pc := 28) (1 : Int32) dX12_version_28 (by decide) ?_
      refine X_isub (pc := 29) dX12_version_29 ?_
      obtain ⟨c4, hf⟩ := gd_some hf
      refine X_ialdj (pc := 30) (j := (a0 - (1 : Int32)).toNatClampNeg) (I 73 ((a0 - (1 : Int32)).toNatClampNeg)) (sh_73 hT) (vp_in_lit (N := 4) c4 (by decide)) rfl rfl dX12_version_30 ?_
      refine X_goto (pc := 31) 35 dX12_version_31 (by decide) ?_
      cases hf
      exact X_ireturn (pc := 35) rfl dX12_version_35
theorem dX12_never_0 : decode cX12_never 0 = .ok (.iload_n 1, 1) := by decide +kernel
theorem dX12_never_1 : decode cX12_never 1 = .ok (.i2l, 1) := by decide +kernel
theorem dX12_never_2 : decode cX12_never 2 = .ok (.lconst 0, 1) := by decide +kernel
theorem dX12_never_3 : decode cX12_never 3 = .ok (.ldc2_w 319, 3) := by decide +kernel
theorem dX12_never_6 : decode cX12_never 6 = .ok (.invokestatic 140, 3) := by decide +kernel
theorem dX12_never_9 : decode cX12_never 9 = .ok (.ifCond .eq 12, 3) := by decide +kernel
theorem dX12_never_12 : decode cX12_never 12 = .ok (.aload_n 0, 1) := by decide +kernel
theorem dX12_never_13 : decode cX12_never 13 = .ok (.getfield 74, 3) := by decide +kernel
theorem dX12_never_16 : decode cX12_never 16 = .ok (.iload_n 1, 1) := by decide +kernel
theorem dX12_never_17 : decode cX12_never 17 = .ok (.iaload, 1) := by decide +kernel
theorem dX12_never_18 : decode cX12_never 18 = .ok (.goto 4, 3) := by decide +kernel
theorem dX12_never_21 : decode cX12_never 21 = .ok (.iconst (-1), 1) := by decide +kernel
theorem dX12_never_22 : decode cX12_never 22 = .ok (.ireturn, 1) := by decide +kernel
def f_Md_never (a0 : Int32) (I : Nat → Nat → Int32) (L : Nat → Nat → Int64) : Option Int32 := (bnd (f_Md_within (Int32.toInt64 a0) (0 : Int64) (4 : Int64)) fun x1 => (if x1 = (0 : Int32) then (some (-1 : Int32)) else (if (0 ≤ a0 ∧ a0 < (5 : Int32)) then (some (I 56 (a0.toNatClampNeg))) else none)))
set_option maxRecDepth 100000 in
set_option maxHeartbeats 4000000 in
theorem c_Md_never {G : xG} {S : List xSh} {Rf : Nat → Nat → Option Nat} (hT : xTM S Rf) {a0 : Int32} {I : Nat → Nat → Int32} {L : Nat → Nat → Int64} {q : Int32} (hf : f_Md_never a0 I L = some q) : CT G 2 m_Md_never [.ref (xP G 34), .int a0] (S, I, L, Rf) (some (.int q), (S, I, L, Rf)) := by
  refine CT.of (by decide +kernel) (Nat.le_of_ble_eq_true rfl) ?_
  show X G 2 m_Md_never 0 [(0, .ref (xP G 34)), (1, .int a0)] [] (S, I, L, Rf) (some (.int q), (S, I, L, Rf))
  replace hf := (f_Md_never.eq_1 _ _ _).symm.trans hf
  refine X_iload_n (pc := 0) (i := 1) 1 dX12_never_0 rfl rfl ?_
  refine X_i2l (pc := 1) dX12_never_1 ?_
  refine X_lconst (pc := 2) (0 : Int64) dX12_never_2 (by decide) ?_
  refine X_ldc2 (pc := 3) (4 : Int64) k_1674 dX12_never_3 ?_
  refine X_invS_i (pc := 6) (c_Md_within hT rfl) ok_Md_within k_1482 k_1483 nd_33 (by decide) rfl (Nat.le_of_ble_eq_true rfl) dX12_never_6 ?_
  obtain ⟨x1, ex1, hf⟩ := bnd_e hf
  refine X_tope ex1 ?_
  by_cases c2 : x1 = (0 : Int32)
  · replace hf := (if_pos c2).symm.trans hf
    refine X_if_eq_t (pc := 9) 21 dX12_never_9 (by decide) c2 ?_
    refine X_iconst (pc := 21) (-1 : Int32) dX12_never_21 (by decide) ?_
    cases hf
    exact X_ireturn (pc := 22) rfl dX12_never_22
  · replace hf := (if_neg c2).symm.trans hf
    refine X_if_eq_f (pc := 9) 21 dX12_never_9 (by decide) c2 ?_
    refine X_aload_n (pc := 12) (i := 0) 0 dX12_never_12 rfl rfl ?_
    refine X_getr (pc := 13) (a := 34) (ci := 11) (j := 44) (c := 56) (sh_34 hT) (by decide) k_1272 (rf_34_44 hT) (fun _ h => h) dX12_never_13 ?_
    refine X_iload_n (pc := 16) (i := 1) 1 dX12_never_16 rfl rfl ?_
    obtain ⟨c3, hf⟩ := gd_some hf
    refine X_ialdj (pc := 17) (j := a0.toNatClampNeg) (I 56 (a0.toNatClampNeg)) (sh_56 hT) (vp_in_lit (N := 5) c3 (by decide)) rfl rfl dX12_never_17 ?_
    refine X_goto (pc := 18) 22 dX12_never_18 (by decide) ?_
    cases hf
    exact X_ireturn (pc := 22) rfl dX12_never_22

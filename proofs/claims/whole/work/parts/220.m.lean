theorem dX12_strikes_0 : decode cX12_strikes 0 = .ok (.bipush 10, 2) := by decide +kernel
theorem dX12_strikes_2 : decode cX12_strikes 2 = .ok (.iload_n 1, 1) := by decide +kernel
theorem dX12_strikes_3 : decode cX12_strikes 3 = .ok (.imul, 1) := by decide +kernel
theorem dX12_strikes_4 : decode cX12_strikes 4 = .ok (.istore_n 2, 1) := by decide +kernel
theorem dX12_strikes_5 : decode cX12_strikes 5 = .ok (.aload_n 0, 1) := by decide +kernel
theorem dX12_strikes_6 : decode cX12_strikes 6 = .ok (.getfield 49, 3) := by decide +kernel
theorem dX12_strikes_9 : decode cX12_strikes 9 = .ok (.iload_n 2, 1) := by decide +kernel
theorem dX12_strikes_10 : decode cX12_strikes 10 = .ok (.iaload, 1) := by decide +kernel
theorem dX12_strikes_11 : decode cX12_strikes 11 = .ok (.istore_n 3, 1) := by decide +kernel
theorem dX12_strikes_12 : decode cX12_strikes 12 = .ok (.aload_n 0, 1) := by decide +kernel
theorem dX12_strikes_13 : decode cX12_strikes 13 = .ok (.getfield 37, 3) := by decide +kernel
theorem dX12_strikes_16 : decode cX12_strikes 16 = .ok (.iload_n 1, 1) := by decide +kernel
theorem dX12_strikes_17 : decode cX12_strikes 17 = .ok (.iaload, 1) := by decide +kernel
theorem dX12_strikes_18 : decode cX12_strikes 18 = .ok (.iconst 1, 1) := by decide +kernel
theorem dX12_strikes_19 : decode cX12_strikes 19 = .ok (.if_icmp .ne 26, 3) := by decide +kernel
theorem dX12_strikes_22 : decode cX12_strikes 22 = .ok (.aload_n 0, 1) := by decide +kernel
theorem dX12_strikes_23 : decode cX12_strikes 23 = .ok (.getfield 49, 3) := by decide +kernel
theorem dX12_strikes_26 : decode cX12_strikes 26 = .ok (.iload_n 2, 1) := by decide +kernel
theorem dX12_strikes_27 : decode cX12_strikes 27 = .ok (.iconst 1, 1) := by decide +kernel
theorem dX12_strikes_28 : decode cX12_strikes 28 = .ok (.iadd, 1) := by decide +kernel
theorem dX12_strikes_29 : decode cX12_strikes 29 = .ok (.iaload, 1) := by decide +kernel
theorem dX12_strikes_30 : decode cX12_strikes 30 = .ok (.istore_n 3, 1) := by decide +kernel
theorem dX12_strikes_31 : decode cX12_strikes 31 = .ok (.aload_n 0, 1) := by decide +kernel
theorem dX12_strikes_32 : decode cX12_strikes 32 = .ok (.getfield 49, 3) := by decide +kernel
theorem dX12_strikes_35 : decode cX12_strikes 35 = .ok (.iload_n 2, 1) := by decide +kernel
theorem dX12_strikes_36 : decode cX12_strikes 36 = .ok (.iconst 1, 1) := by decide +kernel
theorem dX12_strikes_37 : decode cX12_strikes 37 = .ok (.iadd, 1) := by decide +kernel
theorem dX12_strikes_38 : decode cX12_strikes 38 = .ok (.iload_n 3, 1) := by decide +kernel
theorem dX12_strikes_39 : decode cX12_strikes 39 = .ok (.bipush 12, 2) := by decide +kernel
theorem dX12_strikes_41 : decode cX12_strikes 41 = .ok (.irem, 1) := by decide +kernel
theorem dX12_strikes_42 : decode cX12_strikes 42 = .ok (.iconst 1, 1) := by decide +kernel
theorem dX12_strikes_43 : decode cX12_strikes 43 = .ok (.iadd, 1) := by decide +kernel
theorem dX12_strikes_44 : decode cX12_strikes 44 = .ok (.iastore, 1) := by decide +kernel
theorem dX12_strikes_45 : decode cX12_strikes 45 = .ok (.aload_n 0, 1) := by decide +kernel
theorem dX12_strikes_46 : decode cX12_strikes 46 = .ok (.getfield 210, 3) := by decide +kernel
theorem dX12_strikes_49 : decode cX12_strikes 49 = .ok (.sipush 1000, 3) := by decide +kernel
theorem dX12_strikes_52 : decode cX12_strikes 52 = .ok (.if_icmp .ge 46, 3) := by decide +kernel
theorem dX12_strikes_55 : decode cX12_strikes 55 = .ok (.aload_n 0, 1) := by decide +kernel
theorem dX12_strikes_56 : decode cX12_strikes 56 = .ok (.getfield 68, 3) := by decide +kernel
theorem dX12_strikes_59 : decode cX12_strikes 59 = .ok (.iconst 3, 1) := by decide +kernel
theorem dX12_strikes_60 : decode cX12_strikes 60 = .ok (.aload_n 0, 1) := by decide +kernel
theorem dX12_strikes_61 : decode cX12_strikes 61 = .ok (.getfield 210, 3) := by decide +kernel
theorem dX12_strikes_64 : decode cX12_strikes 64 = .ok (.imul, 1) := by decide +kernel
theorem dX12_strikes_65 : decode cX12_strikes 65 = .ok (.aload_n 0, 1) := by decide +kernel
theorem dX12_strikes_66 : decode cX12_strikes 66 = .ok (.getfield 185, 3) := by decide +kernel
theorem dX12_strikes_69 : decode cX12_strikes 69 = .ok (.iastore, 1) := by decide +kernel
theorem dX12_strikes_70 : decode cX12_strikes 70 = .ok (.aload_n 0, 1) := by decide +kernel
theorem dX12_strikes_71 : decode cX12_strikes 71 = .ok (.getfield 68, 3) := by decide +kernel
theorem dX12_strikes_74 : decode cX12_strikes 74 = .ok (.iconst 3, 1) := by decide +kernel
theorem dX12_strikes_75 : decode cX12_strikes 75 = .ok (.aload_n 0, 1) := by decide +kernel
theorem dX12_strikes_76 : decode cX12_strikes 76 = .ok (.getfield 210, 3) := by decide +kernel
theorem dX12_strikes_79 : decode cX12_strikes 79 = .ok (.imul, 1) := by decide +kernel
theorem dX12_strikes_80 : decode cX12_strikes 80 = .ok (.iconst 1, 1) := by decide +kernel
theorem dX12_strikes_81 : decode cX12_strikes 81 = .ok (.iadd, 1) := by decide +kernel
theorem dX12_strikes_82 : decode cX12_strikes 82 = .ok (.iload_n 1, 1) := by decide +kernel
theorem dX12_strikes_83 : decode cX12_strikes 83 = .ok (.iastore, 1) := by decide +kernel
theorem dX12_strikes_84 : decode cX12_strikes 84 = .ok (.aload_n 0, 1) := by decide +kernel
theorem dX12_strikes_85 : decode cX12_strikes 85 = .ok (.getfield 68, 3) := by decide +kernel
theorem dX12_strikes_88 : decode cX12_strikes 88 = .ok (.iconst 3, 1) := by decide +kernel
theorem dX12_strikes_89 : decode cX12_strikes 89 = .ok (.aload_n 0, 1) := by decide +kernel
theorem dX12_strikes_90 : decode cX12_strikes 90 = .ok (.getfield 210, 3) := by decide +kernel
theorem dX12_strikes_93 : decode cX12_strikes 93 = .ok (.imul, 1) := by decide +kernel
theorem dX12_strikes_94 : decode cX12_strikes 94 = .ok (.iconst 2, 1) := by decide +kernel
theorem dX12_strikes_95 : decode cX12_strikes 95 = .ok (.iadd, 1) := by decide +kernel
theorem dX12_strikes_96 : decode cX12_strikes 96 = .ok (.iload_n 3, 1) := by decide +kernel
theorem dX12_strikes_97 : decode cX12_strikes 97 = .ok (.iastore, 1) := by decide +kernel
theorem dX12_strikes_98 : decode cX12_strikes 98 = .ok (.aload_n 0, 1) := by decide +kernel
theorem dX12_strikes_99 : decode cX12_strikes 99 = .ok (.dup, 1) := by decide +kernel
theorem dX12_strikes_100 : decode cX12_strikes 100 = .ok (.getfield 210, 3) := by decide +kernel
theorem dX12_strikes_103 : decode cX12_strikes 103 = .ok (.iconst 1, 1) := by decide +kernel
theorem dX12_strikes_104 : decode cX12_strikes 104 = .ok (.iadd, 1) := by decide +kernel
theorem dX12_strikes_105 : decode cX12_strikes 105 = .ok (.putfield 210, 3) := by decide +kernel
theorem dX12_strikes_108 : decode cX12_strikes 108 = .ok (.iload_n 3, 1) := by decide +kernel
theorem dX12_strikes_109 : decode cX12_strikes 109 = .ok (.ireturn, 1) := by decide +kernel
def f_Md_strikes_L45 (l1 : Int32) (l3 : Int32) (I : (Nat → Nat → Int32)) (L : (Nat → Nat → Int64)) : Option (Int32 × (Nat → Nat → Int32) × (Nat → Nat → Int64)) := (if (1000 : Int32) ≤ (I 34 40) then (bnd ((I 34 40) + (1 : Int32)) fun x11 => (some (l3, (uI I 34 40 x11), L))) else (bnd (I 34 25) fun x12 => (if (0 ≤ ((3 : Int32) * (I 34 40)) ∧ ((3 : Int32) * (I 34 40)) < (3000 : Int32)) then (if (0 ≤ (((3 : Int32) * (I 34 40)) + (1 : Int32)) ∧ (((3 : Int32) * (I 34 40)) + (1 : Int32)) < (3000 : Int32)) then (if (0 ≤ (((3 : Int32) * (I 34 40)) + (2 : Int32)) ∧ (((3 : Int32) * (I 34 40)) + (2 : Int32)) < (3000 : Int32)) then (bnd ((I 34 40) + (1 : Int32)) fun x16 => (some (l3, (uI (uI (uI (uI I 54 (((3 : Int32) * (I 34 40)).toNatClampNeg) x12) 54 ((((3 : Int32) * (I 34 40)) + (1 : Int32)).toNatClampNeg) l1) 54 ((((3 : Int32) * (I 34 40)) + (2 : Int32)).toNatClampNeg) l3) 34 40 x16), L))) else none) else none) else none)))
set_option maxRecDepth 100000 in
set_option maxHeartbeats 4000000 in
theorem x_Md_strikes_L45 {G : xG} {S : List xSh} {Rf : Nat → Nat → Option Nat} (hT : xTM S Rf) {l1 : Int32} {l3 : Int32} {I : Nat → Nat → Int32} {L : Nat → Nat → Int64} {q : (Int32 × (Nat → Nat → Int32) × (Nat → Nat → Int64))} (hf : f_Md_strikes_L45 l1 l3 I L = some q) : X G 1 m_Md_strikes 45 [(0, .ref (xP G 34)), (1, .int l1), (3, .int l3)] [] (S, I, L, Rf) (some (.int q.1), (S, q.2.1, q.2.2, Rf)) := by
  replace hf := (f_Md_strikes_L45.eq_1 _ _ _ _).symm.trans hf
  refine X_aload_n (pc := 45) (i := 0) 0 dX12_strikes_45 rfl rfl ?_
  refine X_get (pc := 46) (a := 34) (ci := 11) (j := 40) (.int (I 34 40)) (sh_34 hT) (by decide) k_1268 rfl dX12_strikes_46 ?_
  refine X_sipush (pc := 49) (1000 : Int32) dX12_strikes_49 (by decide) ?_
  by_cases c10 : (1000 : Int32) ≤ (I 34 40)
  · replace hf := (if_pos c10).symm.trans hf
    refine X_icmp_ge_t (pc := 52) 98 dX12_strikes_52 (by decide) c10 ?_
    refine X_aload_n (pc := 98) (i := 0) 0 dX12_strikes_98 rfl rfl ?_
    refine X_dup (pc := 99) dX12_strikes_99 rfl ?_
    refine X_get (pc := 100) (a := 34) (ci := 11) (j := 40) (.int (I 34 40)) (sh_34 hT) (by decide) k_1268 rfl dX12_strikes_100 ?_
    refine X_iconst (pc := 103) (1 : Int32) dX12_strikes_103 (by decide) ?_
    refine X_iadd (pc := 104) dX12_strikes_104 ?_
    obtain ⟨x11, ex11, hf⟩ := bnd_e hf
    refine X_tope ex11 ?_
    refine X_puti (pc := 105) (a := 34) (ci := 11) (j := 40) 40 rfl false (sh_34 hT) (by decide) k_1268 rfl (fun h => by cases h) rfl dX12_strikes_105 ?_
    refine X_iload_n (pc := 108) (i := 3) 2 dX12_strikes_108 rfl rfl ?_
    cases hf
    exact X_ireturn (pc := 109) rfl dX12_strikes_109
  · replace hf := (if_neg c10).symm.trans hf
    refine X_icmp_ge_f (pc := 52) 98 dX12_strikes_52 (by decide) c10 ?_
    refine X_aload_n (pc := 55) (i := 0) 0 dX12_strikes_55 rfl rfl ?_
    refine X_getr (pc := 56) (a := 34) (ci := 11) (j := 39) (c := 54) (sh_34 hT) (by decide) k_1267 (rf_34_39 hT) (fun _ h => h) dX12_strikes_56 ?_
    refine X_iconst (pc := 59) (3 : Int32) dX12_strikes_59 (by decide) ?_
    refine X_aload_n (pc := 60) (i := 0) 0 dX12_strikes_60 rfl rfl ?_
    refine X_get (pc := 61) (a := 34) (ci := 11) (j := 40) (.int (I 34 40)) (sh_34 hT) (by decide) k_1268 rfl dX12_strikes_61 ?_
    refine X_imul (pc := 64) dX12_strikes_64 ?_
    refine X_aload_n (pc := 65) (i := 0) 0 dX12_strikes_65 rfl rfl ?_
    refine X_get (pc := 66) (a := 34) (ci := 11) (j := 25) (.int (I 34 25)) (sh_34 hT) (by decide) k_1253 rfl dX12_strikes_66 ?_
    obtain ⟨x12, ex12, hf⟩ := bnd_e hf
    refine X_tope ex12 ?_
    obtain ⟨c13, hf⟩ := gd_some hf
    refine X_iastj (pc := 69) (j := (((3 : Int32) * (I 34 40)).toNatClampNeg)) (sh_54 hT) (vp_in_lit (N := 3000) c13 (by decide)) rfl dX12_strikes_69 ?_
    refine X_aload_n (pc := 70) (i := 0) 0 dX12_strikes_70 rfl rfl ?_
    refine X_getr (pc := 71) (a := 34) (ci := 11) (j := 39) (c := 54) (sh_34 hT) (by decide) k_1267 (rf_34_39 hT) (fun _ h => h) dX12_strikes_71 ?_
    refine X_iconst (pc := 74) (3 : Int32) dX12_strikes_74 (by decide) ?_
    refine X_aload_n (pc := 75) (i := 0) 0 dX12_strikes_75 rfl rfl ?_
    refine X_get (pc := 76) (a := 34) (ci := 11) (j := 40) (.int (I 34 40)) (sh_34 hT) (by decide) k_1268 rfl dX12_strikes_76 ?_
    refine X_imul (pc := 79) dX12_strikes_79 ?_
    refine X_iconst (pc := 80) (1 : Int32) dX12_strikes_80 (by decide) ?_
    refine X_iadd (pc := 81) dX12_strikes_81 ?_
    refine X_iload_n (pc := 82) (i := 1) 1 dX12_strikes_82 rfl rfl ?_
    obtain ⟨c14, hf⟩ := gd_some hf
    refine X_iastj (pc := 83) (j := ((((3 : Int32) * (I 34 40)) + (1 : Int32)).toNatClampNeg)) (sh_54 hT) (vp_in_lit (N := 3000) c14 (by decide)) rfl dX12_strikes_83 ?_
    refine X_aload_n (pc := 84) (i := 0) 0 dX12_strikes_84 rfl rfl ?_
    refine X_getr (pc := 85) (a := 34) (ci := 11) (j := 39) (c := 54) (sh_34 hT) (by decide) k_1267 (rf_34_39 hT) (fun _ h => h) dX12_strikes_85 ?_
    refine X_iconst (pc := 88) (3 : Int32) dX12_strikes_88 (by decide) ?_
    refine X_aload_n (pc := 89) (i := 0) 0 dX12_strikes_89 rfl rfl ?_
    refine X_get (pc := 90) (a := 34) (ci := 11) (j := 40) (.int (I 34 40)) (sh_34 hT) (by decide) k_1268 rfl dX12_strikes_90 ?_
    refine X_imul (pc := 93) dX12_strikes_93 ?_
    refine X_iconst (pc := 94) (2 : Int32) dX12_strikes_94 (by decide) ?_
    refine X_iadd (pc := 95) dX12_strikes_95 ?_
    refine X_iload_n (pc := 96) (i := 3) 2 dX12_strikes_96 rfl rfl ?_
    obtain ⟨c15, hf⟩ := gd_some hf
    refine X_iastj (pc := 97) (j := ((((3 : Int32) * (I 34 40)) + (2 : Int32)).toNatClampNeg)) (sh_54 hT) (vp_in_lit (N := 3000) c15 (by decide)) rfl dX12_strikes_97 ?_
    refine X_aload_n (pc := 98) (i := 0) 0 dX12_strikes_98 rfl rfl ?_
    refine X_dup (pc := 99) dX12_strikes_99 rfl ?_
    refine X_get (pc := 100) (a := 34) (ci := 11) (j := 40) (.int (I 34 40)) (sh_34 hT) (by decide) k_1268 rfl dX12_strikes_100 ?_
    refine X_iconst (pc := 103) (1 : Int32) dX12_strikes_103 (by decide) ?_
    refine X_iadd (pc := 104) dX12_strikes_104 ?_
    obtain ⟨x16, ex16, hf⟩ := bnd_e hf
    refine X_tope ex16 ?_
    refine X_puti (pc := 105) (a := 34) (ci := 11) (j := 40) 40 rfl false (sh_34 hT) (by decide) k_1268 rfl (fun h => by cases h) rfl dX12_strikes_105 ?_
    refine X_iload_n (pc := 108) (i := 3) 2 dX12_strikes_108 rfl rfl ?_
    cases hf
    exact X_ireturn (pc := 109) rfl dX12_strikes_109
theorem u_Md_strikes_L45 {S : List xSh} {l1 : Int32} {l3 : Int32} {I : Nat → Nat → Int32} {L : Nat → Nat → Int64} {q : (Int32 × (Nat → Nat → Int32) × (Nat → Nat → Int64))} (hf : f_Md_strikes_L45 l1 l3 I L = some q) : FR S [48, 54, 4440] [] I q.2.1 L q.2.2 := by
  replace hf := (f_Md_strikes_L45.eq_1 _ _ _ _).symm.trans hf
  by_cases c10 : (1000 : Int32) ≤ (I 34 40)
  · replace hf := (if_pos c10).symm.trans hf
    obtain ⟨x11, ex11, hf⟩ := bnd_e hf
    cases hf
    exact (FR.fi FR.rf (by decide))
  · replace hf := (if_neg c10).symm.trans hf
    obtain ⟨x12, ex12, hf⟩ := bnd_e hf
    obtain ⟨c13, hf⟩ := gd_some hf
    obtain ⟨c14, hf⟩ := gd_some hf
    obtain ⟨c15, hf⟩ := gd_some hf
    obtain ⟨x16, ex16, hf⟩ := bnd_e hf
    cases hf
    exact (FR.fi (FR.ai (FR.ai (FR.ai FR.rf (by decide)) (by decide)) (by decide)) (by decide))
def f_Md_strikes (a0 : Int32) (I : Nat → Nat → Int32) (L : Nat → Nat → Int64) : Option (Int32 × (Nat → Nat → Int32) × (Nat → Nat → Int64)) := (bnd ((10 : Int32) * a0) fun x1 => (if (0 ≤ x1 ∧ x1 < (80 : Int32)) then (bnd (I 48 (x1.toNatClampNeg)) fun x3 => (if (0 ≤ a0 ∧ a0 < (8 : Int32)) then (if (I 44 (a0.toNatClampNeg)) = (1 : Int32) then (if (0 ≤ (x1 + (1 : Int32)) ∧ (x1 + (1 : Int32)) < (80 : Int32)) then (bnd (I 48 ((x1 + (1 : Int32)).toNatClampNeg)) fun x7 => (bnd ((irem x7 (12 : Int32)) + (1 : Int32)) fun x8 => (if (0 ≤ (x1 + (1 : Int32)) ∧ (x1 + (1 : Int32)) < (80 : Int32)) then (f_Md_strikes_L45 a0 x7 (uI I 48 ((x1 + (1 : Int32)).toNatClampNeg) x8) L) else none))) else none) else (f_Md_strikes_L45 a0 x3 I L)) else none)) else none))
set_option maxRecDepth 100000 in
set_option maxHeartbeats 4000000 in
theorem c_Md_strikes {G : xG} {S : List xSh} {Rf : Nat → Nat → Option Nat} (hT : xTM S Rf) {a0 : Int32} {I : Nat → Nat → Int32} {L : Nat → Nat → Int64} {q : (Int32 × (Nat → Nat → Int32) × (Nat → Nat → Int64))} (hf : f_Md_strikes a0 I L = some q) : CT G 1 m_Md_strikes [.ref (xP G 34), .int a0] (S, I, L, Rf) (some (.int q.1), (S, q.2.1, q.2.2, Rf)) := by
  refine CT.of (by decide +kernel) (Nat.le_of_ble_eq_true rfl) ?_
  show X G 1 m_Md_strikes 0 [(0, .ref (xP G 34)), (1, .int a0)] [] (S, I, L, Rf) (some (.int q.1), (S, q.2.1, q.2.2, Rf))
  replace hf := (f_Md_strikes.eq_1 _ _ _).symm.trans hf
  refine X_bipush (pc := 0) (10 : Int32) dX12_strikes_0 (by decide) ?_
  refine X_iload_n (pc := 2) (i := 1) 1 dX12_strikes_2 rfl rfl ?_
  refine X_imul (pc := 3) dX12_strikes_3 ?_
  obtain ⟨x1, ex1, hf⟩ := bnd_e hf
  refine X_tope ex1 ?_
  refine X_istore_n (pc := 4) (i := 2) [(2, .int x1), (0, .ref (xP G 34)), (1, .int a0)] dX12_strikes_4 rfl (by decide) rfl ?_
  refine X_aload_n (pc := 5) (i := 0) 1 dX12_strikes_5 rfl rfl ?_
  refine X_getr (pc := 6) (a := 34) (ci := 11) (j := 33) (c := 48) (sh_34 hT) (by decide) k_1261 (rf_34_33 hT) (fun _ h => h) dX12_strikes_6 ?_
  refine X_iload_n (pc := 9) (i := 2) 0 dX12_strikes_9 rfl rfl ?_
  obtain ⟨c2, hf⟩ := gd_some hf
  refine X_ialdj (pc := 10) (j := x1.toNatClampNeg) (I 48 (x1.toNatClampNeg)) (sh_48 hT) (vp_in_lit (N := 80) c2 (by decide)) rfl rfl dX12_strikes_10 ?_
  obtain ⟨x3, ex3, hf⟩ := bnd_e hf
  refine X_tope ex3 ?_
  refine X_istore_n (pc := 11) (i := 3) [(3, .int x3), (2, .int x1), (0, .ref (xP G 34)), (1, .int a0)] dX12_strikes_11 rfl (by decide) rfl ?_
  refine X_aload_n (pc := 12) (i := 0) 2 dX12_strikes_12 rfl rfl ?_
  refine X_getr (pc := 13) (a := 34) (ci := 11) (j := 19) (c := 44) (sh_34 hT) (by decide) k_1247 (rf_34_19 hT) (fun _ h => h) dX12_strikes_13 ?_
  refine X_iload_n (pc := 16) (i := 1) 3 dX12_strikes_16 rfl rfl ?_
  obtain ⟨c4, hf⟩ := gd_some hf
  refine X_ialdj (pc := 17) (j := a0.toNatClampNeg) (I 44 (a0.toNatClampNeg)) (sh_44 hT) (vp_in_lit (N := 8) c4 (by decide)) rfl rfl dX12_strikes_17 ?_
  refine X_iconst (pc := 18) (1 : Int32) dX12_strikes_18 (by decide) ?_
  by_cases c5 : (I 44 (a0.toNatClampNeg)) = (1 : Int32)
  · replace hf := (if_pos c5).symm.trans hf
    refine X_icmp_ne_f (pc := 19) 45 dX12_strikes_19 (by decide) c5 ?_
    refine X_aload_n (pc := 22) (i := 0) 2 dX12_strikes_22 rfl rfl ?_
    refine X_getr (pc := 23) (a := 34) (ci := 11) (j := 33) (c := 48) (sh_34 hT) (by decide) k_1261 (rf_34_33 hT) (fun _ h => h) dX12_strikes_23 ?_
    refine X_iload_n (pc := 26) (i := 2) 1 dX12_strikes_26 rfl rfl ?_
    refine X_iconst (pc := 27) (1 : Int32) dX12_strikes_27 (by decide) ?_
    refine X_iadd (pc := 28) dX12_strikes_28 ?_
    obtain ⟨c6, hf⟩ := gd_some hf
    refine X_ialdj (pc := 29) (j := (x1 + (1 : Int32)).toNatClampNeg) (I 48 ((x1 + (1 : Int32)).toNatClampNeg)) (sh_48 hT) (vp_in_lit (N := 80) c6 (by decide)) rfl rfl dX12_strikes_29 ?_
    obtain ⟨x7, ex7, hf⟩ := bnd_e hf
    refine X_tope ex7 ?_
    refine X_istore_n (pc := 30) (i := 3) [(3, .int x7), (2, .int x1), (0, .ref (xP G 34)), (1, .int a0)] dX12_strikes_30 rfl (by decide) rfl ?_
    refine X_aload_n (pc := 31) (i := 0) 2 dX12_strikes_31 rfl rfl ?_
    refine X_getr (pc := 32) (a := 34) (ci := 11) (j := 33) (c := 48) (sh_34 hT) (by decide) k_1261 (rf_34_33 hT) (fun _ h => h) dX12_strikes_32 ?_
    refine X_iload_n (pc := 35) (i := 2) 1 dX12_strikes_35 rfl rfl ?_
    refine X_iconst (pc := 36) (1 : Int32) dX12_strikes_36 (by decide) ?_
    refine X_iadd (pc := 37) dX12_strikes_37 ?_
    refine X_iload_n (pc := 38) (i := 3) 0 dX12_strikes_38 rfl rfl ?_
    refine X_bipush (pc := 39) (12 : Int32) dX12_strikes_39 (by decide) ?_
    refine X_irem (pc := 41) dX12_strikes_41 (by decide) ?_
    refine X_iconst (pc := 42) (1 : Int32) dX12_strikes_42 (by decide) ?_
    refine X_iadd (pc := 43) dX12_strikes_43 ?_
    obtain ⟨x8, ex8, hf⟩ := bnd_e hf
    refine X_tope ex8 ?_
    obtain ⟨c9, hf⟩ := gd_some hf
    refine X_iastj (pc := 44) (j := ((x1 + (1 : Int32)).toNatClampNeg)) (sh_48 hT) (vp_in_lit (N := 80) c9 (by decide)) rfl dX12_strikes_44 ?_
    exact X_lvs [2, 3, 0] rfl (x_Md_strikes_L45 hT hf)
  · replace hf := (if_neg c5).symm.trans hf
    refine X_icmp_ne_t (pc := 19) 45 dX12_strikes_19 (by decide) c5 ?_
    exact X_lvs [2, 3, 0] rfl (x_Md_strikes_L45 hT hf)
theorem u_Md_strikes {S : List xSh} {a0 : Int32} {I : Nat → Nat → Int32} {L : Nat → Nat → Int64} {q : (Int32 × (Nat → Nat → Int32) × (Nat → Nat → Int64))} (hf : f_Md_strikes a0 I L = some q) : FR S [48, 54, 4440] [] I q.2.1 L q.2.2 := by
  replace hf := (f_Md_strikes.eq_1 _ _ _).symm.trans hf
  obtain ⟨x1, ex1, hf⟩ := bnd_e hf
  obtain ⟨c2, hf⟩ := gd_some hf
  obtain ⟨x3, ex3, hf⟩ := bnd_e hf
  obtain ⟨c4, hf⟩ := gd_some hf
  by_cases c5 : (I 44 (a0.toNatClampNeg)) = (1 : Int32)
  · replace hf := (if_pos c5).symm.trans hf
    obtain ⟨c6, hf⟩ := gd_some hf
    obtain ⟨x7, ex7, hf⟩ := bnd_e hf
    obtain ⟨x8, ex8, hf⟩ := bnd_e hf
    obtain ⟨c9, hf⟩ := gd_some hf
    exact FR.tr (FR.ai FR.rf (by decide)) (u_Md_strikes_L45 hf) (by decide) (by decide)
  · replace hf := (if_neg c5).symm.trans hf
    exact FR.tr FR.rf (u_Md_strikes_L45 hf) (by decide) (by decide)
theorem dX12_tripped_0 : decode cX12_tripped 0 = .ok (.bipush 10, 2) := by decide +kernel
theorem dX12_tripped_2 : decode cX12_tripped 2 = .ok (.iload_n 1, 1) := by decide +kernel
theorem dX12_tripped_3 : decode cX12_tripped 3 = .ok (.imul, 1) := by decide +kernel
theorem dX12_tripped_4 : decode cX12_tripped 4 = .ok (.istore_n 2, 1) := by decide +kernel
theorem dX12_tripped_5 : decode cX12_tripped 5 = .ok (.aload_n 0, 1) := by decide +kernel
theorem dX12_tripped_6 : decode cX12_tripped 6 = .ok (.getfield 49, 3) := by decide +kernel
theorem dX12_tripped_9 : decode cX12_tripped 9 = .ok (.iload_n 2, 1) := by decide +kernel
theorem dX12_tripped_10 : decode cX12_tripped 10 = .ok (.bipush 6, 2) := by decide +kernel
theorem dX12_tripped_12 : decode cX12_tripped 12 = .ok (.iadd, 1) := by decide +kernel
theorem dX12_tripped_13 : decode cX12_tripped 13 = .ok (.dup2, 1) := by decide +kernel
theorem dX12_tripped_14 : decode cX12_tripped 14 = .ok (.iaload, 1) := by decide +kernel
theorem dX12_tripped_15 : decode cX12_tripped 15 = .ok (.iconst 1, 1) := by decide +kernel
theorem dX12_tripped_16 : decode cX12_tripped 16 = .ok (.iadd, 1) := by decide +kernel
theorem dX12_tripped_17 : decode cX12_tripped 17 = .ok (.iastore, 1) := by decide +kernel
theorem dX12_tripped_18 : decode cX12_tripped 18 = .ok (.aload_n 0, 1) := by decide +kernel
theorem dX12_tripped_19 : decode cX12_tripped 19 = .ok (.getfield 31, 3) := by decide +kernel
theorem dX12_tripped_22 : decode cX12_tripped 22 = .ok (.iload_n 1, 1) := by decide +kernel
theorem dX12_tripped_23 : decode cX12_tripped 23 = .ok (.iaload, 1) := by decide +kernel
theorem dX12_tripped_24 : decode cX12_tripped 24 = .ok (.ifCond .ne 27, 3) := by decide +kernel
theorem dX12_tripped_27 : decode cX12_tripped 27 = .ok (.aload_n 0, 1) := by decide +kernel
theorem dX12_tripped_28 : decode cX12_tripped 28 = .ok (.getfield 49, 3) := by decide +kernel
theorem dX12_tripped_31 : decode cX12_tripped 31 = .ok (.iload_n 2, 1) := by decide +kernel
theorem dX12_tripped_32 : decode cX12_tripped 32 = .ok (.aload_n 0, 1) := by decide +kernel
theorem dX12_tripped_33 : decode cX12_tripped 33 = .ok (.getfield 49, 3) := by decide +kernel
theorem dX12_tripped_36 : decode cX12_tripped 36 = .ok (.iload_n 2, 1) := by decide +kernel
theorem dX12_tripped_37 : decode cX12_tripped 37 = .ok (.iaload, 1) := by decide +kernel
theorem dX12_tripped_38 : decode cX12_tripped 38 = .ok (.iconst 1, 1) := by decide +kernel
theorem dX12_tripped_39 : decode cX12_tripped 39 = .ok (.iadd, 1) := by decide +kernel
theorem dX12_tripped_40 : decode cX12_tripped 40 = .ok (.aload_n 0, 1) := by decide +kernel
theorem dX12_tripped_41 : decode cX12_tripped 41 = .ok (.getfield 40, 3) := by decide +kernel
theorem dX12_tripped_44 : decode cX12_tripped 44 = .ok (.iload_n 1, 1) := by decide +kernel
theorem dX12_tripped_45 : decode cX12_tripped 45 = .ok (.iaload, 1) := by decide +kernel
theorem dX12_tripped_46 : decode cX12_tripped 46 = .ok (.irem, 1) := by decide +kernel
theorem dX12_tripped_47 : decode cX12_tripped 47 = .ok (.iastore, 1) := by decide +kernel
theorem dX12_tripped_48 : decode cX12_tripped 48 = .ok (.goto 55, 3) := by decide +kernel
theorem dX12_tripped_51 : decode cX12_tripped 51 = .ok (.aload_n 0, 1) := by decide +kernel
theorem dX12_tripped_52 : decode cX12_tripped 52 = .ok (.getfield 31, 3) := by decide +kernel
theorem dX12_tripped_55 : decode cX12_tripped 55 = .ok (.iload_n 1, 1) := by decide +kernel
theorem dX12_tripped_56 : decode cX12_tripped 56 = .ok (.iaload, 1) := by decide +kernel
theorem dX12_tripped_57 : decode cX12_tripped 57 = .ok (.iconst 1, 1) := by decide +kernel
theorem dX12_tripped_58 : decode cX12_tripped 58 = .ok (.if_icmp .ne 11, 3) := by decide +kernel
theorem dX12_tripped_61 : decode cX12_tripped 61 = .ok (.aload_n 0, 1) := by decide +kernel
theorem dX12_tripped_62 : decode cX12_tripped 62 = .ok (.iload_n 1, 1) := by decide +kernel
theorem dX12_tripped_63 : decode cX12_tripped 63 = .ok (.invokevirtual 365, 3) := by decide +kernel
theorem dX12_tripped_66 : decode cX12_tripped 66 = .ok (.goto 37, 3) := by decide +kernel
theorem dX12_tripped_69 : decode cX12_tripped 69 = .ok (.aload_n 0, 1) := by decide +kernel
theorem dX12_tripped_70 : decode cX12_tripped 70 = .ok (.getfield 49, 3) := by decide +kernel
theorem dX12_tripped_73 : decode cX12_tripped 73 = .ok (.iload_n 2, 1) := by decide +kernel
theorem dX12_tripped_74 : decode cX12_tripped 74 = .ok (.aload_n 0, 1) := by decide +kernel
theorem dX12_tripped_75 : decode cX12_tripped 75 = .ok (.getfield 49, 3) := by decide +kernel
theorem dX12_tripped_78 : decode cX12_tripped 78 = .ok (.iload_n 2, 1) := by decide +kernel
theorem dX12_tripped_79 : decode cX12_tripped 79 = .ok (.iaload, 1) := by decide +kernel
theorem dX12_tripped_80 : decode cX12_tripped 80 = .ok (.bipush 12, 2) := by decide +kernel
theorem dX12_tripped_82 : decode cX12_tripped 82 = .ok (.irem, 1) := by decide +kernel
theorem dX12_tripped_83 : decode cX12_tripped 83 = .ok (.iconst 1, 1) := by decide +kernel
theorem dX12_tripped_84 : decode cX12_tripped 84 = .ok (.iadd, 1) := by decide +kernel
theorem dX12_tripped_85 : decode cX12_tripped 85 = .ok (.iastore, 1) := by decide +kernel
theorem dX12_tripped_86 : decode cX12_tripped 86 = .ok (.aload_n 0, 1) := by decide +kernel
theorem dX12_tripped_87 : decode cX12_tripped 87 = .ok (.getfield 49, 3) := by decide +kernel
theorem dX12_tripped_90 : decode cX12_tripped 90 = .ok (.iload_n 2, 1) := by decide +kernel
theorem dX12_tripped_91 : decode cX12_tripped 91 = .ok (.iconst 2, 1) := by decide +kernel
theorem dX12_tripped_92 : decode cX12_tripped 92 = .ok (.iadd, 1) := by decide +kernel
theorem dX12_tripped_93 : decode cX12_tripped 93 = .ok (.iaload, 1) := by decide +kernel
theorem dX12_tripped_94 : decode cX12_tripped 94 = .ok (.ifCond .ne 9, 3) := by decide +kernel
theorem dX12_tripped_97 : decode cX12_tripped 97 = .ok (.aload_n 0, 1) := by decide +kernel
theorem dX12_tripped_98 : decode cX12_tripped 98 = .ok (.iload_n 1, 1) := by decide +kernel
theorem dX12_tripped_99 : decode cX12_tripped 99 = .ok (.invokevirtual 368, 3) := by decide +kernel
theorem dX12_tripped_102 : decode cX12_tripped 102 = .ok (.istore_n 3, 1) := by decide +kernel
theorem dX12_tripped_103 : decode cX12_tripped 103 = .ok (.return_, 1) := by decide +kernel
def f_Md_tripped (a0 : Int32) (I : Nat → Nat → Int32) (L : Nat → Nat → Int64) : Option ((Nat → Nat → Int32) × (Nat → Nat → Int64)) := (bnd ((10 : Int32) * a0) fun x1 => (if (0 ≤ (x1 + (6 : Int32)) ∧ (x1 + (6 : Int32)) < (80 : Int32)) then (bnd ((I 48 ((x1 + (6 : Int32)).toNatClampNeg)) + (1 : Int32)) fun x3 => (if (0 ≤ (x1 + (6 : Int32)) ∧ (x1 + (6 : Int32)) < (80 : Int32)) then (if (0 ≤ a0 ∧ a0 < (8 : Int32)) then (if (I 42 (a0.toNatClampNeg)) = (0 : Int32) then (if (0 ≤ x1 ∧ x1 < (80 : Int32)) then (bnd ((uI I 48 ((x1 + (6 : Int32)).toNatClampNeg) x3) 48 (x1.toNatClampNeg)) fun x8 => (if (0 ≤ a0 ∧ a0 < (8 : Int32)) then (if ¬ (I 45 (a0.toNatClampNeg)) = (0 : Int32) then (bnd (irem (x8 + (1 : Int32)) (I 45 (a0.toNatClampNeg))) fun x11 => (if (0 ≤ x1 ∧ x1 < (80 : Int32)) then (some ((uI (uI I 48 ((x1 + (6 : Int32)).toNatClampNeg) x3) 48 (x1.toNatClampNeg) x11), L)) else none)) else none) else none)) else none) else (if (0 ≤ a0 ∧ a0 < (8 : Int32)) then (if (I 42 (a0.toNatClampNeg)) = (1 : Int32) then ((f_Md_nextDay a0 (uI I 48 ((x1 + (6 : Int32)).toNatClampNeg) x3) L).bind fun q15 => (some (q15.1, q15.2))) else (if (0 ≤ x1 ∧ x1 < (80 : Int32)) then (bnd ((uI I 48 ((x1 + (6 : Int32)).toNatClampNeg) x3) 48 (x1.toNatClampNeg)) fun x18 => (bnd ((irem x18 (12 : Int32)) + (1 : Int32)) fun x19 => (if (0 ≤ x1 ∧ x1 < (80 : Int32)) then (if (0 ≤ (x1 + (2 : Int32)) ∧ (x1 + (2 : Int32)) < (80 : Int32)) then (bnd ((uI (uI I 48 ((x1 + (6 : Int32)).toNatClampNeg) x3) 48 (x1.toNatClampNeg) x19) 48 ((x1 + (2 : Int32)).toNatClampNeg)) fun x22 => (if x22 = (0 : Int32) then ((f_Md_strikes a0 (uI (uI I 48 ((x1 + (6 : Int32)).toNatClampNeg) x3) 48 (x1.toNatClampNeg) x19) L).bind fun q24 => (some (q24.2.1, q24.2.2))) else (some ((uI (uI I 48 ((x1 + (6 : Int32)).toNatClampNeg) x3) 48 (x1.toNatClampNeg) x19), L)))) else none) else none))) else none)) else none)) else none) else none)) else none))
set_option maxRecDepth 100000 in
set_option maxHeartbeats 4000000 in
theorem c_Md_tripped {G : xG} {S : List xSh} {Rf : Nat → Nat → Option Nat} (hT : xTM S Rf) {a0 : Int32} {I : Nat → Nat → Int32} {L : Nat → Nat → Int64} {q : ((Nat → Nat → Int32) × (Nat → Nat → Int64))} (hf : f_Md_tripped a0 I L = some q) : CT G 5 m_Md_tripped [.ref (xP G 34), .int a0] (S, I, L, Rf) (none, (S, q.1, q.2, Rf)) := by
  refine CT.of (by decide +kernel) (Nat.le_of_ble_eq_true rfl) ?_
  show X G 5 m_Md_tripped 0 [(0, .ref (xP G 34)), (1, .int a0)] [] (S, I, L, Rf) (none, (S, q.1, q.2, Rf))
  replace hf := (f_Md_tripped.eq_1 _ _ _).symm.trans hf
  refine X_bipush (pc := 0) (10 : Int32) dX12_tripped_0 (by decide) ?_
  refine X_iload_n (pc := 2) (i := 1) 1 dX12_tripped_2 rfl rfl ?_
  refine X_imul (pc := 3) dX12_tripped_3 ?_
  obtain ⟨x1, ex1, hf⟩ := bnd_e hf
  refine X_tope ex1 ?_
  refine X_istore_n (pc := 4) (i := 2) [(2, .int x1), (0, .ref (xP G 34)), (1, .int a0)] dX12_tripped_4 rfl (by decide) rfl ?_
  refine X_aload_n (pc := 5) (i := 0) 1 dX12_tripped_5 rfl rfl ?_
  refine X_getr (pc := 6) (a := 34) (ci := 11) (j := 33) (c := 48) (sh_34 hT) (by decide) k_1261 (rf_34_33 hT) (fun _ h => h) dX12_tripped_6 ?_
  refine X_iload_n (pc := 9) (i := 2) 0 dX12_tripped_9 rfl rfl ?_
  refine X_bipush (pc := 10) (6 : Int32) dX12_tripped_10 (by decide) ?_
  refine X_iadd (pc := 12) dX12_tripped_12 ?_
  refine X_dup2 (pc := 13) dX12_tripped_13 rfl rfl ?_
  obtain ⟨c2, hf⟩ := gd_some hf
  refine X_ialdj (pc := 14) (j := (x1 + (6 : Int32)).toNatClampNeg) (I 48 ((x1 + (6 : Int32)).toNatClampNeg)) (sh_48 hT) (vp_in_lit (N := 80) c2 (by decide)) rfl rfl dX12_tripped_14 ?_
  refine X_iconst (pc := 15) (1 : Int32) dX12_tripped_15 (by decide) ?_
  refine X_iadd (pc := 16) dX12_tripped_16 ?_
  obtain ⟨x3, ex3, hf⟩ := bnd_e hf
  refine X_tope ex3 ?_
  obtain ⟨c4, hf⟩ := gd_some hf
  refine X_iastj (pc := 17) (j := ((x1 + (6 : Int32)).toNatClampNeg)) (sh_48 hT) (vp_in_lit (N := 80) c4 (by decide)) rfl dX12_tripped_17 ?_
  refine X_aload_n (pc := 18) (i := 0) 1 dX12_tripped_18 rfl rfl ?_
  refine X_getr (pc := 19) (a := 34) (ci := 11) (j := 17) (c := 42) (sh_34 hT) (by decide) k_1245 (rf_34_17 hT) (fun _ h => h) dX12_tripped_19 ?_
  refine X_iload_n (pc := 22) (i := 1) 2 dX12_tripped_22 rfl rfl ?_
  obtain ⟨c5, hf⟩ := gd_some hf
  refine X_ialdj (pc := 23) (j := a0.toNatClampNeg) (I 42 (a0.toNatClampNeg)) (sh_42 hT) (vp_in_lit (N := 8) c5 (by decide)) rfl rfl dX12_tripped_23 ?_
  by_cases c6 : (I 42 (a0.toNatClampNeg)) = (0 : Int32)
  · replace hf := (if_pos c6).symm.trans hf
    refine X_if_ne_f (pc := 24) 51 dX12_tripped_24 (by decide) c6 ?_
    refine X_aload_n (pc := 27) (i := 0) 1 dX12_tripped_27 rfl rfl ?_
    refine X_getr (pc := 28) (a := 34) (ci := 11) (j := 33) (c := 48) (sh_34 hT) (by decide) k_1261 (rf_34_33 hT) (fun _ h => h) dX12_tripped_28 ?_
    refine X_iload_n (pc := 31) (i := 2) 0 dX12_tripped_31 rfl rfl ?_
    refine X_aload_n (pc := 32) (i := 0) 1 dX12_tripped_32 rfl rfl ?_
    refine X_getr (pc := 33) (a := 34) (ci := 11) (j := 33) (c := 48) (sh_34 hT) (by decide) k_1261 (rf_34_33 hT) (fun _ h => h) dX12_tripped_33 ?_
    refine X_iload_n (pc := 36) (i := 2) 0 dX12_tripped_36 rfl rfl ?_
    obtain ⟨c7, hf⟩ := gd_some hf
    refine X_ialdj (pc := 37) (j := x1.toNatClampNeg) ((uI I 48 ((x1 + (6 : Int32)).toNatClampNeg) x3) 48 (x1.toNatClampNeg)) (sh_48 hT) (vp_in_lit (N := 80) c7 (by decide)) rfl rfl dX12_tripped_37 ?_
    obtain ⟨x8, ex8, hf⟩ := bnd_e hf
    refine X_tope ex8 ?_
    refine X_iconst (pc := 38) (1 : Int32) dX12_tripped_38 (by decide) ?_
    refine X_iadd (pc := 39) dX12_tripped_39 ?_
    refine X_aload_n (pc := 40) (i := 0) 1 dX12_tripped_40 rfl rfl ?_
    refine X_getr (pc := 41) (a := 34) (ci := 11) (j := 20) (c := 45) (sh_34 hT) (by decide) k_1248 (rf_34_20 hT) (fun _ h => h) dX12_tripped_41 ?_
    refine X_iload_n (pc := 44) (i := 1) 2 dX12_tripped_44 rfl rfl ?_
    obtain ⟨c9, hf⟩ := gd_some hf
    refine X_ialdj (pc := 45) (j := a0.toNatClampNeg) (I 45 (a0.toNatClampNeg)) (sh_45 hT) (vp_in_lit (N := 8) c9 (by decide)) rfl rfl dX12_tripped_45 ?_
    obtain ⟨c10, hf⟩ := gd_some hf
    refine X_irem (pc := 46) dX12_tripped_46 c10 ?_
    obtain ⟨x11, ex11, hf⟩ := bnd_e hf
    refine X_tope ex11 ?_
    obtain ⟨c12, hf⟩ := gd_some hf
    refine X_iastj (pc := 47) (j := (x1.toNatClampNeg)) (sh_48 hT) (vp_in_lit (N := 80) c12 (by decide)) rfl dX12_tripped_47 ?_
    refine X_goto (pc := 48) 103 dX12_tripped_48 (by decide) ?_
    cases hf
    exact X_return (pc := 103) rfl dX12_tripped_103
  · replace hf := (if_neg c6).symm.trans hf
    refine X_if_ne_t (pc := 24) 51 dX12_tripped_24 (by decide) c6 ?_
    refine X_aload_n (pc := 51) (i := 0) 1 dX12_tripped_51 rfl rfl ?_
    refine X_getr (pc := 52) (a := 34) (ci := 11) (j := 17) (c := 42) (sh_34 hT) (by decide) k_1245 (rf_34_17 hT) (fun _ h => h) dX12_tripped_52 ?_
    refine X_iload_n (pc := 55) (i := 1) 2 dX12_tripped_55 rfl rfl ?_
    obtain ⟨c13, hf⟩ := gd_some hf
    refine X_ialdj (pc := 56) (j := a0.toNatClampNeg) (I 42 (a0.toNatClampNeg)) (sh_42 hT) (vp_in_lit (N := 8) c13 (by decide)) rfl rfl dX12_tripped_56 ?_
    refine X_iconst (pc := 57) (1 : Int32) dX12_tripped_57 (by decide) ?_
    by_cases c14 : (I 42 (a0.toNatClampNeg)) = (1 : Int32)
    · replace hf := (if_pos c14).symm.trans hf
      refine X_icmp_ne_f (pc := 58) 69 dX12_tripped_58 (by decide) c14 ?_
      refine X_aload_n (pc := 61) (i := 0) 1 dX12_tripped_61 rfl rfl ?_
      refine X_iload_n (pc := 62) (i := 1) 2 dX12_tripped_62 rfl rfl ?_
      obtain ⟨q15, c16, hf⟩ := bd_some hf
      refine X_invV_v (pc := 63) (c_Md_nextDay hT c16) ok_Md_nextDay (ci := 11) (sh_34 hT) k_1628 k_1630 k_61 nd_13 (by decide) rfl (Nat.le_of_ble_eq_true rfl) dX12_tripped_63 ?_
      refine X_goto (pc := 66) 103 dX12_tripped_66 (by decide) ?_
      cases hf
      exact X_return (pc := 103) rfl dX12_tripped_103
    · replace hf := (if_neg c14).symm.trans hf
      refine X_icmp_ne_t (pc := 58) 69 dX12_tripped_58 (by decide) c14 ?_
      refine X_aload_n (pc := 69) (i := 0) 1 dX12_tripped_69 rfl rfl ?_
      refine X_getr (pc := 70) (a := 34) (ci := 11) (j := 33) (c := 48) (sh_34 hT) (by decide) k_1261 (rf_34_33 hT) (fun _ h => h) dX12_tripped_70 ?_
      refine X_iload_n (pc := 73) (i := 2) 0 dX12_tripped_73 rfl rfl ?_
      refine X_aload_n (pc := 74) (i := 0) 1 dX12_tripped_74 rfl rfl ?_
      refine X_getr (pc := 75) (a := 34) (ci := 11) (j := 33) (c := 48) (sh_34 hT) (by decide) k_1261 (rf_34_33 hT) (fun _ h => h) dX12_tripped_75 ?_
      refine X_iload_n (pc := 78) (i := 2) 0 dX12_tripped_78 rfl rfl ?_
      obtain ⟨c17, hf⟩ := gd_some hf
      refine X_ialdj (pc := 79) (j := x1.toNatClampNeg) ((uI I 48 ((x1 + (6 : Int32)).toNatClampNeg) x3) 48 (x1.toNatClampNeg)) (sh_48 hT) (vp_in_lit (N := 80) c17 (by decide)) rfl rfl dX12_tripped_79 ?_
      obtain ⟨x18, ex18, hf⟩ := bnd_e hf
      refine X_tope ex18 ?_
      refine X_bipush (pc := 80) (12 : Int32) dX12_tripped_80 (by decide) ?_
      refine X_irem (pc := 82) dX12_tripped_82 (by decide) ?_
      refine X_iconst (pc := 83) (1 : Int32) dX12_tripped_83 (by decide) ?_
      refine X_iadd (pc := 84) dX12_tripped_84 ?_
      obtain ⟨x19, ex19, hf⟩ := bnd_e hf
      refine X_tope ex19 ?_
      obtain ⟨c20, hf⟩ := gd_some hf
      refine X_iastj (pc := 85) (j := (x1.toNatClampNeg)) (sh_48 hT) (vp_in_lit (N := 80) c20 (by decide)) rfl dX12_tripped_85 ?_
      refine X_aload_n (pc := 86) (i := 0) 1 dX12_tripped_86 rfl rfl ?_
      refine X_getr (pc := 87) (a := 34) (ci := 11) (j := 33) (c := 48) (sh_34 hT) (by decide) k_1261 (rf_34_33 hT) (fun _ h => h) dX12_tripped_87 ?_
      refine X_iload_n (pc := 90) (i := 2) 0 dX12_tripped_90 rfl rfl ?_
      refine X_iconst (pc := 91) (2 : Int32) dX12_tripped_91 (by decide) ?_
      refine X_iadd (pc := 92) dX12_tripped_92 ?_
      obtain ⟨c21, hf⟩ := gd_some hf
      refine X_ialdj (pc := 93) (j := (x1 + (2 : Int32)).toNatClampNeg) ((uI (uI I 48 ((x1 + (6 : Int32)).toNatClampNeg) x3) 48 (x1.toNatClampNeg) x19) 48 ((x1 + (2 : Int32)).toNatClampNeg)) (sh_48 hT) (vp_in_lit (N := 80) c21 (by decide)) rfl rfl dX12_tripped_93 ?_
      obtain ⟨x22, ex22, hf⟩ := bnd_e hf
      refine X_tope ex22 ?_
      by_cases c23 : x22 = (0 : Int32)
      · replace hf := (if_pos c23).symm.trans hf
        refine X_if_ne_f (pc := 94) 103 dX12_tripped_94 (by decide) c23 ?_
        refine X_aload_n (pc := 97) (i := 0) 1 dX12_tripped_97 rfl rfl ?_
        refine X_iload_n (pc := 98) (i := 1) 2 dX12_tripped_98 rfl rfl ?_
        obtain ⟨q24, c25, hf⟩ := bd_some hf
        refine X_invV_i (pc := 99) (c_Md_strikes hT c25) ok_Md_strikes (ci := 11) (sh_34 hT) k_1635 k_1637 k_62 nd_8 (by decide) rfl (Nat.le_of_ble_eq_true rfl) dX12_tripped_99 ?_
        refine X_istore_n (pc := 102) (i := 3) [(3, .int q24.1), (2, .int x1), (0, .ref (xP G 34)), (1, .int a0)] dX12_tripped_102 rfl (by decide) rfl ?_
        cases hf
        exact X_return (pc := 103) rfl dX12_tripped_103
      · replace hf := (if_neg c23).symm.trans hf
        refine X_if_ne_t (pc := 94) 103 dX12_tripped_94 (by decide) c23 ?_
        cases hf
        exact X_return (pc := 103) rfl dX12_tripped_103
theorem u_Md_tripped {S : List xSh} {a0 : Int32} {I : Nat → Nat → Int32} {L : Nat → Nat → Int64} {q : ((Nat → Nat → Int32) × (Nat → Nat → Int64))} (hf : f_Md_tripped a0 I L = some q) : FR S [48, 54, 56, 4440, 4445, 4446, 4447] [] I q.1 L q.2 := by
  replace hf := (f_Md_tripped.eq_1 _ _ _).symm.trans hf
  obtain ⟨x1, ex1, hf⟩ := bnd_e hf
  obtain ⟨c2, hf⟩ := gd_some hf
  obtain ⟨x3, ex3, hf⟩ := bnd_e hf
  obtain ⟨c4, hf⟩ := gd_some hf
  obtain ⟨c5, hf⟩ := gd_some hf
  by_cases c6 : (I 42 (a0.toNatClampNeg)) = (0 : Int32)
  · replace hf := (if_pos c6).symm.trans hf
    obtain ⟨c7, hf⟩ := gd_some hf
    obtain ⟨x8, ex8, hf⟩ := bnd_e hf
    obtain ⟨c9, hf⟩ := gd_some hf
    obtain ⟨c10, hf⟩ := gd_some hf
    obtain ⟨x11, ex11, hf⟩ := bnd_e hf
    obtain ⟨c12, hf⟩ := gd_some hf
    cases hf
    exact (FR.ai (FR.ai FR.rf (by decide)) (by decide))
  · replace hf := (if_neg c6).symm.trans hf
    obtain ⟨c13, hf⟩ := gd_some hf
    by_cases c14 : (I 42 (a0.toNatClampNeg)) = (1 : Int32)
    · replace hf := (if_pos c14).symm.trans hf
      obtain ⟨q15, c16, hf⟩ := bd_some hf
      cases hf
      exact (FR.tr (FR.ai FR.rf (by decide)) (u_Md_nextDay (q := q15) c16) (by decide) (by decide))
    · replace hf := (if_neg c14).symm.trans hf
      obtain ⟨c17, hf⟩ := gd_some hf
      obtain ⟨x18, ex18, hf⟩ := bnd_e hf
      obtain ⟨x19, ex19, hf⟩ := bnd_e hf
      obtain ⟨c20, hf⟩ := gd_some hf
      obtain ⟨c21, hf⟩ := gd_some hf
      obtain ⟨x22, ex22, hf⟩ := bnd_e hf
      by_cases c23 : x22 = (0 : Int32)
      · replace hf := (if_pos c23).symm.trans hf
        obtain ⟨q24, c25, hf⟩ := bd_some hf
        cases hf
        exact (FR.tr (FR.ai (FR.ai FR.rf (by decide)) (by decide)) (u_Md_strikes (q := q24) c25) (by decide) (by decide))
      · replace hf := (if_neg c23).symm.trans hf
        cases hf
        exact (FR.ai (FR.ai FR.rf (by decide)) (by decide))
theorem dX12_ticked_0 : decode cX12_ticked 0 = .ok (.iconst 0, 1) := by decide +kernel
theorem dX12_ticked_1 : decode cX12_ticked 1 = .ok (.istore_n 1, 1) := by decide +kernel
theorem dX12_ticked_2 : decode cX12_ticked 2 = .ok (.iload_n 1, 1) := by decide +kernel
theorem dX12_ticked_3 : decode cX12_ticked 3 = .ok (.aload_n 0, 1) := by decide +kernel
theorem dX12_ticked_4 : decode cX12_ticked 4 = .ok (.getfield 175, 3) := by decide +kernel
theorem dX12_ticked_7 : decode cX12_ticked 7 = .ok (.if_icmp .ge 33, 3) := by decide +kernel
theorem dX12_ticked_10 : decode cX12_ticked 10 = .ok (.aload_n 0, 1) := by decide +kernel
theorem dX12_ticked_11 : decode cX12_ticked 11 = .ok (.getfield 55, 3) := by decide +kernel
theorem dX12_ticked_14 : decode cX12_ticked 14 = .ok (.iload_n 1, 1) := by decide +kernel
theorem dX12_ticked_15 : decode cX12_ticked 15 = .ok (.dup2, 1) := by decide +kernel
theorem dX12_ticked_16 : decode cX12_ticked 16 = .ok (.iaload, 1) := by decide +kernel
theorem dX12_ticked_17 : decode cX12_ticked 17 = .ok (.aload_n 0, 1) := by decide +kernel
theorem dX12_ticked_18 : decode cX12_ticked 18 = .ok (.getfield 52, 3) := by decide +kernel
theorem dX12_ticked_21 : decode cX12_ticked 21 = .ok (.iload_n 1, 1) := by decide +kernel
theorem dX12_ticked_22 : decode cX12_ticked 22 = .ok (.iaload, 1) := by decide +kernel
theorem dX12_ticked_23 : decode cX12_ticked 23 = .ok (.iconst 1, 1) := by decide +kernel
theorem dX12_ticked_24 : decode cX12_ticked 24 = .ok (.if_icmp .ne 7, 3) := by decide +kernel
theorem dX12_ticked_27 : decode cX12_ticked 27 = .ok (.iconst 1, 1) := by decide +kernel
theorem dX12_ticked_28 : decode cX12_ticked 28 = .ok (.goto 4, 3) := by decide +kernel
theorem dX12_ticked_31 : decode cX12_ticked 31 = .ok (.iconst 0, 1) := by decide +kernel
theorem dX12_ticked_32 : decode cX12_ticked 32 = .ok (.iadd, 1) := by decide +kernel
theorem dX12_ticked_33 : decode cX12_ticked 33 = .ok (.iastore, 1) := by decide +kernel
theorem dX12_ticked_34 : decode cX12_ticked 34 = .ok (.iinc 1 1, 3) := by decide +kernel
theorem dX12_ticked_37 : decode cX12_ticked 37 = .ok (.goto (-35), 3) := by decide +kernel
theorem dX12_ticked_40 : decode cX12_ticked 40 = .ok (.iconst 0, 1) := by decide +kernel
theorem dX12_ticked_41 : decode cX12_ticked 41 = .ok (.istore_n 1, 1) := by decide +kernel
theorem dX12_ticked_42 : decode cX12_ticked 42 = .ok (.iload_n 1, 1) := by decide +kernel
theorem dX12_ticked_43 : decode cX12_ticked 43 = .ok (.aload_n 0, 1) := by decide +kernel
theorem dX12_ticked_44 : decode cX12_ticked 44 = .ok (.getfield 172, 3) := by decide +kernel
theorem dX12_ticked_47 : decode cX12_ticked 47 = .ok (.if_icmp .ge 55, 3) := by decide +kernel
theorem dX12_ticked_50 : decode cX12_ticked 50 = .ok (.aload_n 0, 1) := by decide +kernel
theorem dX12_ticked_51 : decode cX12_ticked 51 = .ok (.getfield 34, 3) := by decide +kernel
theorem dX12_ticked_54 : decode cX12_ticked 54 = .ok (.iload_n 1, 1) := by decide +kernel
theorem dX12_ticked_55 : decode cX12_ticked 55 = .ok (.iaload, 1) := by decide +kernel
theorem dX12_ticked_56 : decode cX12_ticked 56 = .ok (.istore_n 2, 1) := by decide +kernel
theorem dX12_ticked_57 : decode cX12_ticked 57 = .ok (.aload_n 0, 1) := by decide +kernel
theorem dX12_ticked_58 : decode cX12_ticked 58 = .ok (.iload_n 2, 1) := by decide +kernel
theorem dX12_ticked_59 : decode cX12_ticked 59 = .ok (.invokevirtual 316, 3) := by decide +kernel
theorem dX12_ticked_62 : decode cX12_ticked 62 = .ok (.ifCond .eq 34, 3) := by decide +kernel
theorem dX12_ticked_65 : decode cX12_ticked 65 = .ok (.aload_n 0, 1) := by decide +kernel
theorem dX12_ticked_66 : decode cX12_ticked 66 = .ok (.iload_n 2, 1) := by decide +kernel
theorem dX12_ticked_67 : decode cX12_ticked 67 = .ok (.aload_n 0, 1) := by decide +kernel
theorem dX12_ticked_68 : decode cX12_ticked 68 = .ok (.getfield 185, 3) := by decide +kernel
theorem dX12_ticked_71 : decode cX12_ticked 71 = .ok (.i2l, 1) := by decide +kernel
theorem dX12_ticked_72 : decode cX12_ticked 72 = .ok (.invokevirtual 358, 3) := by decide +kernel
theorem dX12_ticked_75 : decode cX12_ticked 75 = .ok (.aload_n 0, 1) := by decide +kernel
theorem dX12_ticked_76 : decode cX12_ticked 76 = .ok (.iload_n 2, 1) := by decide +kernel
theorem dX12_ticked_77 : decode cX12_ticked 77 = .ok (.aload_n 0, 1) := by decide +kernel
theorem dX12_ticked_78 : decode cX12_ticked 78 = .ok (.getfield 185, 3) := by decide +kernel
theorem dX12_ticked_81 : decode cX12_ticked 81 = .ok (.iconst 1, 1) := by decide +kernel
theorem dX12_ticked_82 : decode cX12_ticked 82 = .ok (.isub, 1) := by decide +kernel
theorem dX12_ticked_83 : decode cX12_ticked 83 = .ok (.i2l, 1) := by decide +kernel
theorem dX12_ticked_84 : decode cX12_ticked 84 = .ok (.invokevirtual 358, 3) := by decide +kernel
theorem dX12_ticked_87 : decode cX12_ticked 87 = .ok (.lcmp, 1) := by decide +kernel
theorem dX12_ticked_88 : decode cX12_ticked 88 = .ok (.ifCond .le 8, 3) := by decide +kernel
theorem dX12_ticked_91 : decode cX12_ticked 91 = .ok (.aload_n 0, 1) := by decide +kernel
theorem dX12_ticked_92 : decode cX12_ticked 92 = .ok (.iload_n 1, 1) := by decide +kernel
theorem dX12_ticked_93 : decode cX12_ticked 93 = .ok (.invokevirtual 362, 3) := by decide +kernel
theorem dX12_ticked_96 : decode cX12_ticked 96 = .ok (.iinc 1 1, 3) := by decide +kernel
theorem dX12_ticked_99 : decode cX12_ticked 99 = .ok (.goto (-57), 3) := by decide +kernel
theorem dX12_ticked_102 : decode cX12_ticked 102 = .ok (.return_, 1) := by decide +kernel
def f_Md_ticked_L42 : Nat → Int32 → (Nat → Nat → Int32) → (Nat → Nat → Int64) → Option ((Nat → Nat → Int32) × (Nat → Nat → Int64))
  | 0, _, _, _ => none
  | n + 1, l1, I, L => (if (I 34 16) ≤ l1 then (some (I, L)) else (if (0 ≤ l1 ∧ l1 < (8 : Int32)) then (bnd (I 43 (l1.toNatClampNeg)) fun x4 => ((f_Md_isKnown x4 I L).bind fun q5 => (if q5 = (0 : Int32) then (f_Md_ticked_L42 n (l1 + (1 : Int32)) I L) else ((f_Md_turnsAt x4 (Int32.toInt64 (I 34 25)) I L).bind fun q8 => ((f_Md_turnsAt x4 (Int32.toInt64 ((I 34 25) - (1 : Int32))) I L).bind fun q10 => (if q8 ≤ q10 then (f_Md_ticked_L42 n (l1 + (1 : Int32)) I L) else ((f_Md_tripped l1 I L).bind fun q13 => (f_Md_ticked_L42 n (l1 + (1 : Int32)) q13.1 q13.2)))))))) else none))
set_option maxRecDepth 100000 in
set_option maxHeartbeats 4000000 in
theorem x_Md_ticked_L42 {G : xG} {S : List xSh} {Rf : Nat → Nat → Option Nat} (hT : xTM S Rf) : ∀ (n : Nat) {l1 : Int32} {I : Nat → Nat → Int32} {L : Nat → Nat → Int64} {q : ((Nat → Nat → Int32) × (Nat → Nat → Int64))}, f_Md_ticked_L42 n l1 I L = some q → X G 6 m_Md_ticked 42 [(0, .ref (xP G 34)), (1, .int l1)] [] (S, I, L, Rf) (none, (S, q.1, q.2, Rf)) := by
  intro n
  induction n with
  | zero =>
    intro l1 I L q hf
    exact absurd (show none = some q from hf) (by simp)
  | succ n ih =>
    intro l1 I L q hf
    replace hf := (f_Md_ticked_L42.eq_2 _ _ _ _).symm.trans hf
    refine X_iload_n (pc := 42) (i := 1) 1 dX12_ticked_42 rfl rfl ?_
    refine X_aload_n (pc := 43) (i := 0) 0 dX12_ticked_43 rfl rfl ?_
    refine X_get (pc := 44) (a := 34) (ci := 11) (j := 16) (.int (I 34 16)) (sh_34 hT) (by decide) k_1244 rfl dX12_ticked_44 ?_
    by_cases c2 : (I 34 16) ≤ l1
    · replace hf := (if_pos c2).symm.trans hf
      refine X_icmp_ge_t (pc := 47) 102 dX12_ticked_47 (by decide) c2 ?_
      cases hf
      exact X_return (pc := 102) rfl dX12_ticked_102
    · replace hf := (if_neg c2).symm.trans hf
      refine X_icmp_ge_f (pc := 47) 102 dX12_ticked_47 (by decide) c2 ?_
      refine X_aload_n (pc := 50) (i := 0) 0 dX12_ticked_50 rfl rfl ?_
      refine X_getr (pc := 51) (a := 34) (ci := 11) (j := 18) (c := 43) (sh_34 hT) (by decide) k_1246 (rf_34_18 hT) (fun _ h => h) dX12_ticked_51 ?_
      refine X_iload_n (pc := 54) (i := 1) 1 dX12_ticked_54 rfl rfl ?_
      obtain ⟨c3, hf⟩ := gd_some hf
      refine X_ialdj (pc := 55) (j := l1.toNatClampNeg) (I 43 (l1.toNatClampNeg)) (sh_43 hT) (vp_in_lit (N := 8) c3 (by decide)) rfl rfl dX12_ticked_55 ?_
      obtain ⟨x4, ex4, hf⟩ := bnd_e hf
      refine X_tope ex4 ?_
      refine X_istore_n (pc := 56) (i := 2) [(2, .int x4), (0, .ref (xP G 34)), (1, .int l1)] dX12_ticked_56 rfl (by decide) rfl ?_
      refine X_aload_n (pc := 57) (i := 0) 1 dX12_ticked_57 rfl rfl ?_
      refine X_iload_n (pc := 58) (i := 2) 0 dX12_ticked_58 rfl rfl ?_
      obtain ⟨q5, c6, hf⟩ := bd_some hf
      refine X_invV_i (pc := 59) (c_Md_isKnown hT c6) ok_Md_isKnown (ci := 11) (sh_34 hT) k_1605 k_1607 k_56 nd_5 (by decide) rfl (Nat.le_of_ble_eq_true rfl) dX12_ticked_59 ?_
      by_cases c7 : q5 = (0 : Int32)
      · replace hf := (if_pos c7).symm.trans hf
        refine X_if_eq_t (pc := 62) 96 dX12_ticked_62 (by decide) c7 ?_
        refine X_iinc (pc := 96) (i := 1) (q := 2) (v := (l1 + (1 : Int32))) [(1, .int (l1 + (1 : Int32))), (2, .int x4), (0, .ref (xP G 34))] dX12_ticked_96 rfl rfl (by decide) rfl ?_
        refine X_goto (pc := 99) 42 dX12_ticked_99 (by decide) ?_
        exact X_lvs [2, 0] rfl (ih hf)
      · replace hf := (if_neg c7).symm.trans hf
        refine X_if_eq_f (pc := 62) 96 dX12_ticked_62 (by decide) c7 ?_
        refine X_aload_n (pc := 65) (i := 0) 1 dX12_ticked_65 rfl rfl ?_
        refine X_iload_n (pc := 66) (i := 2) 0 dX12_ticked_66 rfl rfl ?_
        refine X_aload_n (pc := 67) (i := 0) 1 dX12_ticked_67 rfl rfl ?_
        refine X_get (pc := 68) (a := 34) (ci := 11) (j := 25) (.int (I 34 25)) (sh_34 hT) (by decide) k_1253 rfl dX12_ticked_68 ?_
        refine X_i2l (pc := 71) dX12_ticked_71 ?_
        obtain ⟨q8, c9, hf⟩ := bd_some hf
        refine X_invV_l (pc := 72) (c_Md_turnsAt hT c9) ok_Md_turnsAt (ci := 11) (sh_34 hT) k_1620 k_1622 k_59 nd_37 (by decide) rfl (Nat.le_of_ble_eq_true rfl) dX12_ticked_72 ?_
        refine X_aload_n (pc := 75) (i := 0) 1 dX12_ticked_75 rfl rfl ?_
        refine X_iload_n (pc := 76) (i := 2) 0 dX12_ticked_76 rfl rfl ?_
        refine X_aload_n (pc := 77) (i := 0) 1 dX12_ticked_77 rfl rfl ?_
        refine X_get (pc := 78) (a := 34) (ci := 11) (j := 25) (.int (I 34 25)) (sh_34 hT) (by decide) k_1253 rfl dX12_ticked_78 ?_
        refine X_iconst (pc := 81) (1 : Int32) dX12_ticked_81 (by decide) ?_
        refine X_isub (pc := 82) dX12_ticked_82 ?_
        refine X_i2l (pc := 83) dX12_ticked_83 ?_
        obtain ⟨q10, c11, hf⟩ := bd_some hf
        refine X_invV_l (pc := 84) (c_Md_turnsAt hT c11) ok_Md_turnsAt (ci := 11) (sh_34 hT) k_1620 k_1622 k_59 nd_37 (by decide) rfl (Nat.le_of_ble_eq_true rfl) dX12_ticked_84 ?_
        refine X_lcmp (pc := 87) dX12_ticked_87 ?_
        by_cases c12 : q8 ≤ q10
        · replace hf := (if_pos c12).symm.trans hf
          refine X_if_le_t (pc := 88) 96 dX12_ticked_88 (by decide) ((lg_cmp_le _ _).mpr c12) ?_
          refine X_iinc (pc := 96) (i := 1) (q := 2) (v := (l1 + (1 : Int32))) [(1, .int (l1 + (1 : Int32))), (2, .int x4), (0, .ref (xP G 34))] dX12_ticked_96 rfl rfl (by decide) rfl ?_
          refine X_goto (pc := 99) 42 dX12_ticked_99 (by decide) ?_
          exact X_lvs [2, 0] rfl (ih hf)
        · replace hf := (if_neg c12).symm.trans hf
          refine X_if_le_f (pc := 88) 96 dX12_ticked_88 (by decide) (fun h => c12 ((lg_cmp_le _ _).mp h)) ?_
          refine X_aload_n (pc := 91) (i := 0) 1 dX12_ticked_91 rfl rfl ?_
          refine X_iload_n (pc := 92) (i := 1) 2 dX12_ticked_92 rfl rfl ?_
          obtain ⟨q13, c14, hf⟩ := bd_some hf
          refine X_invV_v (pc := 93) (c_Md_tripped hT c14) ok_Md_tripped (ci := 11) (sh_34 hT) k_1624 k_1626 k_60 nd_13 (by decide) rfl (Nat.le_of_ble_eq_true rfl) dX12_ticked_93 ?_
          refine X_iinc (pc := 96) (i := 1) (q := 2) (v := (l1 + (1 : Int32))) [(1, .int (l1 + (1 : Int32))), (2, .int x4), (0, .ref (xP G 34))] dX12_ticked_96 rfl rfl (by decide) rfl ?_
          refine X_goto (pc := 99) 42 dX12_ticked_99 (by decide) ?_
          exact X_lvs [2, 0] rfl (ih hf)
theorem u_Md_ticked_L42 {S : List xSh} : ∀ (n : Nat) {l1 : Int32} {I : Nat → Nat → Int32} {L : Nat → Nat → Int64} {q : ((Nat → Nat → Int32) × (Nat → Nat → Int64))}, f_Md_ticked_L42 n l1 I L = some q → FR S [48, 50, 54, 56, 4440, 4445, 4446, 4447] [] I q.1 L q.2 := by
  intro n
  induction n with
  | zero =>
    intro l1 I L q hf
    exact absurd (show none = some q from hf) (by simp)
  | succ n ih =>
    intro l1 I L q hf
    replace hf := (f_Md_ticked_L42.eq_2 _ _ _ _).symm.trans hf
    by_cases c2 : (I 34 16) ≤ l1
    · replace hf := (if_pos c2).symm.trans hf
      cases hf
      exact FR.rf
    · replace hf := (if_neg c2).symm.trans hf
      obtain ⟨c3, hf⟩ := gd_some hf
      obtain ⟨x4, ex4, hf⟩ := bnd_e hf
      obtain ⟨q5, c6, hf⟩ := bd_some hf
      by_cases c7 : q5 = (0 : Int32)
      · replace hf := (if_pos c7).symm.trans hf
        exact FR.tr FR.rf (ih hf) (by decide) (by decide)
      · replace hf := (if_neg c7).symm.trans hf
        obtain ⟨q8, c9, hf⟩ := bd_some hf
        obtain ⟨q10, c11, hf⟩ := bd_some hf
        by_cases c12 : q8 ≤ q10
        · replace hf := (if_pos c12).symm.trans hf
          exact FR.tr FR.rf (ih hf) (by decide) (by decide)
        · replace hf := (if_neg c12).symm.trans hf
          obtain ⟨q13, c14, hf⟩ := bd_some hf
          exact FR.tr (FR.tr FR.rf (u_Md_tripped (q := q13) c14) (by decide) (by decide)) (ih hf) (by decide) (by decide)
def f_Md_ticked_L2 : Nat → Int32 → (Nat → Nat → Int32) → (Nat → Nat → Int64) → Option ((Nat → Nat → Int32) × (Nat → Nat → Int64))
  | 0, _, _, _ => none
  | n + 1, l1, I, L => (if (I 34 22) ≤ l1 then (f_Md_ticked_L42 xF (0 : Int32) I L) else (if (0 ≤ l1 ∧ l1 < (4 : Int32)) then (if (0 ≤ l1 ∧ l1 < (4 : Int32)) then (if (I 49 (l1.toNatClampNeg)) = (1 : Int32) then (bnd ((I 50 (l1.toNatClampNeg)) + (1 : Int32)) fun x18 => (if (0 ≤ l1 ∧ l1 < (4 : Int32)) then (f_Md_ticked_L2 n (l1 + (1 : Int32)) (uI I 50 (l1.toNatClampNeg) x18) L) else none)) else (bnd ((I 50 (l1.toNatClampNeg)) + (0 : Int32)) fun x20 => (if (0 ≤ l1 ∧ l1 < (4 : Int32)) then (f_Md_ticked_L2 n (l1 + (1 : Int32)) (uI I 50 (l1.toNatClampNeg) x20) L) else none))) else none) else none))
set_option maxRecDepth 100000 in
set_option maxHeartbeats 4000000 in
theorem x_Md_ticked_L2 {G : xG} {S : List xSh} {Rf : Nat → Nat → Option Nat} (hT : xTM S Rf) : ∀ (n : Nat) {l1 : Int32} {I : Nat → Nat → Int32} {L : Nat → Nat → Int64} {q : ((Nat → Nat → Int32) × (Nat → Nat → Int64))}, f_Md_ticked_L2 n l1 I L = some q → X G 6 m_Md_ticked 2 [(0, .ref (xP G 34)), (1, .int l1)] [] (S, I, L, Rf) (none, (S, q.1, q.2, Rf)) := by
  intro n
  induction n with
  | zero =>
    intro l1 I L q hf
    exact absurd (show none = some q from hf) (by simp)
  | succ n ih =>
    intro l1 I L q hf
    replace hf := (f_Md_ticked_L2.eq_2 _ _ _ _).symm.trans hf
    refine X_iload_n (pc := 2) (i := 1) 1 dX12_ticked_2 rfl rfl ?_
    refine X_aload_n (pc := 3) (i := 0) 0 dX12_ticked_3 rfl rfl ?_
    refine X_get (pc := 4) (a := 34) (ci := 11) (j := 22) (.int (I 34 22)) (sh_34 hT) (by decide) k_1250 rfl dX12_ticked_4 ?_
    by_cases c1 : (I 34 22) ≤ l1
    · replace hf := (if_pos c1).symm.trans hf
      refine X_icmp_ge_t (pc := 7) 40 dX12_ticked_7 (by decide) c1 ?_
      refine X_iconst (pc := 40) (0 : Int32) dX12_ticked_40 (by decide) ?_
      refine X_istore_n (pc := 41) (i := 1) [(1, .int (0 : Int32)), (0, .ref (xP G 34))] dX12_ticked_41 rfl (by decide) rfl ?_
      exact X_lvs [1, 0] rfl (x_Md_ticked_L42 hT xF hf)
    · replace hf := (if_neg c1).symm.trans hf
      refine X_icmp_ge_f (pc := 7) 40 dX12_ticked_7 (by decide) c1 ?_
      refine X_aload_n (pc := 10) (i := 0) 0 dX12_ticked_10 rfl rfl ?_
      refine X_getr (pc := 11) (a := 34) (ci := 11) (j := 35) (c := 50) (sh_34 hT) (by decide) k_1263 (rf_34_35 hT) (fun _ h => h) dX12_ticked_11 ?_
      refine X_iload_n (pc := 14) (i := 1) 1 dX12_ticked_14 rfl rfl ?_
      refine X_dup2 (pc := 15) dX12_ticked_15 rfl rfl ?_
      obtain ⟨c15, hf⟩ := gd_some hf
      refine X_ialdj (pc := 16) (j := l1.toNatClampNeg) (I 50 (l1.toNatClampNeg)) (sh_50 hT) (vp_in_lit (N := 4) c15 (by decide)) rfl rfl dX12_ticked_16 ?_
      refine X_aload_n (pc := 17) (i := 0) 0 dX12_ticked_17 rfl rfl ?_
      refine X_getr (pc := 18) (a := 34) (ci := 11) (j := 34) (c := 49) (sh_34 hT) (by decide) k_1262 (rf_34_34 hT) (fun _ h => h) dX12_ticked_18 ?_
      refine X_iload_n (pc := 21) (i := 1) 1 dX12_ticked_21 rfl rfl ?_
      obtain ⟨c16, hf⟩ := gd_some hf
      refine X_ialdj (pc := 22) (j := l1.toNatClampNeg) (I 49 (l1.toNatClampNeg)) (sh_49 hT) (vp_in_lit (N := 4) c16 (by decide)) rfl rfl dX12_ticked_22 ?_
      refine X_iconst (pc := 23) (1 : Int32) dX12_ticked_23 (by decide) ?_
      by_cases c17 : (I 49 (l1.toNatClampNeg)) = (1 : Int32)
      · replace hf := (if_pos c17).symm.trans hf
        refine X_icmp_ne_f (pc := 24) 31 dX12_ticked_24 (by decide) c17 ?_
        refine X_iconst (pc := 27) (1 : Int32) dX12_ticked_27 (by decide) ?_
        refine X_goto (pc := 28) 32 dX12_ticked_28 (by decide) ?_
        refine X_iadd (pc := 32) dX12_ticked_32 ?_
        obtain ⟨x18, ex18, hf⟩ := bnd_e hf
        refine X_tope ex18 ?_
        obtain ⟨c19, hf⟩ := gd_some hf
        refine X_iastj (pc := 33) (j := (l1.toNatClampNeg)) (sh_50 hT) (vp_in_lit (N := 4) c19 (by decide)) rfl dX12_ticked_33 ?_
        refine X_iinc (pc := 34) (i := 1) (q := 1) (v := (l1 + (1 : Int32))) [(1, .int (l1 + (1 : Int32))), (0, .ref (xP G 34))] dX12_ticked_34 rfl rfl (by decide) rfl ?_
        refine X_goto (pc := 37) 2 dX12_ticked_37 (by decide) ?_
        exact X_lvs [1, 0] rfl (ih hf)
      · replace hf := (if_neg c17).symm.trans hf
        refine X_icmp_ne_t (pc := 24) 31 dX12_ticked_24 (by decide) c17 ?_
        refine X_iconst (pc := 31) (0 : Int32) dX12_ticked_31 (by decide) ?_
        refine X_iadd (pc := 32) dX12_ticked_32 ?_
        obtain ⟨x20, ex20, hf⟩ := bnd_e hf
        refine X_tope ex20 ?_
        obtain ⟨c21, hf⟩ := gd_some hf
        refine X_iastj (pc := 33) (j := (l1.toNatClampNeg)) (sh_50 hT) (vp_in_lit (N := 4) c21 (by decide)) rfl dX12_ticked_33 ?_
        refine X_iinc (pc := 34) (i := 1) (q := 1) (v := (l1 + (1 : Int32))) [(1, .int (l1 + (1 : Int32))), (0, .ref (xP G 34))] dX12_ticked_34 rfl rfl (by decide) rfl ?_
        refine X_goto (pc := 37) 2 dX12_ticked_37 (by decide) ?_
        exact X_lvs [1, 0] rfl (ih hf)
theorem u_Md_ticked_L2 {S : List xSh} : ∀ (n : Nat) {l1 : Int32} {I : Nat → Nat → Int32} {L : Nat → Nat → Int64} {q : ((Nat → Nat → Int32) × (Nat → Nat → Int64))}, f_Md_ticked_L2 n l1 I L = some q → FR S [48, 50, 54, 56, 4440, 4445, 4446, 4447] [] I q.1 L q.2 := by
  intro n
  induction n with
  | zero =>
    intro l1 I L q hf
    exact absurd (show none = some q from hf) (by simp)
  | succ n ih =>
    intro l1 I L q hf
    replace hf := (f_Md_ticked_L2.eq_2 _ _ _ _).symm.trans hf
    by_cases c1 : (I 34 22) ≤ l1
    · replace hf := (if_pos c1).symm.trans hf
      exact FR.tr FR.rf (u_Md_ticked_L42 xF hf) (by decide) (by decide)
    · replace hf := (if_neg c1).symm.trans hf
      obtain ⟨c15, hf⟩ := gd_some hf
      obtain ⟨c16, hf⟩ := gd_some hf
      by_cases c17 : (I 49 (l1.toNatClampNeg)) = (1 : Int32)
      · replace hf := (if_pos c17).symm.trans hf
        obtain ⟨x18, ex18, hf⟩ := bnd_e hf
        obtain ⟨c19, hf⟩ := gd_some hf
        exact FR.tr (FR.ai FR.rf (by decide)) (ih hf) (by decide) (by decide)
      · replace hf := (if_neg c17).symm.trans hf
        obtain ⟨x20, ex20, hf⟩ := bnd_e hf
        obtain ⟨c21, hf⟩ := gd_some hf
        exact FR.tr (FR.ai FR.rf (by decide)) (ih hf) (by decide) (by decide)
def f_Md_ticked (I : Nat → Nat → Int32) (L : Nat → Nat → Int64) : Option ((Nat → Nat → Int32) × (Nat → Nat → Int64)) := (f_Md_ticked_L2 xF (0 : Int32) I L)
set_option maxRecDepth 100000 in
set_option maxHeartbeats 4000000 in
theorem c_Md_ticked {G : xG} {S : List xSh} {Rf : Nat → Nat → Option Nat} (hT : xTM S Rf) {I : Nat → Nat → Int32} {L : Nat → Nat → Int64} {q : ((Nat → Nat → Int32) × (Nat → Nat → Int64))} (hf : f_Md_ticked I L = some q) : CT G 6 m_Md_ticked [.ref (xP G 34)] (S, I, L, Rf) (none, (S, q.1, q.2, Rf)) := by
  refine CT.of (by decide +kernel) (Nat.le_of_ble_eq_true rfl) ?_
  show X G 6 m_Md_ticked 0 [(0, .ref (xP G 34))] [] (S, I, L, Rf) (none, (S, q.1, q.2, Rf))
  replace hf := (f_Md_ticked.eq_1 _ _).symm.trans hf
  refine X_iconst (pc := 0) (0 : Int32) dX12_ticked_0 (by decide) ?_
  refine X_istore_n (pc := 1) (i := 1) [(1, .int (0 : Int32)), (0, .ref (xP G 34))] dX12_ticked_1 rfl (by decide) rfl ?_
  exact X_lvs [1, 0] rfl (x_Md_ticked_L2 hT xF hf)
theorem u_Md_ticked {S : List xSh} {I : Nat → Nat → Int32} {L : Nat → Nat → Int64} {q : ((Nat → Nat → Int32) × (Nat → Nat → Int64))} (hf : f_Md_ticked I L = some q) : FR S [48, 50, 54, 56, 4440, 4445, 4446, 4447] [] I q.1 L q.2 := by
  replace hf := (f_Md_ticked.eq_1 _ _).symm.trans hf
  exact FR.tr FR.rf (u_Md_ticked_L2 xF hf) (by decide) (by decide)
theorem dX12_step_0 : decode cX12_step 0 = .ok (.aload_n 0, 1) := by decide +kernel
theorem dX12_step_1 : decode cX12_step 1 = .ok (.dup, 1) := by decide +kernel
theorem dX12_step_2 : decode cX12_step 2 = .ok (.getfield 188, 3) := by decide +kernel
theorem dX12_step_5 : decode cX12_step 5 = .ok (.iconst 1, 1) := by decide +kernel
theorem dX12_step_6 : decode cX12_step 6 = .ok (.iadd, 1) := by decide +kernel
theorem dX12_step_7 : decode cX12_step 7 = .ok (.putfield 188, 3) := by decide +kernel
theorem dX12_step_10 : decode cX12_step 10 = .ok (.aload_n 0, 1) := by decide +kernel
theorem dX12_step_11 : decode cX12_step 11 = .ok (.aload_n 0, 1) := by decide +kernel
theorem dX12_step_12 : decode cX12_step 12 = .ok (.getfield 194, 3) := by decide +kernel
theorem dX12_step_15 : decode cX12_step 15 = .ok (.i2l, 1) := by decide +kernel
theorem dX12_step_16 : decode cX12_step 16 = .ok (.aload_n 0, 1) := by decide +kernel
theorem dX12_step_17 : decode cX12_step 17 = .ok (.getfield 191, 3) := by decide +kernel
theorem dX12_step_20 : decode cX12_step 20 = .ok (.i2l, 1) := by decide +kernel
theorem dX12_step_21 : decode cX12_step 21 = .ok (.aload_n 0, 1) := by decide +kernel
theorem dX12_step_22 : decode cX12_step 22 = .ok (.getfield 156, 3) := by decide +kernel
theorem dX12_step_25 : decode cX12_step 25 = .ok (.i2l, 1) := by decide +kernel
theorem dX12_step_26 : decode cX12_step 26 = .ok (.lmul, 1) := by decide +kernel
theorem dX12_step_27 : decode cX12_step 27 = .ok (.bipush 16, 2) := by decide +kernel
theorem dX12_step_29 : decode cX12_step 29 = .ok (.lshr, 1) := by decide +kernel
theorem dX12_step_30 : decode cX12_step 30 = .ok (.lsub, 1) := by decide +kernel
theorem dX12_step_31 : decode cX12_step 31 = .ok (.invokevirtual 342, 3) := by decide +kernel
theorem dX12_step_34 : decode cX12_step 34 = .ok (.aload_n 0, 1) := by decide +kernel
theorem dX12_step_35 : decode cX12_step 35 = .ok (.aload_n 0, 1) := by decide +kernel
theorem dX12_step_36 : decode cX12_step 36 = .ok (.getfield 194, 3) := by decide +kernel
theorem dX12_step_39 : decode cX12_step 39 = .ok (.ifCond .le 20, 3) := by decide +kernel
theorem dX12_step_42 : decode cX12_step 42 = .ok (.iconst 0, 1) := by decide +kernel
theorem dX12_step_43 : decode cX12_step 43 = .ok (.aload_n 0, 1) := by decide +kernel
theorem dX12_step_44 : decode cX12_step 44 = .ok (.getfield 194, 3) := by decide +kernel
theorem dX12_step_47 : decode cX12_step 47 = .ok (.aload_n 0, 1) := by decide +kernel
theorem dX12_step_48 : decode cX12_step 48 = .ok (.getfield 159, 3) := by decide +kernel
theorem dX12_step_51 : decode cX12_step 51 = .ok (.isub, 1) := by decide +kernel
theorem dX12_step_52 : decode cX12_step 52 = .ok (.invokestatic 346, 3) := by decide +kernel
theorem dX12_step_55 : decode cX12_step 55 = .ok (.i2l, 1) := by decide +kernel
theorem dX12_step_56 : decode cX12_step 56 = .ok (.goto 17, 3) := by decide +kernel
theorem dX12_step_59 : decode cX12_step 59 = .ok (.iconst 0, 1) := by decide +kernel
theorem dX12_step_60 : decode cX12_step 60 = .ok (.aload_n 0, 1) := by decide +kernel
theorem dX12_step_61 : decode cX12_step 61 = .ok (.getfield 194, 3) := by decide +kernel
theorem dX12_step_64 : decode cX12_step 64 = .ok (.aload_n 0, 1) := by decide +kernel
theorem dX12_step_65 : decode cX12_step 65 = .ok (.getfield 159, 3) := by decide +kernel
theorem dX12_step_68 : decode cX12_step 68 = .ok (.iadd, 1) := by decide +kernel
theorem dX12_step_69 : decode cX12_step 69 = .ok (.invokestatic 348, 3) := by decide +kernel
theorem dX12_step_72 : decode cX12_step 72 = .ok (.i2l, 1) := by decide +kernel
theorem dX12_step_73 : decode cX12_step 73 = .ok (.invokevirtual 342, 3) := by decide +kernel
theorem dX12_step_76 : decode cX12_step 76 = .ok (.aload_n 0, 1) := by decide +kernel
theorem dX12_step_77 : decode cX12_step 77 = .ok (.dup, 1) := by decide +kernel
theorem dX12_step_78 : decode cX12_step 78 = .ok (.getfield 191, 3) := by decide +kernel
theorem dX12_step_81 : decode cX12_step 81 = .ok (.aload_n 0, 1) := by decide +kernel
theorem dX12_step_82 : decode cX12_step 82 = .ok (.getfield 194, 3) := by decide +kernel
theorem dX12_step_85 : decode cX12_step 85 = .ok (.iadd, 1) := by decide +kernel
theorem dX12_step_86 : decode cX12_step 86 = .ok (.putfield 191, 3) := by decide +kernel
theorem dX12_step_89 : decode cX12_step 89 = .ok (.aload_n 0, 1) := by decide +kernel
theorem dX12_step_90 : decode cX12_step 90 = .ok (.getfield 191, 3) := by decide +kernel
theorem dX12_step_93 : decode cX12_step 93 = .ok (.aload_n 0, 1) := by decide +kernel
theorem dX12_step_94 : decode cX12_step 94 = .ok (.getfield 166, 3) := by decide +kernel
theorem dX12_step_97 : decode cX12_step 97 = .ok (.if_icmp .gt 15, 3) := by decide +kernel
theorem dX12_step_100 : decode cX12_step 100 = .ok (.aload_n 0, 1) := by decide +kernel
theorem dX12_step_101 : decode cX12_step 101 = .ok (.getfield 191, 3) := by decide +kernel
theorem dX12_step_104 : decode cX12_step 104 = .ok (.aload_n 0, 1) := by decide +kernel
theorem dX12_step_105 : decode cX12_step 105 = .ok (.getfield 166, 3) := by decide +kernel
theorem dX12_step_108 : decode cX12_step 108 = .ok (.ineg, 1) := by decide +kernel
theorem dX12_step_109 : decode cX12_step 109 = .ok (.if_icmp .ge 50, 3) := by decide +kernel
theorem dX12_step_112 : decode cX12_step 112 = .ok (.aload_n 0, 1) := by decide +kernel
theorem dX12_step_113 : decode cX12_step 113 = .ok (.aload_n 0, 1) := by decide +kernel
theorem dX12_step_114 : decode cX12_step 114 = .ok (.getfield 191, 3) := by decide +kernel
theorem dX12_step_117 : decode cX12_step 117 = .ok (.aload_n 0, 1) := by decide +kernel
theorem dX12_step_118 : decode cX12_step 118 = .ok (.getfield 166, 3) := by decide +kernel
theorem dX12_step_121 : decode cX12_step 121 = .ok (.if_icmp .le 10, 3) := by decide +kernel
theorem dX12_step_124 : decode cX12_step 124 = .ok (.aload_n 0, 1) := by decide +kernel
theorem dX12_step_125 : decode cX12_step 125 = .ok (.getfield 166, 3) := by decide +kernel
theorem dX12_step_128 : decode cX12_step 128 = .ok (.goto 8, 3) := by decide +kernel
theorem dX12_step_131 : decode cX12_step 131 = .ok (.aload_n 0, 1) := by decide +kernel
theorem dX12_step_132 : decode cX12_step 132 = .ok (.getfield 166, 3) := by decide +kernel
theorem dX12_step_135 : decode cX12_step 135 = .ok (.ineg, 1) := by decide +kernel
theorem dX12_step_136 : decode cX12_step 136 = .ok (.putfield 191, 3) := by decide +kernel
theorem dX12_step_139 : decode cX12_step 139 = .ok (.aload_n 0, 1) := by decide +kernel
theorem dX12_step_140 : decode cX12_step 140 = .ok (.aload_n 0, 1) := by decide +kernel
theorem dX12_step_141 : decode cX12_step 141 = .ok (.getfield 194, 3) := by decide +kernel
theorem dX12_step_144 : decode cX12_step 144 = .ok (.ineg, 1) := by decide +kernel
theorem dX12_step_145 : decode cX12_step 145 = .ok (.i2l, 1) := by decide +kernel
theorem dX12_step_146 : decode cX12_step 146 = .ok (.invokevirtual 342, 3) := by decide +kernel
theorem dX12_step_149 : decode cX12_step 149 = .ok (.aload_n 0, 1) := by decide +kernel
theorem dX12_step_150 : decode cX12_step 150 = .ok (.dup, 1) := by decide +kernel
theorem dX12_step_151 : decode cX12_step 151 = .ok (.getfield 200, 3) := by decide +kernel
theorem dX12_step_154 : decode cX12_step 154 = .ok (.iconst 1, 1) := by decide +kernel
theorem dX12_step_155 : decode cX12_step 155 = .ok (.iadd, 1) := by decide +kernel
theorem dX12_step_156 : decode cX12_step 156 = .ok (.putfield 200, 3) := by decide +kernel
theorem dX12_step_159 : decode cX12_step 159 = .ok (.aload_n 0, 1) := by decide +kernel
theorem dX12_step_160 : decode cX12_step 160 = .ok (.aload_n 0, 1) := by decide +kernel
theorem dX12_step_161 : decode cX12_step 161 = .ok (.getfield 203, 3) := by decide +kernel
theorem dX12_step_164 : decode cX12_step 164 = .ok (.aload_n 0, 1) := by decide +kernel
theorem dX12_step_165 : decode cX12_step 165 = .ok (.getfield 191, 3) := by decide +kernel
theorem dX12_step_168 : decode cX12_step 168 = .ok (.invokestatic 350, 3) := by decide +kernel
theorem dX12_step_171 : decode cX12_step 171 = .ok (.invokestatic 346, 3) := by decide +kernel
theorem dX12_step_174 : decode cX12_step 174 = .ok (.putfield 203, 3) := by decide +kernel
theorem dX12_step_177 : decode cX12_step 177 = .ok (.aload_n 0, 1) := by decide +kernel
theorem dX12_step_178 : decode cX12_step 178 = .ok (.invokevirtual 352, 3) := by decide +kernel
theorem dX12_step_181 : decode cX12_step 181 = .ok (.i2l, 1) := by decide +kernel
theorem dX12_step_182 : decode cX12_step 182 = .ok (.lstore_n 1, 1) := by decide +kernel
theorem dX12_step_183 : decode cX12_step 183 = .ok (.lload_n 1, 1) := by decide +kernel
theorem dX12_step_184 : decode cX12_step 184 = .ok (.lconst 0, 1) := by decide +kernel
theorem dX12_step_185 : decode cX12_step 185 = .ok (.lcmp, 1) := by decide +kernel
theorem dX12_step_186 : decode cX12_step 186 = .ok (.ifCond .le 47, 3) := by decide +kernel
theorem dX12_step_189 : decode cX12_step 189 = .ok (.aload_n 0, 1) := by decide +kernel
theorem dX12_step_190 : decode cX12_step 190 = .ok (.getfield 197, 3) := by decide +kernel
theorem dX12_step_193 : decode cX12_step 193 = .ok (.iconst (-1), 1) := by decide +kernel
theorem dX12_step_194 : decode cX12_step 194 = .ok (.if_icmp .ne 17, 3) := by decide +kernel
theorem dX12_step_197 : decode cX12_step 197 = .ok (.aload_n 0, 1) := by decide +kernel
theorem dX12_step_198 : decode cX12_step 198 = .ok (.getfield 191, 3) := by decide +kernel
theorem dX12_step_201 : decode cX12_step 201 = .ok (.ifCond .lt 10, 3) := by decide +kernel
theorem dX12_step_204 : decode cX12_step 204 = .ok (.aload_n 0, 1) := by decide +kernel
theorem dX12_step_205 : decode cX12_step 205 = .ok (.getfield 194, 3) := by decide +kernel
theorem dX12_step_208 : decode cX12_step 208 = .ok (.ifCond .gt 27, 3) := by decide +kernel
theorem dX12_step_211 : decode cX12_step 211 = .ok (.aload_n 0, 1) := by decide +kernel
theorem dX12_step_212 : decode cX12_step 212 = .ok (.getfield 197, 3) := by decide +kernel
theorem dX12_step_215 : decode cX12_step 215 = .ok (.iconst 1, 1) := by decide +kernel
theorem dX12_step_216 : decode cX12_step 216 = .ok (.if_icmp .ne 17, 3) := by decide +kernel
theorem dX12_step_219 : decode cX12_step 219 = .ok (.aload_n 0, 1) := by decide +kernel
theorem dX12_step_220 : decode cX12_step 220 = .ok (.getfield 191, 3) := by decide +kernel
theorem dX12_step_223 : decode cX12_step 223 = .ok (.ifCond .gt 10, 3) := by decide +kernel
theorem dX12_step_226 : decode cX12_step 226 = .ok (.aload_n 0, 1) := by decide +kernel
theorem dX12_step_227 : decode cX12_step 227 = .ok (.getfield 194, 3) := by decide +kernel
theorem dX12_step_230 : decode cX12_step 230 = .ok (.ifCond .lt 5, 3) := by decide +kernel
theorem dX12_step_233 : decode cX12_step 233 = .ok (.iconst 0, 1) := by decide +kernel
theorem dX12_step_234 : decode cX12_step 234 = .ok (.ireturn, 1) := by decide +kernel
theorem dX12_step_235 : decode cX12_step 235 = .ok (.aload_n 0, 1) := by decide +kernel
theorem dX12_step_236 : decode cX12_step 236 = .ok (.aload_n 0, 1) := by decide +kernel
theorem dX12_step_237 : decode cX12_step 237 = .ok (.getfield 197, 3) := by decide +kernel
theorem dX12_step_240 : decode cX12_step 240 = .ok (.ineg, 1) := by decide +kernel
theorem dX12_step_241 : decode cX12_step 241 = .ok (.putfield 197, 3) := by decide +kernel
theorem dX12_step_244 : decode cX12_step 244 = .ok (.lload_n 1, 1) := by decide +kernel
theorem dX12_step_245 : decode cX12_step 245 = .ok (.aload_n 0, 1) := by decide +kernel
theorem dX12_step_246 : decode cX12_step 246 = .ok (.getfield 162, 3) := by decide +kernel
theorem dX12_step_249 : decode cX12_step 249 = .ok (.i2l, 1) := by decide +kernel
theorem dX12_step_250 : decode cX12_step 250 = .ok (.lmul, 1) := by decide +kernel
theorem dX12_step_251 : decode cX12_step 251 = .ok (.bipush 16, 2) := by decide +kernel
theorem dX12_step_253 : decode cX12_step 253 = .ok (.lshr, 1) := by decide +kernel
theorem dX12_step_254 : decode cX12_step 254 = .ok (.lstore_n 3, 1) := by decide +kernel
theorem dX12_step_255 : decode cX12_step 255 = .ok (.aload_n 0, 1) := by decide +kernel
theorem dX12_step_256 : decode cX12_step 256 = .ok (.aload_n 0, 1) := by decide +kernel
theorem dX12_step_257 : decode cX12_step 257 = .ok (.getfield 194, 3) := by decide +kernel
theorem dX12_step_260 : decode cX12_step 260 = .ok (.ifCond .le 13, 3) := by decide +kernel
theorem dX12_step_263 : decode cX12_step 263 = .ok (.aload_n 0, 1) := by decide +kernel
theorem dX12_step_264 : decode cX12_step 264 = .ok (.getfield 194, 3) := by decide +kernel
theorem dX12_step_267 : decode cX12_step 267 = .ok (.i2l, 1) := by decide +kernel
theorem dX12_step_268 : decode cX12_step 268 = .ok (.lload_n 3, 1) := by decide +kernel
theorem dX12_step_269 : decode cX12_step 269 = .ok (.ladd, 1) := by decide +kernel
theorem dX12_step_270 : decode cX12_step 270 = .ok (.goto 10, 3) := by decide +kernel
theorem dX12_step_273 : decode cX12_step 273 = .ok (.aload_n 0, 1) := by decide +kernel
theorem dX12_step_274 : decode cX12_step 274 = .ok (.getfield 194, 3) := by decide +kernel
theorem dX12_step_277 : decode cX12_step 277 = .ok (.i2l, 1) := by decide +kernel
theorem dX12_step_278 : decode cX12_step 278 = .ok (.lload_n 3, 1) := by decide +kernel
theorem dX12_step_279 : decode cX12_step 279 = .ok (.lsub, 1) := by decide +kernel
theorem dX12_step_280 : decode cX12_step 280 = .ok (.invokevirtual 342, 3) := by decide +kernel
theorem dX12_step_283 : decode cX12_step 283 = .ok (.aload_n 0, 1) := by decide +kernel
theorem dX12_step_284 : decode cX12_step 284 = .ok (.dup, 1) := by decide +kernel
theorem dX12_step_285 : decode cX12_step 285 = .ok (.getfield 185, 3) := by decide +kernel
theorem dX12_step_288 : decode cX12_step 288 = .ok (.iconst 1, 1) := by decide +kernel
theorem dX12_step_289 : decode cX12_step 289 = .ok (.iadd, 1) := by decide +kernel
theorem dX12_step_290 : decode cX12_step 290 = .ok (.putfield 185, 3) := by decide +kernel
theorem dX12_step_293 : decode cX12_step 293 = .ok (.aload_n 0, 1) := by decide +kernel
theorem dX12_step_294 : decode cX12_step 294 = .ok (.getfield 185, 3) := by decide +kernel
theorem dX12_step_297 : decode cX12_step 297 = .ok (.sipush 3000, 3) := by decide +kernel
theorem dX12_step_300 : decode cX12_step 300 = .ok (.if_icmp .gt 37, 3) := by decide +kernel
theorem dX12_step_303 : decode cX12_step 303 = .ok (.aload_n 0, 1) := by decide +kernel
theorem dX12_step_304 : decode cX12_step 304 = .ok (.getfield 65, 3) := by decide +kernel
theorem dX12_step_307 : decode cX12_step 307 = .ok (.iconst 2, 1) := by decide +kernel
theorem dX12_step_308 : decode cX12_step 308 = .ok (.aload_n 0, 1) := by decide +kernel
theorem dX12_step_309 : decode cX12_step 309 = .ok (.getfield 185, 3) := by decide +kernel
theorem dX12_step_312 : decode cX12_step 312 = .ok (.imul, 1) := by decide +kernel
theorem dX12_step_313 : decode cX12_step 313 = .ok (.iconst 2, 1) := by decide +kernel
theorem dX12_step_314 : decode cX12_step 314 = .ok (.isub, 1) := by decide +kernel
theorem dX12_step_315 : decode cX12_step 315 = .ok (.aload_n 0, 1) := by decide +kernel
theorem dX12_step_316 : decode cX12_step 316 = .ok (.getfield 188, 3) := by decide +kernel
theorem dX12_step_319 : decode cX12_step 319 = .ok (.iastore, 1) := by decide +kernel
theorem dX12_step_320 : decode cX12_step 320 = .ok (.aload_n 0, 1) := by decide +kernel
theorem dX12_step_321 : decode cX12_step 321 = .ok (.getfield 65, 3) := by decide +kernel
theorem dX12_step_324 : decode cX12_step 324 = .ok (.iconst 2, 1) := by decide +kernel
theorem dX12_step_325 : decode cX12_step 325 = .ok (.aload_n 0, 1) := by decide +kernel
theorem dX12_step_326 : decode cX12_step 326 = .ok (.getfield 185, 3) := by decide +kernel
theorem dX12_step_329 : decode cX12_step 329 = .ok (.imul, 1) := by decide +kernel
theorem dX12_step_330 : decode cX12_step 330 = .ok (.iconst 1, 1) := by decide +kernel
theorem dX12_step_331 : decode cX12_step 331 = .ok (.isub, 1) := by decide +kernel
theorem dX12_step_332 : decode cX12_step 332 = .ok (.aload_n 0, 1) := by decide +kernel
theorem dX12_step_333 : decode cX12_step 333 = .ok (.getfield 203, 3) := by decide +kernel
theorem dX12_step_336 : decode cX12_step 336 = .ok (.iastore, 1) := by decide +kernel
theorem dX12_step_337 : decode cX12_step 337 = .ok (.aload_n 0, 1) := by decide +kernel
theorem dX12_step_338 : decode cX12_step 338 = .ok (.iconst 0, 1) := by decide +kernel
theorem dX12_step_339 : decode cX12_step 339 = .ok (.putfield 203, 3) := by decide +kernel
theorem dX12_step_342 : decode cX12_step 342 = .ok (.aload_n 0, 1) := by decide +kernel
theorem dX12_step_343 : decode cX12_step 343 = .ok (.invokevirtual 355, 3) := by decide +kernel
theorem dX12_step_346 : decode cX12_step 346 = .ok (.iconst 1, 1) := by decide +kernel
theorem dX12_step_347 : decode cX12_step 347 = .ok (.ireturn, 1) := by decide +kernel
def f_Md_step_L337 (I : (Nat → Nat → Int32)) (L : (Nat → Nat → Int64)) : Option (Int32 × (Nat → Nat → Int32) × (Nat → Nat → Int64)) := ((f_Md_ticked (uI I 34 31 (0 : Int32)) L).bind fun q32 => (some ((1 : Int32), q32.1, q32.2)))
set_option maxRecDepth 100000 in
set_option maxHeartbeats 4000000 in
theorem x_Md_step_L337 {G : xG} {S : List xSh} {Rf : Nat → Nat → Option Nat} (hT : xTM S Rf) {I : Nat → Nat → Int32} {L : Nat → Nat → Int64} {q : (Int32 × (Nat → Nat → Int32) × (Nat → Nat → Int64))} (hf : f_Md_step_L337 I L = some q) : X G 7 m_Md_step 337 [(0, .ref (xP G 34))] [] (S, I, L, Rf) (some (.int q.1), (S, q.2.1, q.2.2, Rf)) := by
  replace hf := (f_Md_step_L337.eq_1 _ _).symm.trans hf
  refine X_aload_n (pc := 337) (i := 0) 0 dX12_step_337 rfl rfl ?_
  refine X_iconst (pc := 338) (0 : Int32) dX12_step_338 (by decide) ?_
  refine X_puti (pc := 339) (a := 34) (ci := 11) (j := 31) 31 rfl false (sh_34 hT) (by decide) k_1259 rfl (fun h => by cases h) rfl dX12_step_339 ?_
  refine X_aload_n (pc := 342) (i := 0) 0 dX12_step_342 rfl rfl ?_
  obtain ⟨q32, c33, hf⟩ := bd_some hf
  refine X_invV_v (pc := 343) (c_Md_ticked hT c33) ok_Md_ticked (ci := 11) (sh_34 hT) k_1616 k_1618 k_58 nd_1 (by decide) rfl (Nat.le_of_ble_eq_true rfl) dX12_step_343 ?_
  refine X_iconst (pc := 346) (1 : Int32) dX12_step_346 (by decide) ?_
  cases hf
  exact X_zreturn (pc := 347) rfl (nar_b (by decide)) dX12_step_347
theorem u_Md_step_L337 {S : List xSh} {I : Nat → Nat → Int32} {L : Nat → Nat → Int64} {q : (Int32 × (Nat → Nat → Int32) × (Nat → Nat → Int64))} (hf : f_Md_step_L337 I L = some q) : FR S [48, 50, 53, 54, 56, 4425, 4426, 4427, 4428, 4429, 4430, 4431, 4440, 4445, 4446, 4447] [] I q.2.1 L q.2.2 := by
  replace hf := (f_Md_step_L337.eq_1 _ _).symm.trans hf
  obtain ⟨q32, c33, hf⟩ := bd_some hf
  cases hf
  exact (FR.tr (FR.fi FR.rf (by decide)) (u_Md_ticked (q := q32) c33) (by decide) (by decide))
def f_Md_step_L280 (s1 : Int64) (I : (Nat → Nat → Int32)) (L : (Nat → Nat → Int64)) : Option (Int32 × (Nat → Nat → Int32) × (Nat → Nat → Int64)) := ((f_Md_setV s1 I L).bind fun q28 => (bnd ((q28.1 34 25) + (1 : Int32)) fun x30 => (if (3000 : Int32) < x30 then (f_Md_step_L337 (uI q28.1 34 25 x30) q28.2) else (bnd (q28.1 34 26) fun x34 => (if (0 ≤ (((2 : Int32) * x30) - (2 : Int32)) ∧ (((2 : Int32) * x30) - (2 : Int32)) < (6000 : Int32)) then (bnd (q28.1 34 31) fun x36 => (if (0 ≤ (((2 : Int32) * x30) - (1 : Int32)) ∧ (((2 : Int32) * x30) - (1 : Int32)) < (6000 : Int32)) then (f_Md_step_L337 (uI (uI (uI q28.1 34 25 x30) 53 ((((2 : Int32) * x30) - (2 : Int32)).toNatClampNeg) x34) 53 ((((2 : Int32) * x30) - (1 : Int32)).toNatClampNeg) x36) q28.2) else none)) else none)))))
set_option maxRecDepth 100000 in
set_option maxHeartbeats 4000000 in
theorem x_Md_step_L280 {G : xG} {S : List xSh} {Rf : Nat → Nat → Option Nat} (hT : xTM S Rf) {s1 : Int64} {I : Nat → Nat → Int32} {L : Nat → Nat → Int64} {q : (Int32 × (Nat → Nat → Int32) × (Nat → Nat → Int64))} (hf : f_Md_step_L280 s1 I L = some q) : X G 7 m_Md_step 280 [(0, .ref (xP G 34))] [.long s1, .ref (xP G 34)] (S, I, L, Rf) (some (.int q.1), (S, q.2.1, q.2.2, Rf)) := by
  replace hf := (f_Md_step_L280.eq_1 _ _ _).symm.trans hf
  obtain ⟨q28, c29, hf⟩ := bd_some hf
  refine X_invV_v (pc := 280) (c_Md_setV hT c29) ok_Md_setV (ci := 11) (sh_34 hT) k_1587 k_1589 k_53 nd_36 (by decide) rfl (Nat.le_of_ble_eq_true rfl) dX12_step_280 ?_
  refine X_aload_n (pc := 283) (i := 0) 0 dX12_step_283 rfl rfl ?_
  refine X_dup (pc := 284) dX12_step_284 rfl ?_
  refine X_get (pc := 285) (a := 34) (ci := 11) (j := 25) (.int (q28.1 34 25)) (sh_34 hT) (by decide) k_1253 rfl dX12_step_285 ?_
  refine X_iconst (pc := 288) (1 : Int32) dX12_step_288 (by decide) ?_
  refine X_iadd (pc := 289) dX12_step_289 ?_
  obtain ⟨x30, ex30, hf⟩ := bnd_e hf
  refine X_tope ex30 ?_
  refine X_puti (pc := 290) (a := 34) (ci := 11) (j := 25) 25 rfl false (sh_34 hT) (by decide) k_1253 rfl (fun h => by cases h) rfl dX12_step_290 ?_
  refine X_aload_n (pc := 293) (i := 0) 0 dX12_step_293 rfl rfl ?_
  refine X_get (pc := 294) (a := 34) (ci := 11) (j := 25) (.int x30) (sh_34 hT) (by decide) k_1253 rfl dX12_step_294 ?_
  refine X_sipush (pc := 297) (3000 : Int32) dX12_step_297 (by decide) ?_
  by_cases c31 : (3000 : Int32) < x30
  · replace hf := (if_pos c31).symm.trans hf
    refine X_icmp_gt_t (pc := 300) 337 dX12_step_300 (by decide) c31 ?_
    exact X_lvs [0] rfl (x_Md_step_L337 hT hf)
  · replace hf := (if_neg c31).symm.trans hf
    refine X_icmp_gt_f (pc := 300) 337 dX12_step_300 (by decide) c31 ?_
    refine X_aload_n (pc := 303) (i := 0) 0 dX12_step_303 rfl rfl ?_
    refine X_getr (pc := 304) (a := 34) (ci := 11) (j := 38) (c := 53) (sh_34 hT) (by decide) k_1266 (rf_34_38 hT) (fun _ h => h) dX12_step_304 ?_
    refine X_iconst (pc := 307) (2 : Int32) dX12_step_307 (by decide) ?_
    refine X_aload_n (pc := 308) (i := 0) 0 dX12_step_308 rfl rfl ?_
    refine X_get (pc := 309) (a := 34) (ci := 11) (j := 25) (.int x30) (sh_34 hT) (by decide) k_1253 rfl dX12_step_309 ?_
    refine X_imul (pc := 312) dX12_step_312 ?_
    refine X_iconst (pc := 313) (2 : Int32) dX12_step_313 (by decide) ?_
    refine X_isub (pc := 314) dX12_step_314 ?_
    refine X_aload_n (pc := 315) (i := 0) 0 dX12_step_315 rfl rfl ?_
    refine X_get (pc := 316) (a := 34) (ci := 11) (j := 26) (.int (q28.1 34 26)) (sh_34 hT) (by decide) k_1254 rfl dX12_step_316 ?_
    obtain ⟨x34, ex34, hf⟩ := bnd_e hf
    refine X_tope ex34 ?_
    obtain ⟨c35, hf⟩ := gd_some hf
    refine X_iastj (pc := 319) (j := ((((2 : Int32) * x30) - (2 : Int32)).toNatClampNeg)) (sh_53 hT) (vp_in_lit (N := 6000) c35 (by decide)) rfl dX12_step_319 ?_
    refine X_aload_n (pc := 320) (i := 0) 0 dX12_step_320 rfl rfl ?_
    refine X_getr (pc := 321) (a := 34) (ci := 11) (j := 38) (c := 53) (sh_34 hT) (by decide) k_1266 (rf_34_38 hT) (fun _ h => h) dX12_step_321 ?_
    refine X_iconst (pc := 324) (2 : Int32) dX12_step_324 (by decide) ?_
    refine X_aload_n (pc := 325) (i := 0) 0 dX12_step_325 rfl rfl ?_
    refine X_get (pc := 326) (a := 34) (ci := 11) (j := 25) (.int x30) (sh_34 hT) (by decide) k_1253 rfl dX12_step_326 ?_
    refine X_imul (pc := 329) dX12_step_329 ?_
    refine X_iconst (pc := 330) (1 : Int32) dX12_step_330 (by decide) ?_
    refine X_isub (pc := 331) dX12_step_331 ?_
    refine X_aload_n (pc := 332) (i := 0) 0 dX12_step_332 rfl rfl ?_
    refine X_get (pc := 333) (a := 34) (ci := 11) (j := 31) (.int (q28.1 34 31)) (sh_34 hT) (by decide) k_1259 rfl dX12_step_333 ?_
    obtain ⟨x36, ex36, hf⟩ := bnd_e hf
    refine X_tope ex36 ?_
    obtain ⟨c37, hf⟩ := gd_some hf
    refine X_iastj (pc := 336) (j := ((((2 : Int32) * x30) - (1 : Int32)).toNatClampNeg)) (sh_53 hT) (vp_in_lit (N := 6000) c37 (by decide)) rfl dX12_step_336 ?_
    exact X_lvs [0] rfl (x_Md_step_L337 hT hf)
theorem u_Md_step_L280 {S : List xSh} {s1 : Int64} {I : Nat → Nat → Int32} {L : Nat → Nat → Int64} {q : (Int32 × (Nat → Nat → Int32) × (Nat → Nat → Int64))} (hf : f_Md_step_L280 s1 I L = some q) : FR S [48, 50, 53, 54, 56, 4425, 4426, 4427, 4428, 4429, 4430, 4431, 4440, 4445, 4446, 4447] [] I q.2.1 L q.2.2 := by
  replace hf := (f_Md_step_L280.eq_1 _ _ _).symm.trans hf
  obtain ⟨q28, c29, hf⟩ := bd_some hf
  obtain ⟨x30, ex30, hf⟩ := bnd_e hf
  by_cases c31 : (3000 : Int32) < x30
  · replace hf := (if_pos c31).symm.trans hf
    exact FR.tr (FR.fi (FR.tr FR.rf (u_Md_setV (q := q28) c29) (by decide) (by decide)) (by decide)) (u_Md_step_L337 hf) (by decide) (by decide)
  · replace hf := (if_neg c31).symm.trans hf
    obtain ⟨x34, ex34, hf⟩ := bnd_e hf
    obtain ⟨c35, hf⟩ := gd_some hf
    obtain ⟨x36, ex36, hf⟩ := bnd_e hf
    obtain ⟨c37, hf⟩ := gd_some hf
    exact FR.tr (FR.ai (FR.ai (FR.fi (FR.tr FR.rf (u_Md_setV (q := q28) c29) (by decide) (by decide)) (by decide)) (by decide)) (by decide)) (u_Md_step_L337 hf) (by decide) (by decide)
def f_Md_step_L235 (l1 : Int64) (I : (Nat → Nat → Int32)) (L : (Nat → Nat → Int64)) : Option (Int32 × (Nat → Nat → Int32) × (Nat → Nat → Int64)) := (bnd (-(I 34 29)) fun x25 => (bnd ((l1 * (Int32.toInt64 (I 34 12))) >>> (Int32.toInt64 (16 : Int32) &&& 63)) fun x26 => (if (I 34 28) ≤ (0 : Int32) then (f_Md_step_L280 ((Int32.toInt64 (I 34 28)) - x26) (uI I 34 29 x25) L) else (f_Md_step_L280 ((Int32.toInt64 (I 34 28)) + x26) (uI I 34 29 x25) L))))
set_option maxRecDepth 100000 in
set_option maxHeartbeats 4000000 in
theorem x_Md_step_L235 {G : xG} {S : List xSh} {Rf : Nat → Nat → Option Nat} (hT : xTM S Rf) {l1 : Int64} {I : Nat → Nat → Int32} {L : Nat → Nat → Int64} {q : (Int32 × (Nat → Nat → Int32) × (Nat → Nat → Int64))} (hf : f_Md_step_L235 l1 I L = some q) : X G 7 m_Md_step 235 [(0, .ref (xP G 34)), (1, .long l1)] [] (S, I, L, Rf) (some (.int q.1), (S, q.2.1, q.2.2, Rf)) := by
  replace hf := (f_Md_step_L235.eq_1 _ _ _).symm.trans hf
  refine X_aload_n (pc := 235) (i := 0) 0 dX12_step_235 rfl rfl ?_
  refine X_aload_n (pc := 236) (i := 0) 0 dX12_step_236 rfl rfl ?_
  refine X_get (pc := 237) (a := 34) (ci := 11) (j := 29) (.int (I 34 29)) (sh_34 hT) (by decide) k_1257 rfl dX12_step_237 ?_
  refine X_ineg (pc := 240) dX12_step_240 ?_
  obtain ⟨x25, ex25, hf⟩ := bnd_e hf
  refine X_tope ex25 ?_
  refine X_puti (pc := 241) (a := 34) (ci := 11) (j := 29) 29 rfl false (sh_34 hT) (by decide) k_1257 rfl (fun h => by cases h) rfl dX12_step_241 ?_
  refine X_lload_n (pc := 244) (i := 1) 1 dX12_step_244 rfl rfl ?_
  refine X_aload_n (pc := 245) (i := 0) 0 dX12_step_245 rfl rfl ?_
  refine X_get (pc := 246) (a := 34) (ci := 11) (j := 12) (.int (I 34 12)) (sh_34 hT) (by decide) k_1240 rfl dX12_step_246 ?_
  refine X_i2l (pc := 249) dX12_step_249 ?_
  refine X_lmul (pc := 250) dX12_step_250 ?_
  refine X_bipush (pc := 251) (16 : Int32) dX12_step_251 (by decide) ?_
  refine X_lshr (pc := 253) dX12_step_253 ?_
  obtain ⟨x26, ex26, hf⟩ := bnd_e hf
  refine X_tople ex26 ?_
  refine X_lstore_n (pc := 254) (i := 3) [(3, .long x26), (0, .ref (xP G 34)), (1, .long l1)] dX12_step_254 rfl (by decide) rfl ?_
  refine X_aload_n (pc := 255) (i := 0) 1 dX12_step_255 rfl rfl ?_
  refine X_aload_n (pc := 256) (i := 0) 1 dX12_step_256 rfl rfl ?_
  refine X_get (pc := 257) (a := 34) (ci := 11) (j := 28) (.int (I 34 28)) (sh_34 hT) (by decide) k_1256 rfl dX12_step_257 ?_
  by_cases c27 : (I 34 28) ≤ (0 : Int32)
  · replace hf := (if_pos c27).symm.trans hf
    refine X_if_le_t (pc := 260) 273 dX12_step_260 (by decide) c27 ?_
    refine X_aload_n (pc := 273) (i := 0) 1 dX12_step_273 rfl rfl ?_
    refine X_get (pc := 274) (a := 34) (ci := 11) (j := 28) (.int (I 34 28)) (sh_34 hT) (by decide) k_1256 rfl dX12_step_274 ?_
    refine X_i2l (pc := 277) dX12_step_277 ?_
    refine X_lload_n (pc := 278) (i := 3) 0 dX12_step_278 rfl rfl ?_
    refine X_lsub (pc := 279) dX12_step_279 ?_
    exact X_lvs [1] rfl (x_Md_step_L280 hT hf)
  · replace hf := (if_neg c27).symm.trans hf
    refine X_if_le_f (pc := 260) 273 dX12_step_260 (by decide) c27 ?_
    refine X_aload_n (pc := 263) (i := 0) 1 dX12_step_263 rfl rfl ?_
    refine X_get (pc := 264) (a := 34) (ci := 11) (j := 28) (.int (I 34 28)) (sh_34 hT) (by decide) k_1256 rfl dX12_step_264 ?_
    refine X_i2l (pc := 267) dX12_step_267 ?_
    refine X_lload_n (pc := 268) (i := 3) 0 dX12_step_268 rfl rfl ?_
    refine X_ladd (pc := 269) dX12_step_269 ?_
    refine X_goto (pc := 270) 280 dX12_step_270 (by decide) ?_
    exact X_lvs [1] rfl (x_Md_step_L280 hT hf)
theorem u_Md_step_L235 {S : List xSh} {l1 : Int64} {I : Nat → Nat → Int32} {L : Nat → Nat → Int64} {q : (Int32 × (Nat → Nat → Int32) × (Nat → Nat → Int64))} (hf : f_Md_step_L235 l1 I L = some q) : FR S [48, 50, 53, 54, 56, 4425, 4426, 4427, 4428, 4429, 4430, 4431, 4440, 4445, 4446, 4447] [] I q.2.1 L q.2.2 := by
  replace hf := (f_Md_step_L235.eq_1 _ _ _).symm.trans hf
  obtain ⟨x25, ex25, hf⟩ := bnd_e hf
  obtain ⟨x26, ex26, hf⟩ := bnd_e hf
  by_cases c27 : (I 34 28) ≤ (0 : Int32)
  · replace hf := (if_pos c27).symm.trans hf
    exact FR.tr (FR.fi FR.rf (by decide)) (u_Md_step_L280 hf) (by decide) (by decide)
  · replace hf := (if_neg c27).symm.trans hf
    exact FR.tr (FR.fi FR.rf (by decide)) (u_Md_step_L280 hf) (by decide) (by decide)
def f_Md_step_L211 (l1 : Int64) (I : (Nat → Nat → Int32)) (L : (Nat → Nat → Int64)) : Option (Int32 × (Nat → Nat → Int32) × (Nat → Nat → Int64)) := (if (I 34 29) = (1 : Int32) then (if (0 : Int32) < (I 34 27) then (some ((0 : Int32), I, L)) else (if (I 34 28) < (0 : Int32) then (f_Md_step_L235 l1 I L) else (some ((0 : Int32), I, L)))) else (some ((0 : Int32), I, L)))
set_option maxRecDepth 100000 in
set_option maxHeartbeats 4000000 in
theorem x_Md_step_L211 {G : xG} {S : List xSh} {Rf : Nat → Nat → Option Nat} (hT : xTM S Rf) {l1 : Int64} {I : Nat → Nat → Int32} {L : Nat → Nat → Int64} {q : (Int32 × (Nat → Nat → Int32) × (Nat → Nat → Int64))} (hf : f_Md_step_L211 l1 I L = some q) : X G 7 m_Md_step 211 [(0, .ref (xP G 34)), (1, .long l1)] [] (S, I, L, Rf) (some (.int q.1), (S, q.2.1, q.2.2, Rf)) := by
  replace hf := (f_Md_step_L211.eq_1 _ _ _).symm.trans hf
  refine X_aload_n (pc := 211) (i := 0) 0 dX12_step_211 rfl rfl ?_
  refine X_get (pc := 212) (a := 34) (ci := 11) (j := 29) (.int (I 34 29)) (sh_34 hT) (by decide) k_1257 rfl dX12_step_212 ?_
  refine X_iconst (pc := 215) (1 : Int32) dX12_step_215 (by decide) ?_
  by_cases c22 : (I 34 29) = (1 : Int32)
  · replace hf := (if_pos c22).symm.trans hf
    refine X_icmp_ne_f (pc := 216) 233 dX12_step_216 (by decide) c22 ?_
    refine X_aload_n (pc := 219) (i := 0) 0 dX12_step_219 rfl rfl ?_
    refine X_get (pc := 220) (a := 34) (ci := 11) (j := 27) (.int (I 34 27)) (sh_34 hT) (by decide) k_1255 rfl dX12_step_220 ?_
    by_cases c23 : (0 : Int32) < (I 34 27)
    · replace hf := (if_pos c23).symm.trans hf
      refine X_if_gt_t (pc := 223) 233 dX12_step_223 (by decide) c23 ?_
      refine X_iconst (pc := 233) (0 : Int32) dX12_step_233 (by decide) ?_
      cases hf
      exact X_zreturn (pc := 234) rfl (nar_b (by decide)) dX12_step_234
    · replace hf := (if_neg c23).symm.trans hf
      refine X_if_gt_f (pc := 223) 233 dX12_step_223 (by decide) c23 ?_
      refine X_aload_n (pc := 226) (i := 0) 0 dX12_step_226 rfl rfl ?_
      refine X_get (pc := 227) (a := 34) (ci := 11) (j := 28) (.int (I 34 28)) (sh_34 hT) (by decide) k_1256 rfl dX12_step_227 ?_
      by_cases c24 : (I 34 28) < (0 : Int32)
      · replace hf := (if_pos c24).symm.trans hf
        refine X_if_lt_t (pc := 230) 235 dX12_step_230 (by decide) c24 ?_
        exact X_lvs [0, 1] rfl (x_Md_step_L235 hT hf)
      · replace hf := (if_neg c24).symm.trans hf
        refine X_if_lt_f (pc := 230) 235 dX12_step_230 (by decide) c24 ?_
        refine X_iconst (pc := 233) (0 : Int32) dX12_step_233 (by decide) ?_
        cases hf
        exact X_zreturn (pc := 234) rfl (nar_b (by decide)) dX12_step_234
  · replace hf := (if_neg c22).symm.trans hf
    refine X_icmp_ne_t (pc := 216) 233 dX12_step_216 (by decide) c22 ?_
    refine X_iconst (pc := 233) (0 : Int32) dX12_step_233 (by decide) ?_
    cases hf
    exact X_zreturn (pc := 234) rfl (nar_b (by decide)) dX12_step_234
theorem u_Md_step_L211 {S : List xSh} {l1 : Int64} {I : Nat → Nat → Int32} {L : Nat → Nat → Int64} {q : (Int32 × (Nat → Nat → Int32) × (Nat → Nat → Int64))} (hf : f_Md_step_L211 l1 I L = some q) : FR S [48, 50, 53, 54, 56, 4425, 4426, 4427, 4428, 4429, 4430, 4431, 4440, 4445, 4446, 4447] [] I q.2.1 L q.2.2 := by
  replace hf := (f_Md_step_L211.eq_1 _ _ _).symm.trans hf
  by_cases c22 : (I 34 29) = (1 : Int32)
  · replace hf := (if_pos c22).symm.trans hf
    by_cases c23 : (0 : Int32) < (I 34 27)
    · replace hf := (if_pos c23).symm.trans hf
      cases hf
      exact FR.rf
    · replace hf := (if_neg c23).symm.trans hf
      by_cases c24 : (I 34 28) < (0 : Int32)
      · replace hf := (if_pos c24).symm.trans hf
        exact FR.tr FR.rf (u_Md_step_L235 hf) (by decide) (by decide)
      · replace hf := (if_neg c24).symm.trans hf
        cases hf
        exact FR.rf
  · replace hf := (if_neg c22).symm.trans hf
    cases hf
    exact FR.rf
def f_Md_step_L159 (I : (Nat → Nat → Int32)) (L : (Nat → Nat → Int64)) : Option (Int32 × (Nat → Nat → Int32) × (Nat → Nat → Int64)) := (bnd (jmax (I 34 31) (jabs (I 34 27))) fun x15 => ((f_Md_torqueNow (uI I 34 31 x15) L).bind fun q16 => (bnd (Int32.toInt64 q16) fun x18 => (if x18 ≤ (0 : Int64) then (some ((0 : Int32), (uI I 34 31 x15), L)) else (if (I 34 29) = (-1 : Int32) then (if (I 34 27) < (0 : Int32) then (f_Md_step_L211 x18 (uI I 34 31 x15) L) else (if (0 : Int32) < (I 34 28) then (f_Md_step_L235 x18 (uI I 34 31 x15) L) else (f_Md_step_L211 x18 (uI I 34 31 x15) L))) else (f_Md_step_L211 x18 (uI I 34 31 x15) L))))))
set_option maxRecDepth 100000 in
set_option maxHeartbeats 4000000 in
theorem x_Md_step_L159 {G : xG} {S : List xSh} {Rf : Nat → Nat → Option Nat} (hT : xTM S Rf) {I : Nat → Nat → Int32} {L : Nat → Nat → Int64} {q : (Int32 × (Nat → Nat → Int32) × (Nat → Nat → Int64))} (hf : f_Md_step_L159 I L = some q) : X G 7 m_Md_step 159 [(0, .ref (xP G 34))] [] (S, I, L, Rf) (some (.int q.1), (S, q.2.1, q.2.2, Rf)) := by
  replace hf := (f_Md_step_L159.eq_1 _ _).symm.trans hf
  refine X_aload_n (pc := 159) (i := 0) 0 dX12_step_159 rfl rfl ?_
  refine X_aload_n (pc := 160) (i := 0) 0 dX12_step_160 rfl rfl ?_
  refine X_get (pc := 161) (a := 34) (ci := 11) (j := 31) (.int (I 34 31)) (sh_34 hT) (by decide) k_1259 rfl dX12_step_161 ?_
  refine X_aload_n (pc := 164) (i := 0) 0 dX12_step_164 rfl rfl ?_
  refine X_get (pc := 165) (a := 34) (ci := 11) (j := 27) (.int (I 34 27)) (sh_34 hT) (by decide) k_1255 rfl dX12_step_165 ?_
  refine X_jabs (pc := 168) k_1596 (by decide) (Nat.le_of_ble_eq_true rfl) dX12_step_168 ?_
  refine X_jmax (pc := 171) k_1594 (by decide) (Nat.le_of_ble_eq_true rfl) dX12_step_171 ?_
  obtain ⟨x15, ex15, hf⟩ := bnd_e hf
  refine X_tope ex15 ?_
  refine X_puti (pc := 174) (a := 34) (ci := 11) (j := 31) 31 rfl false (sh_34 hT) (by decide) k_1259 rfl (fun h => by cases h) rfl dX12_step_174 ?_
  refine X_aload_n (pc := 177) (i := 0) 0 dX12_step_177 rfl rfl ?_
  obtain ⟨q16, c17, hf⟩ := bd_some hf
  refine X_invV_i (pc := 178) (c_Md_torqueNow hT c17) ok_Md_torqueNow (ci := 11) (sh_34 hT) k_1597 k_1599 k_54 nd_4 (by decide) rfl (Nat.le_of_ble_eq_true rfl) dX12_step_178 ?_
  refine X_i2l (pc := 181) dX12_step_181 ?_
  obtain ⟨x18, ex18, hf⟩ := bnd_e hf
  refine X_tople ex18 ?_
  refine X_lstore_n (pc := 182) (i := 1) [(1, .long x18), (0, .ref (xP G 34))] dX12_step_182 rfl (by decide) rfl ?_
  refine X_lload_n (pc := 183) (i := 1) 0 dX12_step_183 rfl rfl ?_
  refine X_lconst (pc := 184) (0 : Int64) dX12_step_184 (by decide) ?_
  refine X_lcmp (pc := 185) dX12_step_185 ?_
  by_cases c19 : x18 ≤ (0 : Int64)
  · replace hf := (if_pos c19).symm.trans hf
    refine X_if_le_t (pc := 186) 233 dX12_step_186 (by decide) ((lg_cmp_le _ _).mpr c19) ?_
    refine X_iconst (pc := 233) (0 : Int32) dX12_step_233 (by decide) ?_
    cases hf
    exact X_zreturn (pc := 234) rfl (nar_b (by decide)) dX12_step_234
  · replace hf := (if_neg c19).symm.trans hf
    refine X_if_le_f (pc := 186) 233 dX12_step_186 (by decide) (fun h => c19 ((lg_cmp_le _ _).mp h)) ?_
    refine X_aload_n (pc := 189) (i := 0) 1 dX12_step_189 rfl rfl ?_
    refine X_get (pc := 190) (a := 34) (ci := 11) (j := 29) (.int (I 34 29)) (sh_34 hT) (by decide) k_1257 rfl dX12_step_190 ?_
    refine X_iconst (pc := 193) (-1 : Int32) dX12_step_193 (by decide) ?_
    by_cases c20 : (I 34 29) = (-1 : Int32)
    · replace hf := (if_pos c20).symm.trans hf
      refine X_icmp_ne_f (pc := 194) 211 dX12_step_194 (by decide) c20 ?_
      refine X_aload_n (pc := 197) (i := 0) 1 dX12_step_197 rfl rfl ?_
      refine X_get (pc := 198) (a := 34) (ci := 11) (j := 27) (.int (I 34 27)) (sh_34 hT) (by decide) k_1255 rfl dX12_step_198 ?_
      by_cases c21 : (I 34 27) < (0 : Int32)
      · replace hf := (if_pos c21).symm.trans hf
        refine X_if_lt_t (pc := 201) 211 dX12_step_201 (by decide) c21 ?_
        exact X_lvs [1, 0] rfl (x_Md_step_L211 hT hf)
      · replace hf := (if_neg c21).symm.trans hf
        refine X_if_lt_f (pc := 201) 211 dX12_step_201 (by decide) c21 ?_
        refine X_aload_n (pc := 204) (i := 0) 1 dX12_step_204 rfl rfl ?_
        refine X_get (pc := 205) (a := 34) (ci := 11) (j := 28) (.int (I 34 28)) (sh_34 hT) (by decide) k_1256 rfl dX12_step_205 ?_
        by_cases c38 : (0 : Int32) < (I 34 28)
        · replace hf := (if_pos c38).symm.trans hf
          refine X_if_gt_t (pc := 208) 235 dX12_step_208 (by decide) c38 ?_
          exact X_lvs [1, 0] rfl (x_Md_step_L235 hT hf)
        · replace hf := (if_neg c38).symm.trans hf
          refine X_if_gt_f (pc := 208) 235 dX12_step_208 (by decide) c38 ?_
          exact X_lvs [1, 0] rfl (x_Md_step_L211 hT hf)
    · replace hf := (if_neg c20).symm.trans hf
      refine X_icmp_ne_t (pc := 194) 211 dX12_step_194 (by decide) c20 ?_
      exact X_lvs [1, 0] rfl (x_Md_step_L211 hT hf)
theorem u_Md_step_L159 {S : List xSh} {I : Nat → Nat → Int32} {L : Nat → Nat → Int64} {q : (Int32 × (Nat → Nat → Int32) × (Nat → Nat → Int64))} (hf : f_Md_step_L159 I L = some q) : FR S [48, 50, 53, 54, 56, 4425, 4426, 4427, 4428, 4429, 4430, 4431, 4440, 4445, 4446, 4447] [] I q.2.1 L q.2.2 := by
  replace hf := (f_Md_step_L159.eq_1 _ _).symm.trans hf
  obtain ⟨x15, ex15, hf⟩ := bnd_e hf
  obtain ⟨q16, c17, hf⟩ := bd_some hf
  obtain ⟨x18, ex18, hf⟩ := bnd_e hf
  by_cases c19 : x18 ≤ (0 : Int64)
  · replace hf := (if_pos c19).symm.trans hf
    cases hf
    exact (FR.fi FR.rf (by decide))
  · replace hf := (if_neg c19).symm.trans hf
    by_cases c20 : (I 34 29) = (-1 : Int32)
    · replace hf := (if_pos c20).symm.trans hf
      by_cases c21 : (I 34 27) < (0 : Int32)
      · replace hf := (if_pos c21).symm.trans hf
        exact FR.tr (FR.fi FR.rf (by decide)) (u_Md_step_L211 hf) (by decide) (by decide)
      · replace hf := (if_neg c21).symm.trans hf
        by_cases c38 : (0 : Int32) < (I 34 28)
        · replace hf := (if_pos c38).symm.trans hf
          exact FR.tr (FR.fi FR.rf (by decide)) (u_Md_step_L235 hf) (by decide) (by decide)
        · replace hf := (if_neg c38).symm.trans hf
          exact FR.tr (FR.fi FR.rf (by decide)) (u_Md_step_L211 hf) (by decide) (by decide)
    · replace hf := (if_neg c20).symm.trans hf
      exact FR.tr (FR.fi FR.rf (by decide)) (u_Md_step_L211 hf) (by decide) (by decide)
def f_Md_step_L136 (s1 : Int32) (I : (Nat → Nat → Int32)) (L : (Nat → Nat → Int64)) : Option (Int32 × (Nat → Nat → Int32) × (Nat → Nat → Int64)) := ((f_Md_setV (Int32.toInt64 (-(I 34 28))) (uI I 34 27 s1) L).bind fun q12 => (bnd ((q12.1 34 30) + (1 : Int32)) fun x14 => (f_Md_step_L159 (uI q12.1 34 30 x14) q12.2)))
set_option maxRecDepth 100000 in
set_option maxHeartbeats 4000000 in
theorem x_Md_step_L136 {G : xG} {S : List xSh} {Rf : Nat → Nat → Option Nat} (hT : xTM S Rf) {s1 : Int32} {I : Nat → Nat → Int32} {L : Nat → Nat → Int64} {q : (Int32 × (Nat → Nat → Int32) × (Nat → Nat → Int64))} (hf : f_Md_step_L136 s1 I L = some q) : X G 7 m_Md_step 136 [(0, .ref (xP G 34))] [.int s1, .ref (xP G 34)] (S, I, L, Rf) (some (.int q.1), (S, q.2.1, q.2.2, Rf)) := by
  replace hf := (f_Md_step_L136.eq_1 _ _ _).symm.trans hf
  refine X_puti (pc := 136) (a := 34) (ci := 11) (j := 27) 27 rfl false (sh_34 hT) (by decide) k_1255 rfl (fun h => by cases h) rfl dX12_step_136 ?_
  refine X_aload_n (pc := 139) (i := 0) 0 dX12_step_139 rfl rfl ?_
  refine X_aload_n (pc := 140) (i := 0) 0 dX12_step_140 rfl rfl ?_
  refine X_get (pc := 141) (a := 34) (ci := 11) (j := 28) (.int (I 34 28)) (sh_34 hT) (by decide) k_1256 rfl dX12_step_141 ?_
  refine X_ineg (pc := 144) dX12_step_144 ?_
  refine X_i2l (pc := 145) dX12_step_145 ?_
  obtain ⟨q12, c13, hf⟩ := bd_some hf
  refine X_invV_v (pc := 146) (c_Md_setV hT c13) ok_Md_setV (ci := 11) (sh_34 hT) k_1587 k_1589 k_53 nd_36 (by decide) rfl (Nat.le_of_ble_eq_true rfl) dX12_step_146 ?_
  refine X_aload_n (pc := 149) (i := 0) 0 dX12_step_149 rfl rfl ?_
  refine X_dup (pc := 150) dX12_step_150 rfl ?_
  refine X_get (pc := 151) (a := 34) (ci := 11) (j := 30) (.int (q12.1 34 30)) (sh_34 hT) (by decide) k_1258 rfl dX12_step_151 ?_
  refine X_iconst (pc := 154) (1 : Int32) dX12_step_154 (by decide) ?_
  refine X_iadd (pc := 155) dX12_step_155 ?_
  obtain ⟨x14, ex14, hf⟩ := bnd_e hf
  refine X_tope ex14 ?_
  refine X_puti (pc := 156) (a := 34) (ci := 11) (j := 30) 30 rfl false (sh_34 hT) (by decide) k_1258 rfl (fun h => by cases h) rfl dX12_step_156 ?_
  exact X_lvs [0] rfl (x_Md_step_L159 hT hf)
theorem u_Md_step_L136 {S : List xSh} {s1 : Int32} {I : Nat → Nat → Int32} {L : Nat → Nat → Int64} {q : (Int32 × (Nat → Nat → Int32) × (Nat → Nat → Int64))} (hf : f_Md_step_L136 s1 I L = some q) : FR S [48, 50, 53, 54, 56, 4425, 4426, 4427, 4428, 4429, 4430, 4431, 4440, 4445, 4446, 4447] [] I q.2.1 L q.2.2 := by
  replace hf := (f_Md_step_L136.eq_1 _ _ _).symm.trans hf
  obtain ⟨q12, c13, hf⟩ := bd_some hf
  obtain ⟨x14, ex14, hf⟩ := bnd_e hf
  exact FR.tr (FR.fi (FR.tr (FR.fi FR.rf (by decide)) (u_Md_setV (q := q12) c13) (by decide) (by decide)) (by decide)) (u_Md_step_L159 hf) (by decide) (by decide)
def f_Md_step_L112 (I : (Nat → Nat → Int32)) (L : (Nat → Nat → Int64)) : Option (Int32 × (Nat → Nat → Int32) × (Nat → Nat → Int64)) := (if (I 34 27) ≤ (I 34 13) then (f_Md_step_L136 (-(I 34 13)) I L) else (f_Md_step_L136 (I 34 13) I L))
set_option maxRecDepth 100000 in
set_option maxHeartbeats 4000000 in
theorem x_Md_step_L112 {G : xG} {S : List xSh} {Rf : Nat → Nat → Option Nat} (hT : xTM S Rf) {I : Nat → Nat → Int32} {L : Nat → Nat → Int64} {q : (Int32 × (Nat → Nat → Int32) × (Nat → Nat → Int64))} (hf : f_Md_step_L112 I L = some q) : X G 7 m_Md_step 112 [(0, .ref (xP G 34))] [] (S, I, L, Rf) (some (.int q.1), (S, q.2.1, q.2.2, Rf)) := by
  replace hf := (f_Md_step_L112.eq_1 _ _).symm.trans hf
  refine X_aload_n (pc := 112) (i := 0) 0 dX12_step_112 rfl rfl ?_
  refine X_aload_n (pc := 113) (i := 0) 0 dX12_step_113 rfl rfl ?_
  refine X_get (pc := 114) (a := 34) (ci := 11) (j := 27) (.int (I 34 27)) (sh_34 hT) (by decide) k_1255 rfl dX12_step_114 ?_
  refine X_aload_n (pc := 117) (i := 0) 0 dX12_step_117 rfl rfl ?_
  refine X_get (pc := 118) (a := 34) (ci := 11) (j := 13) (.int (I 34 13)) (sh_34 hT) (by decide) k_1241 rfl dX12_step_118 ?_
  by_cases c11 : (I 34 27) ≤ (I 34 13)
  · replace hf := (if_pos c11).symm.trans hf
    refine X_icmp_le_t (pc := 121) 131 dX12_step_121 (by decide) c11 ?_
    refine X_aload_n (pc := 131) (i := 0) 0 dX12_step_131 rfl rfl ?_
    refine X_get (pc := 132) (a := 34) (ci := 11) (j := 13) (.int (I 34 13)) (sh_34 hT) (by decide) k_1241 rfl dX12_step_132 ?_
    refine X_ineg (pc := 135) dX12_step_135 ?_
    exact X_lvs [0] rfl (x_Md_step_L136 hT hf)
  · replace hf := (if_neg c11).symm.trans hf
    refine X_icmp_le_f (pc := 121) 131 dX12_step_121 (by decide) c11 ?_
    refine X_aload_n (pc := 124) (i := 0) 0 dX12_step_124 rfl rfl ?_
    refine X_get (pc := 125) (a := 34) (ci := 11) (j := 13) (.int (I 34 13)) (sh_34 hT) (by decide) k_1241 rfl dX12_step_125 ?_
    refine X_goto (pc := 128) 136 dX12_step_128 (by decide) ?_
    exact X_lvs [0] rfl (x_Md_step_L136 hT hf)
theorem u_Md_step_L112 {S : List xSh} {I : Nat → Nat → Int32} {L : Nat → Nat → Int64} {q : (Int32 × (Nat → Nat → Int32) × (Nat → Nat → Int64))} (hf : f_Md_step_L112 I L = some q) : FR S [48, 50, 53, 54, 56, 4425, 4426, 4427, 4428, 4429, 4430, 4431, 4440, 4445, 4446, 4447] [] I q.2.1 L q.2.2 := by
  replace hf := (f_Md_step_L112.eq_1 _ _).symm.trans hf
  by_cases c11 : (I 34 27) ≤ (I 34 13)
  · replace hf := (if_pos c11).symm.trans hf
    exact FR.tr FR.rf (u_Md_step_L136 hf) (by decide) (by decide)
  · replace hf := (if_neg c11).symm.trans hf
    exact FR.tr FR.rf (u_Md_step_L136 hf) (by decide) (by decide)
def f_Md_step_L73 (s1 : Int64) (I : (Nat → Nat → Int32)) (L : (Nat → Nat → Int64)) : Option (Int32 × (Nat → Nat → Int32) × (Nat → Nat → Int64)) := ((f_Md_setV s1 I L).bind fun q7 => (bnd ((q7.1 34 27) + (q7.1 34 28)) fun x9 => (if (q7.1 34 13) < x9 then (f_Md_step_L112 (uI q7.1 34 27 x9) q7.2) else (if (-(q7.1 34 13)) ≤ x9 then (f_Md_step_L159 (uI q7.1 34 27 x9) q7.2) else (f_Md_step_L112 (uI q7.1 34 27 x9) q7.2)))))
set_option maxRecDepth 100000 in
set_option maxHeartbeats 4000000 in
theorem x_Md_step_L73 {G : xG} {S : List xSh} {Rf : Nat → Nat → Option Nat} (hT : xTM S Rf) {s1 : Int64} {I : Nat → Nat → Int32} {L : Nat → Nat → Int64} {q : (Int32 × (Nat → Nat → Int32) × (Nat → Nat → Int64))} (hf : f_Md_step_L73 s1 I L = some q) : X G 7 m_Md_step 73 [(0, .ref (xP G 34))] [.long s1, .ref (xP G 34)] (S, I, L, Rf) (some (.int q.1), (S, q.2.1, q.2.2, Rf)) := by
  replace hf := (f_Md_step_L73.eq_1 _ _ _).symm.trans hf
  obtain ⟨q7, c8, hf⟩ := bd_some hf
  refine X_invV_v (pc := 73) (c_Md_setV hT c8) ok_Md_setV (ci := 11) (sh_34 hT) k_1587 k_1589 k_53 nd_36 (by decide) rfl (Nat.le_of_ble_eq_true rfl) dX12_step_73 ?_
  refine X_aload_n (pc := 76) (i := 0) 0 dX12_step_76 rfl rfl ?_
  refine X_dup (pc := 77) dX12_step_77 rfl ?_
  refine X_get (pc := 78) (a := 34) (ci := 11) (j := 27) (.int (q7.1 34 27)) (sh_34 hT) (by decide) k_1255 rfl dX12_step_78 ?_
  refine X_aload_n (pc := 81) (i := 0) 0 dX12_step_81 rfl rfl ?_
  refine X_get (pc := 82) (a := 34) (ci := 11) (j := 28) (.int (q7.1 34 28)) (sh_34 hT) (by decide) k_1256 rfl dX12_step_82 ?_
  refine X_iadd (pc := 85) dX12_step_85 ?_
  obtain ⟨x9, ex9, hf⟩ := bnd_e hf
  refine X_tope ex9 ?_
  refine X_puti (pc := 86) (a := 34) (ci := 11) (j := 27) 27 rfl false (sh_34 hT) (by decide) k_1255 rfl (fun h => by cases h) rfl dX12_step_86 ?_
  refine X_aload_n (pc := 89) (i := 0) 0 dX12_step_89 rfl rfl ?_
  refine X_get (pc := 90) (a := 34) (ci := 11) (j := 27) (.int x9) (sh_34 hT) (by decide) k_1255 rfl dX12_step_90 ?_
  refine X_aload_n (pc := 93) (i := 0) 0 dX12_step_93 rfl rfl ?_
  refine X_get (pc := 94) (a := 34) (ci := 11) (j := 13) (.int (q7.1 34 13)) (sh_34 hT) (by decide) k_1241 rfl dX12_step_94 ?_
  by_cases c10 : (q7.1 34 13) < x9
  · replace hf := (if_pos c10).symm.trans hf
    refine X_icmp_gt_t (pc := 97) 112 dX12_step_97 (by decide) c10 ?_
    exact X_lvs [0] rfl (x_Md_step_L112 hT hf)
  · replace hf := (if_neg c10).symm.trans hf
    refine X_icmp_gt_f (pc := 97) 112 dX12_step_97 (by decide) c10 ?_
    refine X_aload_n (pc := 100) (i := 0) 0 dX12_step_100 rfl rfl ?_
    refine X_get (pc := 101) (a := 34) (ci := 11) (j := 27) (.int x9) (sh_34 hT) (by decide) k_1255 rfl dX12_step_101 ?_
    refine X_aload_n (pc := 104) (i := 0) 0 dX12_step_104 rfl rfl ?_
    refine X_get (pc := 105) (a := 34) (ci := 11) (j := 13) (.int (q7.1 34 13)) (sh_34 hT) (by decide) k_1241 rfl dX12_step_105 ?_
    refine X_ineg (pc := 108) dX12_step_108 ?_
    by_cases c39 : (-(q7.1 34 13)) ≤ x9
    · replace hf := (if_pos c39).symm.trans hf
      refine X_icmp_ge_t (pc := 109) 159 dX12_step_109 (by decide) c39 ?_
      exact X_lvs [0] rfl (x_Md_step_L159 hT hf)
    · replace hf := (if_neg c39).symm.trans hf
      refine X_icmp_ge_f (pc := 109) 159 dX12_step_109 (by decide) c39 ?_
      exact X_lvs [0] rfl (x_Md_step_L112 hT hf)
theorem u_Md_step_L73 {S : List xSh} {s1 : Int64} {I : Nat → Nat → Int32} {L : Nat → Nat → Int64} {q : (Int32 × (Nat → Nat → Int32) × (Nat → Nat → Int64))} (hf : f_Md_step_L73 s1 I L = some q) : FR S [48, 50, 53, 54, 56, 4425, 4426, 4427, 4428, 4429, 4430, 4431, 4440, 4445, 4446, 4447] [] I q.2.1 L q.2.2 := by
  replace hf := (f_Md_step_L73.eq_1 _ _ _).symm.trans hf
  obtain ⟨q7, c8, hf⟩ := bd_some hf
  obtain ⟨x9, ex9, hf⟩ := bnd_e hf
  by_cases c10 : (q7.1 34 13) < x9
  · replace hf := (if_pos c10).symm.trans hf
    exact FR.tr (FR.fi (FR.tr FR.rf (u_Md_setV (q := q7) c8) (by decide) (by decide)) (by decide)) (u_Md_step_L112 hf) (by decide) (by decide)
  · replace hf := (if_neg c10).symm.trans hf
    by_cases c39 : (-(q7.1 34 13)) ≤ x9
    · replace hf := (if_pos c39).symm.trans hf
      exact FR.tr (FR.fi (FR.tr FR.rf (u_Md_setV (q := q7) c8) (by decide) (by decide)) (by decide)) (u_Md_step_L159 hf) (by decide) (by decide)
    · replace hf := (if_neg c39).symm.trans hf
      exact FR.tr (FR.fi (FR.tr FR.rf (u_Md_setV (q := q7) c8) (by decide) (by decide)) (by decide)) (u_Md_step_L112 hf) (by decide) (by decide)
def f_Md_step (I : Nat → Nat → Int32) (L : Nat → Nat → Int64) : Option (Int32 × (Nat → Nat → Int32) × (Nat → Nat → Int64)) := (bnd ((I 34 26) + (1 : Int32)) fun x1 => (bnd ((Int32.toInt64 (I 34 28)) - (((Int32.toInt64 (I 34 27)) * (Int32.toInt64 (I 34 10))) >>> (Int32.toInt64 (16 : Int32) &&& 63))) fun x2 => ((f_Md_setV x2 (uI I 34 26 x1) L).bind fun q3 => (if (q3.1 34 28) ≤ (0 : Int32) then (bnd (jmin (0 : Int32) ((q3.1 34 28) + (q3.1 34 11))) fun x6 => (f_Md_step_L73 (Int32.toInt64 x6) q3.1 q3.2)) else (bnd (jmax (0 : Int32) ((q3.1 34 28) - (q3.1 34 11))) fun x40 => (f_Md_step_L73 (Int32.toInt64 x40) q3.1 q3.2))))))
set_option maxRecDepth 100000 in
set_option maxHeartbeats 4000000 in
theorem c_Md_step {G : xG} {S : List xSh} {Rf : Nat → Nat → Option Nat} (hT : xTM S Rf) {I : Nat → Nat → Int32} {L : Nat → Nat → Int64} {q : (Int32 × (Nat → Nat → Int32) × (Nat → Nat → Int64))} (hf : f_Md_step I L = some q) : CT G 7 m_Md_step [.ref (xP G 34)] (S, I, L, Rf) (some (.int q.1), (S, q.2.1, q.2.2, Rf)) := by
  refine CT.of (by decide +kernel) (Nat.le_of_ble_eq_true rfl) ?_
  show X G 7 m_Md_step 0 [(0, .ref (xP G 34))] [] (S, I, L, Rf) (some (.int q.1), (S, q.2.1, q.2.2, Rf))
  replace hf := (f_Md_step.eq_1 _ _).symm.trans hf
  refine X_aload_n (pc := 0) (i := 0) 0 dX12_step_0 rfl rfl ?_
  refine X_dup (pc := 1) dX12_step_1 rfl ?_
  refine X_get (pc := 2) (a := 34) (ci := 11) (j := 26) (.int (I 34 26)) (sh_34 hT) (by decide) k_1254 rfl dX12_step_2 ?_
  refine X_iconst (pc := 5) (1 : Int32) dX12_step_5 (by decide) ?_
  refine X_iadd (pc := 6) dX12_step_6 ?_
  obtain ⟨x1, ex1, hf⟩ := bnd_e hf
  refine X_tope ex1 ?_
  refine X_puti (pc := 7) (a := 34) (ci := 11) (j := 26) 26 rfl false (sh_34 hT) (by decide) k_1254 rfl (fun h => by cases h) rfl dX12_step_7 ?_
  refine X_aload_n (pc := 10) (i := 0) 0 dX12_step_10 rfl rfl ?_
  refine X_aload_n (pc := 11) (i := 0) 0 dX12_step_11 rfl rfl ?_
  refine X_get (pc := 12) (a := 34) (ci := 11) (j := 28) (.int (I 34 28)) (sh_34 hT) (by decide) k_1256 rfl dX12_step_12 ?_
  refine X_i2l (pc := 15) dX12_step_15 ?_
  refine X_aload_n (pc := 16) (i := 0) 0 dX12_step_16 rfl rfl ?_
  refine X_get (pc := 17) (a := 34) (ci := 11) (j := 27) (.int (I 34 27)) (sh_34 hT) (by decide) k_1255 rfl dX12_step_17 ?_
  refine X_i2l (pc := 20) dX12_step_20 ?_
  refine X_aload_n (pc := 21) (i := 0) 0 dX12_step_21 rfl rfl ?_
  refine X_get (pc := 22) (a := 34) (ci := 11) (j := 10) (.int (I 34 10)) (sh_34 hT) (by decide) k_1238 rfl dX12_step_22 ?_
  refine X_i2l (pc := 25) dX12_step_25 ?_
  refine X_lmul (pc := 26) dX12_step_26 ?_
  refine X_bipush (pc := 27) (16 : Int32) dX12_step_27 (by decide) ?_
  refine X_lshr (pc := 29) dX12_step_29 ?_
  refine X_lsub (pc := 30) dX12_step_30 ?_
  obtain ⟨x2, ex2, hf⟩ := bnd_e hf
  refine X_tople ex2 ?_
  obtain ⟨q3, c4, hf⟩ := bd_some hf
  refine X_invV_v (pc := 31) (c_Md_setV hT c4) ok_Md_setV (ci := 11) (sh_34 hT) k_1587 k_1589 k_53 nd_36 (by decide) rfl (Nat.le_of_ble_eq_true rfl) dX12_step_31 ?_
  refine X_aload_n (pc := 34) (i := 0) 0 dX12_step_34 rfl rfl ?_
  refine X_aload_n (pc := 35) (i := 0) 0 dX12_step_35 rfl rfl ?_
  refine X_get (pc := 36) (a := 34) (ci := 11) (j := 28) (.int (q3.1 34 28)) (sh_34 hT) (by decide) k_1256 rfl dX12_step_36 ?_
  by_cases c5 : (q3.1 34 28) ≤ (0 : Int32)
  · replace hf := (if_pos c5).symm.trans hf
    refine X_if_le_t (pc := 39) 59 dX12_step_39 (by decide) c5 ?_
    refine X_iconst (pc := 59) (0 : Int32) dX12_step_59 (by decide) ?_
    refine X_aload_n (pc := 60) (i := 0) 0 dX12_step_60 rfl rfl ?_
    refine X_get (pc := 61) (a := 34) (ci := 11) (j := 28) (.int (q3.1 34 28)) (sh_34 hT) (by decide) k_1256 rfl dX12_step_61 ?_
    refine X_aload_n (pc := 64) (i := 0) 0 dX12_step_64 rfl rfl ?_
    refine X_get (pc := 65) (a := 34) (ci := 11) (j := 11) (.int (q3.1 34 11)) (sh_34 hT) (by decide) k_1239 rfl dX12_step_65 ?_
    refine X_iadd (pc := 68) dX12_step_68 ?_
    refine X_jmin (pc := 69) k_1595 (by decide) (Nat.le_of_ble_eq_true rfl) dX12_step_69 ?_
    obtain ⟨x6, ex6, hf⟩ := bnd_e hf
    refine X_tope ex6 ?_
    refine X_i2l (pc := 72) dX12_step_72 ?_
    exact X_lvs [0] rfl (x_Md_step_L73 hT hf)
  · replace hf := (if_neg c5).symm.trans hf
    refine X_if_le_f (pc := 39) 59 dX12_step_39 (by decide) c5 ?_
    refine X_iconst (pc := 42) (0 : Int32) dX12_step_42 (by decide) ?_
    refine X_aload_n (pc := 43) (i := 0) 0 dX12_step_43 rfl rfl ?_
    refine X_get (pc := 44) (a := 34) (ci := 11) (j := 28) (.int (q3.1 34 28)) (sh_34 hT) (by decide) k_1256 rfl dX12_step_44 ?_
    refine X_aload_n (pc := 47) (i := 0) 0 dX12_step_47 rfl rfl ?_
    refine X_get (pc := 48) (a := 34) (ci := 11) (j := 11) (.int (q3.1 34 11)) (sh_34 hT) (by decide) k_1239 rfl dX12_step_48 ?_
    refine X_isub (pc := 51) dX12_step_51 ?_
    refine X_jmax (pc := 52) k_1594 (by decide) (Nat.le_of_ble_eq_true rfl) dX12_step_52 ?_
    obtain ⟨x40, ex40, hf⟩ := bnd_e hf
    refine X_tope ex40 ?_
    refine X_i2l (pc := 55) dX12_step_55 ?_
    refine X_goto (pc := 56) 73 dX12_step_56 (by decide) ?_
    exact X_lvs [0] rfl (x_Md_step_L73 hT hf)
theorem u_Md_step {S : List xSh} {I : Nat → Nat → Int32} {L : Nat → Nat → Int64} {q : (Int32 × (Nat → Nat → Int32) × (Nat → Nat → Int64))} (hf : f_Md_step I L = some q) : FR S [48, 50, 53, 54, 56, 4425, 4426, 4427, 4428, 4429, 4430, 4431, 4440, 4445, 4446, 4447] [] I q.2.1 L q.2.2 := by
  replace hf := (f_Md_step.eq_1 _ _).symm.trans hf
  obtain ⟨x1, ex1, hf⟩ := bnd_e hf
  obtain ⟨x2, ex2, hf⟩ := bnd_e hf
  obtain ⟨q3, c4, hf⟩ := bd_some hf
  by_cases c5 : (q3.1 34 28) ≤ (0 : Int32)
  · replace hf := (if_pos c5).symm.trans hf
    obtain ⟨x6, ex6, hf⟩ := bnd_e hf
    exact FR.tr (FR.tr (FR.fi FR.rf (by decide)) (u_Md_setV (q := q3) c4) (by decide) (by decide)) (u_Md_step_L73 hf) (by decide) (by decide)
  · replace hf := (if_neg c5).symm.trans hf
    obtain ⟨x40, ex40, hf⟩ := bnd_e hf
    exact FR.tr (FR.tr (FR.fi FR.rf (by decide)) (u_Md_setV (q := q3) c4) (by decide) (by decide)) (u_Md_step_L73 hf) (by decide) (by decide)

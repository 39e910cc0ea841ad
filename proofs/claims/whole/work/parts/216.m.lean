theorem dX12_within_0 : decode cX12_within 0 = .ok (.lload_n 0, 1) := by decide +kernel
theorem dX12_within_1 : decode cX12_within 1 = .ok (.lload_n 2, 1) := by decide +kernel
theorem dX12_within_2 : decode cX12_within 2 = .ok (.lcmp, 1) := by decide +kernel
theorem dX12_within_3 : decode cX12_within 3 = .ok (.ifCond .lt 14, 3) := by decide +kernel
theorem dX12_within_6 : decode cX12_within 6 = .ok (.lload_n 0, 1) := by decide +kernel
theorem dX12_within_7 : decode cX12_within 7 = .ok (.lload 4, 2) := by decide +kernel
theorem dX12_within_9 : decode cX12_within 9 = .ok (.lcmp, 1) := by decide +kernel
theorem dX12_within_10 : decode cX12_within 10 = .ok (.ifCond .gt 7, 3) := by decide +kernel
theorem dX12_within_13 : decode cX12_within 13 = .ok (.iconst 1, 1) := by decide +kernel
theorem dX12_within_14 : decode cX12_within 14 = .ok (.goto 4, 3) := by decide +kernel
theorem dX12_within_17 : decode cX12_within 17 = .ok (.iconst 0, 1) := by decide +kernel
theorem dX12_within_18 : decode cX12_within 18 = .ok (.ireturn, 1) := by decide +kernel
def f_Md_within (a0 : Int64) (a1 : Int64) (a2 : Int64) : Int32 := (if a0 < a1 then (0 : Int32) else (if a2 < a0 then (0 : Int32) else (1 : Int32)))
set_option maxRecDepth 100000 in
set_option maxHeartbeats 4000000 in
theorem c_Md_within {G : xG} {S : List xSh} {Rf : Nat → Nat → Option Nat} (hT : xTM S Rf) {a0 : Int64} {a1 : Int64} {a2 : Int64} {I : Nat → Nat → Int32} {L : Nat → Nat → Int64} {q : Int32} (hf : f_Md_within a0 a1 a2 = q) : CT G 1 m_Md_within [.long a0, .long a1, .long a2] (S, I, L, Rf) (some (.int q), (S, I, L, Rf)) := by
  refine CT.of (by decide +kernel) (Nat.le_of_ble_eq_true rfl) ?_
  show X G 1 m_Md_within 0 [(0, .long a0), (2, .long a1), (4, .long a2)] [] (S, I, L, Rf) (some (.int q), (S, I, L, Rf))
  replace hf := (f_Md_within.eq_1 _ _ _).symm.trans hf
  refine X_lload_n (pc := 0) (i := 0) 0 dX12_within_0 rfl rfl ?_
  refine X_lload_n (pc := 1) (i := 2) 1 dX12_within_1 rfl rfl ?_
  refine X_lcmp (pc := 2) dX12_within_2 ?_
  by_cases c1 : a0 < a1
  · replace hf := (if_pos c1).symm.trans hf
    refine X_if_lt_t (pc := 3) 17 dX12_within_3 (by decide) ((lg_cmp_lt _ _).mpr c1) ?_
    refine X_iconst (pc := 17) (0 : Int32) dX12_within_17 (by decide) ?_
    subst hf
    exact X_zreturn (pc := 18) rfl (nar_b (by decide)) dX12_within_18
  · replace hf := (if_neg c1).symm.trans hf
    refine X_if_lt_f (pc := 3) 17 dX12_within_3 (by decide) (fun h => c1 ((lg_cmp_lt _ _).mp h)) ?_
    refine X_lload_n (pc := 6) (i := 0) 0 dX12_within_6 rfl rfl ?_
    refine X_lload (pc := 7) 2 dX12_within_7 rfl ?_
    refine X_lcmp (pc := 9) dX12_within_9 ?_
    by_cases c2 : a2 < a0
    · replace hf := (if_pos c2).symm.trans hf
      refine X_if_gt_t (pc := 10) 17 dX12_within_10 (by decide) ((lg_cmp_gt _ _).mpr c2) ?_
      refine X_iconst (pc := 17) (0 : Int32) dX12_within_17 (by decide) ?_
      subst hf
      exact X_zreturn (pc := 18) rfl (nar_b (by decide)) dX12_within_18
    · replace hf := (if_neg c2).symm.trans hf
      refine X_if_gt_f (pc := 10) 17 dX12_within_10 (by decide) (fun h => c2 ((lg_cmp_gt _ _).mp h)) ?_
      refine X_iconst (pc := 13) (1 : Int32) dX12_within_13 (by decide) ?_
      refine X_goto (pc := 14) 18 dX12_within_14 (by decide) ?_
      subst hf
      exact X_zreturn (pc := 18) rfl (nar_b (by decide)) dX12_within_18
theorem dX12_isArbor_0 : decode cX12_isArbor 0 = .ok (.iload_n 1, 1) := by decide +kernel
theorem dX12_isArbor_1 : decode cX12_isArbor 1 = .ok (.i2l, 1) := by decide +kernel
theorem dX12_isArbor_2 : decode cX12_isArbor 2 = .ok (.lconst 0, 1) := by decide +kernel
theorem dX12_isArbor_3 : decode cX12_isArbor 3 = .ok (.aload_n 0, 1) := by decide +kernel
theorem dX12_isArbor_4 : decode cX12_isArbor 4 = .ok (.getfield 136, 3) := by decide +kernel
theorem dX12_isArbor_7 : decode cX12_isArbor 7 = .ok (.iconst 1, 1) := by decide +kernel
theorem dX12_isArbor_8 : decode cX12_isArbor 8 = .ok (.isub, 1) := by decide +kernel
theorem dX12_isArbor_9 : decode cX12_isArbor 9 = .ok (.i2l, 1) := by decide +kernel
theorem dX12_isArbor_10 : decode cX12_isArbor 10 = .ok (.invokestatic 140, 3) := by decide +kernel
theorem dX12_isArbor_13 : decode cX12_isArbor 13 = .ok (.ireturn, 1) := by decide +kernel
def f_Md_isArbor (a0 : Int32) (I : Nat → Nat → Int32) (L : Nat → Nat → Int64) : Option Int32 := (bnd (f_Md_within (Int32.toInt64 a0) (0 : Int64) (Int32.toInt64 ((I 34 0) - (1 : Int32)))) fun x1 => (if (x1 = (0 : Int32) ∨ x1 = (1 : Int32)) then (some x1) else none))
set_option maxRecDepth 100000 in
set_option maxHeartbeats 4000000 in
theorem c_Md_isArbor {G : xG} {S : List xSh} {Rf : Nat → Nat → Option Nat} (hT : xTM S Rf) {a0 : Int32} {I : Nat → Nat → Int32} {L : Nat → Nat → Int64} {q : Int32} (hf : f_Md_isArbor a0 I L = some q) : CT G 2 m_Md_isArbor [.ref (xP G 34), .int a0] (S, I, L, Rf) (some (.int q), (S, I, L, Rf)) := by
  refine CT.of (by decide +kernel) (Nat.le_of_ble_eq_true rfl) ?_
  show X G 2 m_Md_isArbor 0 [(0, .ref (xP G 34)), (1, .int a0)] [] (S, I, L, Rf) (some (.int q), (S, I, L, Rf))
  replace hf := (f_Md_isArbor.eq_1 _ _ _).symm.trans hf
  refine X_iload_n (pc := 0) (i := 1) 1 dX12_isArbor_0 rfl rfl ?_
  refine X_i2l (pc := 1) dX12_isArbor_1 ?_
  refine X_lconst (pc := 2) (0 : Int64) dX12_isArbor_2 (by decide) ?_
  refine X_aload_n (pc := 3) (i := 0) 0 dX12_isArbor_3 rfl rfl ?_
  refine X_get (pc := 4) (a := 34) (ci := 11) (j := 0) (.int (I 34 0)) (sh_34 hT) (by decide) k_1228 rfl dX12_isArbor_4 ?_
  refine X_iconst (pc := 7) (1 : Int32) dX12_isArbor_7 (by decide) ?_
  refine X_isub (pc := 8) dX12_isArbor_8 ?_
  refine X_i2l (pc := 9) dX12_isArbor_9 ?_
  refine X_invS_i (pc := 10) (c_Md_within hT rfl) ok_Md_within k_1482 k_1483 nd_33 (by decide) rfl (Nat.le_of_ble_eq_true rfl) dX12_isArbor_10 ?_
  obtain ⟨x1, ex1, hf⟩ := bnd_e hf
  refine X_tope ex1 ?_
  obtain ⟨c2, hf⟩ := gd_some hf
  cases hf
  exact X_zreturn (pc := 13) rfl (nar_b c2) dX12_isArbor_13
theorem dX12_link_0 : decode cX12_link 0 = .ok (.aload_n 0, 1) := by decide +kernel
theorem dX12_link_1 : decode cX12_link 1 = .ok (.getfield 178, 3) := by decide +kernel
theorem dX12_link_4 : decode cX12_link 4 = .ok (.ifCond .eq 6, 3) := by decide +kernel
theorem dX12_link_7 : decode cX12_link 7 = .ok (.bipush (-2), 2) := by decide +kernel
theorem dX12_link_9 : decode cX12_link 9 = .ok (.ireturn, 1) := by decide +kernel
theorem dX12_link_10 : decode cX12_link 10 = .ok (.aload_n 0, 1) := by decide +kernel
theorem dX12_link_11 : decode cX12_link 11 = .ok (.getfield 147, 3) := by decide +kernel
theorem dX12_link_14 : decode cX12_link 14 = .ok (.bipush 40, 2) := by decide +kernel
theorem dX12_link_16 : decode cX12_link 16 = .ok (.if_icmp .ne 6, 3) := by decide +kernel
theorem dX12_link_19 : decode cX12_link 19 = .ok (.bipush (-3), 2) := by decide +kernel
theorem dX12_link_21 : decode cX12_link 21 = .ok (.ireturn, 1) := by decide +kernel
theorem dX12_link_22 : decode cX12_link 22 = .ok (.aload_n 0, 1) := by decide +kernel
theorem dX12_link_23 : decode cX12_link 23 = .ok (.getfield 9, 3) := by decide +kernel
theorem dX12_link_26 : decode cX12_link 26 = .ok (.aload_n 0, 1) := by decide +kernel
theorem dX12_link_27 : decode cX12_link 27 = .ok (.getfield 147, 3) := by decide +kernel
theorem dX12_link_30 : decode cX12_link 30 = .ok (.iload_n 1, 1) := by decide +kernel
theorem dX12_link_31 : decode cX12_link 31 = .ok (.iastore, 1) := by decide +kernel
theorem dX12_link_32 : decode cX12_link 32 = .ok (.aload_n 0, 1) := by decide +kernel
theorem dX12_link_33 : decode cX12_link 33 = .ok (.getfield 13, 3) := by decide +kernel
theorem dX12_link_36 : decode cX12_link 36 = .ok (.aload_n 0, 1) := by decide +kernel
theorem dX12_link_37 : decode cX12_link 37 = .ok (.getfield 147, 3) := by decide +kernel
theorem dX12_link_40 : decode cX12_link 40 = .ok (.iload_n 2, 1) := by decide +kernel
theorem dX12_link_41 : decode cX12_link 41 = .ok (.iastore, 1) := by decide +kernel
theorem dX12_link_42 : decode cX12_link 42 = .ok (.aload_n 0, 1) := by decide +kernel
theorem dX12_link_43 : decode cX12_link 43 = .ok (.getfield 22, 3) := by decide +kernel
theorem dX12_link_46 : decode cX12_link 46 = .ok (.aload_n 0, 1) := by decide +kernel
theorem dX12_link_47 : decode cX12_link 47 = .ok (.getfield 147, 3) := by decide +kernel
theorem dX12_link_50 : decode cX12_link 50 = .ok (.iload_n 3, 1) := by decide +kernel
theorem dX12_link_51 : decode cX12_link 51 = .ok (.iastore, 1) := by decide +kernel
theorem dX12_link_52 : decode cX12_link 52 = .ok (.aload_n 0, 1) := by decide +kernel
theorem dX12_link_53 : decode cX12_link 53 = .ok (.getfield 16, 3) := by decide +kernel
theorem dX12_link_56 : decode cX12_link 56 = .ok (.aload_n 0, 1) := by decide +kernel
theorem dX12_link_57 : decode cX12_link 57 = .ok (.getfield 147, 3) := by decide +kernel
theorem dX12_link_60 : decode cX12_link 60 = .ok (.iload 4, 2) := by decide +kernel
theorem dX12_link_62 : decode cX12_link 62 = .ok (.iastore, 1) := by decide +kernel
theorem dX12_link_63 : decode cX12_link 63 = .ok (.aload_n 0, 1) := by decide +kernel
theorem dX12_link_64 : decode cX12_link 64 = .ok (.getfield 25, 3) := by decide +kernel
theorem dX12_link_67 : decode cX12_link 67 = .ok (.aload_n 0, 1) := by decide +kernel
theorem dX12_link_68 : decode cX12_link 68 = .ok (.getfield 147, 3) := by decide +kernel
theorem dX12_link_71 : decode cX12_link 71 = .ok (.iload 5, 2) := by decide +kernel
theorem dX12_link_73 : decode cX12_link 73 = .ok (.iastore, 1) := by decide +kernel
theorem dX12_link_74 : decode cX12_link 74 = .ok (.aload_n 0, 1) := by decide +kernel
theorem dX12_link_75 : decode cX12_link 75 = .ok (.getfield 19, 3) := by decide +kernel
theorem dX12_link_78 : decode cX12_link 78 = .ok (.aload_n 0, 1) := by decide +kernel
theorem dX12_link_79 : decode cX12_link 79 = .ok (.getfield 147, 3) := by decide +kernel
theorem dX12_link_82 : decode cX12_link 82 = .ok (.iload 6, 2) := by decide +kernel
theorem dX12_link_84 : decode cX12_link 84 = .ok (.iastore, 1) := by decide +kernel
theorem dX12_link_85 : decode cX12_link 85 = .ok (.aload_n 0, 1) := by decide +kernel
theorem dX12_link_86 : decode cX12_link 86 = .ok (.dup, 1) := by decide +kernel
theorem dX12_link_87 : decode cX12_link 87 = .ok (.getfield 147, 3) := by decide +kernel
theorem dX12_link_90 : decode cX12_link 90 = .ok (.iconst 1, 1) := by decide +kernel
theorem dX12_link_91 : decode cX12_link 91 = .ok (.iadd, 1) := by decide +kernel
theorem dX12_link_92 : decode cX12_link 92 = .ok (.putfield 147, 3) := by decide +kernel
theorem dX12_link_95 : decode cX12_link 95 = .ok (.aload_n 0, 1) := by decide +kernel
theorem dX12_link_96 : decode cX12_link 96 = .ok (.getfield 147, 3) := by decide +kernel
theorem dX12_link_99 : decode cX12_link 99 = .ok (.iconst 1, 1) := by decide +kernel
theorem dX12_link_100 : decode cX12_link 100 = .ok (.isub, 1) := by decide +kernel
theorem dX12_link_101 : decode cX12_link 101 = .ok (.ireturn, 1) := by decide +kernel
def f_Md_link (a0 : Int32) (a1 : Int32) (a2 : Int32) (a3 : Int32) (a4 : Int32) (a5 : Int32) (I : Nat → Nat → Int32) (L : Nat → Nat → Int64) : Option (Int32 × (Nat → Nat → Int32) × (Nat → Nat → Int64)) := (if (I 34 24) = (0 : Int32) then (if (I 34 1) = (40 : Int32) then (some ((-3 : Int32), I, L)) else (if (0 ≤ (I 34 1) ∧ (I 34 1) < (40 : Int32)) then (if (0 ≤ (I 34 1) ∧ (I 34 1) < (40 : Int32)) then (if (0 ≤ (I 34 1) ∧ (I 34 1) < (40 : Int32)) then (if (0 ≤ (I 34 1) ∧ (I 34 1) < (40 : Int32)) then (if (0 ≤ (I 34 1) ∧ (I 34 1) < (40 : Int32)) then (if (0 ≤ (I 34 1) ∧ (I 34 1) < (40 : Int32)) then (bnd ((I 34 1) + (1 : Int32)) fun x9 => (some ((x9 - (1 : Int32)), (uI (uI (uI (uI (uI (uI (uI I 35 ((I 34 1).toNatClampNeg) a0) 36 ((I 34 1).toNatClampNeg) a1) 39 ((I 34 1).toNatClampNeg) a2) 37 ((I 34 1).toNatClampNeg) a3) 40 ((I 34 1).toNatClampNeg) a4) 38 ((I 34 1).toNatClampNeg) a5) 34 1 x9), L))) else none) else none) else none) else none) else none) else none)) else (some ((-2 : Int32), I, L)))
set_option maxRecDepth 100000 in
set_option maxHeartbeats 4000000 in
theorem c_Md_link {G : xG} {S : List xSh} {Rf : Nat → Nat → Option Nat} (hT : xTM S Rf) {a0 : Int32} {a1 : Int32} {a2 : Int32} {a3 : Int32} {a4 : Int32} {a5 : Int32} {I : Nat → Nat → Int32} {L : Nat → Nat → Int64} {q : (Int32 × (Nat → Nat → Int32) × (Nat → Nat → Int64))} (hf : f_Md_link a0 a1 a2 a3 a4 a5 I L = some q) : CT G 1 m_Md_link [.ref (xP G 34), .int a0, .int a1, .int a2, .int a3, .int a4, .int a5] (S, I, L, Rf) (some (.int q.1), (S, q.2.1, q.2.2, Rf)) := by
  refine CT.of (by decide +kernel) (Nat.le_of_ble_eq_true rfl) ?_
  show X G 1 m_Md_link 0 [(0, .ref (xP G 34)), (1, .int a0), (2, .int a1), (3, .int a2), (4, .int a3), (5, .int a4), (6, .int a5)] [] (S, I, L, Rf) (some (.int q.1), (S, q.2.1, q.2.2, Rf))
  replace hf := (f_Md_link.eq_1 _ _ _ _ _ _ _ _).symm.trans hf
  refine X_aload_n (pc := 0) (i := 0) 0 dX12_link_0 rfl rfl ?_
  refine X_get (pc := 1) (a := 34) (ci := 11) (j := 24) (.int (I 34 24)) (sh_34 hT) (by decide) k_1252 rfl dX12_link_1 ?_
  by_cases c1 : (I 34 24) = (0 : Int32)
  · replace hf := (if_pos c1).symm.trans hf
    refine X_if_eq_t (pc := 4) 10 dX12_link_4 (by decide) c1 ?_
    refine X_aload_n (pc := 10) (i := 0) 0 dX12_link_10 rfl rfl ?_
    refine X_get (pc := 11) (a := 34) (ci := 11) (j := 1) (.int (I 34 1)) (sh_34 hT) (by decide) k_1229 rfl dX12_link_11 ?_
    refine X_bipush (pc := 14) (40 : Int32) dX12_link_14 (by decide) ?_
    by_cases c2 : (I 34 1) = (40 : Int32)
    · replace hf := (if_pos c2).symm.trans hf
      refine X_icmp_ne_f (pc := 16) 22 dX12_link_16 (by decide) c2 ?_
      refine X_bipush (pc := 19) (-3 : Int32) dX12_link_19 (by decide) ?_
      cases hf
      exact X_ireturn (pc := 21) rfl dX12_link_21
    · replace hf := (if_neg c2).symm.trans hf
      refine X_icmp_ne_t (pc := 16) 22 dX12_link_16 (by decide) c2 ?_
      refine X_aload_n (pc := 22) (i := 0) 0 dX12_link_22 rfl rfl ?_
      refine X_getr (pc := 23) (a := 34) (ci := 11) (j := 2) (c := 35) (sh_34 hT) (by decide) k_1230 (rf_34_2 hT) (fun _ h => h) dX12_link_23 ?_
      refine X_aload_n (pc := 26) (i := 0) 0 dX12_link_26 rfl rfl ?_
      refine X_get (pc := 27) (a := 34) (ci := 11) (j := 1) (.int (I 34 1)) (sh_34 hT) (by decide) k_1229 rfl dX12_link_27 ?_
      refine X_iload_n (pc := 30) (i := 1) 1 dX12_link_30 rfl rfl ?_
      obtain ⟨c3, hf⟩ := gd_some hf
      refine X_iastj (pc := 31) (j := ((I 34 1).toNatClampNeg)) (sh_35 hT) (vp_in_lit (N := 40) c3 (by decide)) rfl dX12_link_31 ?_
      refine X_aload_n (pc := 32) (i := 0) 0 dX12_link_32 rfl rfl ?_
      refine X_getr (pc := 33) (a := 34) (ci := 11) (j := 3) (c := 36) (sh_34 hT) (by decide) k_1231 (rf_34_3 hT) (fun _ h => h) dX12_link_33 ?_
      refine X_aload_n (pc := 36) (i := 0) 0 dX12_link_36 rfl rfl ?_
      refine X_get (pc := 37) (a := 34) (ci := 11) (j := 1) (.int (I 34 1)) (sh_34 hT) (by decide) k_1229 rfl dX12_link_37 ?_
      refine X_iload_n (pc := 40) (i := 2) 2 dX12_link_40 rfl rfl ?_
      obtain ⟨c4, hf⟩ := gd_some hf
      refine X_iastj (pc := 41) (j := ((I 34 1).toNatClampNeg)) (sh_36 hT) (vp_in_lit (N := 40) c4 (by decide)) rfl dX12_link_41 ?_
      refine X_aload_n (pc := 42) (i := 0) 0 dX12_link_42 rfl rfl ?_
      refine X_getr (pc := 43) (a := 34) (ci := 11) (j := 6) (c := 39) (sh_34 hT) (by decide) k_1234 (rf_34_6 hT) (fun _ h => h) dX12_link_43 ?_
      refine X_aload_n (pc := 46) (i := 0) 0 dX12_link_46 rfl rfl ?_
      refine X_get (pc := 47) (a := 34) (ci := 11) (j := 1) (.int (I 34 1)) (sh_34 hT) (by decide) k_1229 rfl dX12_link_47 ?_
      refine X_iload_n (pc := 50) (i := 3) 3 dX12_link_50 rfl rfl ?_
      obtain ⟨c5, hf⟩ := gd_some hf
      refine X_iastj (pc := 51) (j := ((I 34 1).toNatClampNeg)) (sh_39 hT) (vp_in_lit (N := 40) c5 (by decide)) rfl dX12_link_51 ?_
      refine X_aload_n (pc := 52) (i := 0) 0 dX12_link_52 rfl rfl ?_
      refine X_getr (pc := 53) (a := 34) (ci := 11) (j := 4) (c := 37) (sh_34 hT) (by decide) k_1232 (rf_34_4 hT) (fun _ h => h) dX12_link_53 ?_
      refine X_aload_n (pc := 56) (i := 0) 0 dX12_link_56 rfl rfl ?_
      refine X_get (pc := 57) (a := 34) (ci := 11) (j := 1) (.int (I 34 1)) (sh_34 hT) (by decide) k_1229 rfl dX12_link_57 ?_
      refine X_iload (pc := 60) 4 dX12_link_60 rfl ?_
      obtain ⟨c6, hf⟩ := gd_some hf
      refine X_iastj (pc := 62) (j := ((I 34 1).toNatClampNeg)) (sh_37 hT) (vp_in_lit (N := 40) c6 (by decide)) rfl dX12_link_62 ?_
      refine X_aload_n (pc := 63) (i := 0) 0 dX12_link_63 rfl rfl ?_
      refine X_getr (pc := 64) (a := 34) (ci := 11) (j := 7) (c := 40) (sh_34 hT) (by decide) k_1235 (rf_34_7 hT) (fun _ h => h) dX12_link_64 ?_
      refine X_aload_n (pc := 67) (i := 0) 0 dX12_link_67 rfl rfl ?_
      refine X_get (pc := 68) (a := 34) (ci := 11) (j := 1) (.int (I 34 1)) (sh_34 hT) (by decide) k_1229 rfl dX12_link_68 ?_
      refine X_iload (pc := 71) 5 dX12_link_71 rfl ?_
      obtain ⟨c7, hf⟩ := gd_some hf
      refine X_iastj (pc := 73) (j := ((I 34 1).toNatClampNeg)) (sh_40 hT) (vp_in_lit (N := 40) c7 (by decide)) rfl dX12_link_73 ?_
      refine X_aload_n (pc := 74) (i := 0) 0 dX12_link_74 rfl rfl ?_
      refine X_getr (pc := 75) (a := 34) (ci := 11) (j := 5) (c := 38) (sh_34 hT) (by decide) k_1233 (rf_34_5 hT) (fun _ h => h) dX12_link_75 ?_
      refine X_aload_n (pc := 78) (i := 0) 0 dX12_link_78 rfl rfl ?_
      refine X_get (pc := 79) (a := 34) (ci := 11) (j := 1) (.int (I 34 1)) (sh_34 hT) (by decide) k_1229 rfl dX12_link_79 ?_
      refine X_iload (pc := 82) 6 dX12_link_82 rfl ?_
      obtain ⟨c8, hf⟩ := gd_some hf
      refine X_iastj (pc := 84) (j := ((I 34 1).toNatClampNeg)) (sh_38 hT) (vp_in_lit (N := 40) c8 (by decide)) rfl dX12_link_84 ?_
      refine X_aload_n (pc := 85) (i := 0) 0 dX12_link_85 rfl rfl ?_
      refine X_dup (pc := 86) dX12_link_86 rfl ?_
      refine X_get (pc := 87) (a := 34) (ci := 11) (j := 1) (.int (I 34 1)) (sh_34 hT) (by decide) k_1229 rfl dX12_link_87 ?_
      refine X_iconst (pc := 90) (1 : Int32) dX12_link_90 (by decide) ?_
      refine X_iadd (pc := 91) dX12_link_91 ?_
      obtain ⟨x9, ex9, hf⟩ := bnd_e hf
      refine X_tope ex9 ?_
      refine X_puti (pc := 92) (a := 34) (ci := 11) (j := 1) 1 rfl false (sh_34 hT) (by decide) k_1229 rfl (fun h => by cases h) rfl dX12_link_92 ?_
      refine X_aload_n (pc := 95) (i := 0) 0 dX12_link_95 rfl rfl ?_
      refine X_get (pc := 96) (a := 34) (ci := 11) (j := 1) (.int x9) (sh_34 hT) (by decide) k_1229 rfl dX12_link_96 ?_
      refine X_iconst (pc := 99) (1 : Int32) dX12_link_99 (by decide) ?_
      refine X_isub (pc := 100) dX12_link_100 ?_
      cases hf
      exact X_ireturn (pc := 101) rfl dX12_link_101
  · replace hf := (if_neg c1).symm.trans hf
    refine X_if_eq_f (pc := 4) 10 dX12_link_4 (by decide) c1 ?_
    refine X_bipush (pc := 7) (-2 : Int32) dX12_link_7 (by decide) ?_
    cases hf
    exact X_ireturn (pc := 9) rfl dX12_link_9
theorem u_Md_link {S : List xSh} {a0 : Int32} {a1 : Int32} {a2 : Int32} {a3 : Int32} {a4 : Int32} {a5 : Int32} {I : Nat → Nat → Int32} {L : Nat → Nat → Int64} {q : (Int32 × (Nat → Nat → Int32) × (Nat → Nat → Int64))} (hf : f_Md_link a0 a1 a2 a3 a4 a5 I L = some q) : FR S [35, 36, 37, 38, 39, 40, 4401] [] I q.2.1 L q.2.2 := by
  replace hf := (f_Md_link.eq_1 _ _ _ _ _ _ _ _).symm.trans hf
  by_cases c1 : (I 34 24) = (0 : Int32)
  · replace hf := (if_pos c1).symm.trans hf
    by_cases c2 : (I 34 1) = (40 : Int32)
    · replace hf := (if_pos c2).symm.trans hf
      cases hf
      exact FR.rf
    · replace hf := (if_neg c2).symm.trans hf
      obtain ⟨c3, hf⟩ := gd_some hf
      obtain ⟨c4, hf⟩ := gd_some hf
      obtain ⟨c5, hf⟩ := gd_some hf
      obtain ⟨c6, hf⟩ := gd_some hf
      obtain ⟨c7, hf⟩ := gd_some hf
      obtain ⟨c8, hf⟩ := gd_some hf
      obtain ⟨x9, ex9, hf⟩ := bnd_e hf
      cases hf
      exact (FR.fi (FR.ai (FR.ai (FR.ai (FR.ai (FR.ai (FR.ai FR.rf (by decide)) (by decide)) (by decide)) (by decide)) (by decide)) (by decide)) (by decide))
  · replace hf := (if_neg c1).symm.trans hf
    cases hf
    exact FR.rf
theorem dX12_mesh_0 : decode cX12_mesh 0 = .ok (.aload_n 0, 1) := by decide +kernel
theorem dX12_mesh_1 : decode cX12_mesh 1 = .ok (.iload_n 1, 1) := by decide +kernel
theorem dX12_mesh_2 : decode cX12_mesh 2 = .ok (.invokevirtual 229, 3) := by decide +kernel
theorem dX12_mesh_5 : decode cX12_mesh 5 = .ok (.ifCond .eq 52, 3) := by decide +kernel
theorem dX12_mesh_8 : decode cX12_mesh 8 = .ok (.aload_n 0, 1) := by decide +kernel
theorem dX12_mesh_9 : decode cX12_mesh 9 = .ok (.iload_n 3, 1) := by decide +kernel
theorem dX12_mesh_10 : decode cX12_mesh 10 = .ok (.invokevirtual 229, 3) := by decide +kernel
theorem dX12_mesh_13 : decode cX12_mesh 13 = .ok (.ifCond .eq 44, 3) := by decide +kernel
theorem dX12_mesh_16 : decode cX12_mesh 16 = .ok (.iload_n 1, 1) := by decide +kernel
theorem dX12_mesh_17 : decode cX12_mesh 17 = .ok (.iload_n 3, 1) := by decide +kernel
theorem dX12_mesh_18 : decode cX12_mesh 18 = .ok (.if_icmp .eq 39, 3) := by decide +kernel
theorem dX12_mesh_21 : decode cX12_mesh 21 = .ok (.iload_n 2, 1) := by decide +kernel
theorem dX12_mesh_22 : decode cX12_mesh 22 = .ok (.i2l, 1) := by decide +kernel
theorem dX12_mesh_23 : decode cX12_mesh 23 = .ok (.lconst 1, 1) := by decide +kernel
theorem dX12_mesh_24 : decode cX12_mesh 24 = .ok (.ldc2_w 233, 3) := by decide +kernel
theorem dX12_mesh_27 : decode cX12_mesh 27 = .ok (.invokestatic 140, 3) := by decide +kernel
theorem dX12_mesh_30 : decode cX12_mesh 30 = .ok (.ifCond .eq 27, 3) := by decide +kernel
theorem dX12_mesh_33 : decode cX12_mesh 33 = .ok (.iload 4, 2) := by decide +kernel
theorem dX12_mesh_35 : decode cX12_mesh 35 = .ok (.i2l, 1) := by decide +kernel
theorem dX12_mesh_36 : decode cX12_mesh 36 = .ok (.lconst 1, 1) := by decide +kernel
theorem dX12_mesh_37 : decode cX12_mesh 37 = .ok (.ldc2_w 233, 3) := by decide +kernel
theorem dX12_mesh_40 : decode cX12_mesh 40 = .ok (.invokestatic 140, 3) := by decide +kernel
theorem dX12_mesh_43 : decode cX12_mesh 43 = .ok (.ifCond .eq 14, 3) := by decide +kernel
theorem dX12_mesh_46 : decode cX12_mesh 46 = .ok (.iload 5, 2) := by decide +kernel
theorem dX12_mesh_48 : decode cX12_mesh 48 = .ok (.i2l, 1) := by decide +kernel
theorem dX12_mesh_49 : decode cX12_mesh 49 = .ok (.lconst 0, 1) := by decide +kernel
theorem dX12_mesh_50 : decode cX12_mesh 50 = .ok (.lconst 1, 1) := by decide +kernel
theorem dX12_mesh_51 : decode cX12_mesh 51 = .ok (.invokestatic 140, 3) := by decide +kernel
theorem dX12_mesh_54 : decode cX12_mesh 54 = .ok (.ifCond .ne 5, 3) := by decide +kernel
theorem dX12_mesh_57 : decode cX12_mesh 57 = .ok (.iconst (-1), 1) := by decide +kernel
theorem dX12_mesh_58 : decode cX12_mesh 58 = .ok (.ireturn, 1) := by decide +kernel
theorem dX12_mesh_59 : decode cX12_mesh 59 = .ok (.aload_n 0, 1) := by decide +kernel
theorem dX12_mesh_60 : decode cX12_mesh 60 = .ok (.iload 5, 2) := by decide +kernel
theorem dX12_mesh_62 : decode cX12_mesh 62 = .ok (.iload_n 1, 1) := by decide +kernel
theorem dX12_mesh_63 : decode cX12_mesh 63 = .ok (.iload_n 2, 1) := by decide +kernel
theorem dX12_mesh_64 : decode cX12_mesh 64 = .ok (.iload_n 3, 1) := by decide +kernel
theorem dX12_mesh_65 : decode cX12_mesh 65 = .ok (.iload 4, 2) := by decide +kernel
theorem dX12_mesh_67 : decode cX12_mesh 67 = .ok (.iconst (-1), 1) := by decide +kernel
theorem dX12_mesh_68 : decode cX12_mesh 68 = .ok (.invokevirtual 235, 3) := by decide +kernel
theorem dX12_mesh_71 : decode cX12_mesh 71 = .ok (.ireturn, 1) := by decide +kernel
def f_Md_mesh (a0 : Int32) (a1 : Int32) (a2 : Int32) (a3 : Int32) (a4 : Int32) (I : Nat → Nat → Int32) (L : Nat → Nat → Int64) : Option (Int32 × (Nat → Nat → Int32) × (Nat → Nat → Int64)) := ((f_Md_isArbor a0 I L).bind fun q1 => (if q1 = (0 : Int32) then (some ((-1 : Int32), I, L)) else ((f_Md_isArbor a2 I L).bind fun q4 => (if q4 = (0 : Int32) then (some ((-1 : Int32), I, L)) else (if a0 = a2 then (some ((-1 : Int32), I, L)) else (bnd (f_Md_within (Int32.toInt64 a1) (1 : Int64) (200 : Int64)) fun x8 => (if x8 = (0 : Int32) then (some ((-1 : Int32), I, L)) else (bnd (f_Md_within (Int32.toInt64 a3) (1 : Int64) (200 : Int64)) fun x10 => (if x10 = (0 : Int32) then (some ((-1 : Int32), I, L)) else (bnd (f_Md_within (Int32.toInt64 a4) (0 : Int64) (1 : Int64)) fun x12 => (if x12 = (0 : Int32) then (some ((-1 : Int32), I, L)) else ((f_Md_link a4 a0 a1 a2 a3 (-1 : Int32) I L).bind fun q14 => (some (q14.1, q14.2.1, q14.2.2))))))))))))))
set_option maxRecDepth 100000 in
set_option maxHeartbeats 4000000 in
theorem c_Md_mesh {G : xG} {S : List xSh} {Rf : Nat → Nat → Option Nat} (hT : xTM S Rf) {a0 : Int32} {a1 : Int32} {a2 : Int32} {a3 : Int32} {a4 : Int32} {I : Nat → Nat → Int32} {L : Nat → Nat → Int64} {q : (Int32 × (Nat → Nat → Int32) × (Nat → Nat → Int64))} (hf : f_Md_mesh a0 a1 a2 a3 a4 I L = some q) : CT G 3 m_Md_mesh [.ref (xP G 34), .int a0, .int a1, .int a2, .int a3, .int a4] (S, I, L, Rf) (some (.int q.1), (S, q.2.1, q.2.2, Rf)) := by
  refine CT.of (by decide +kernel) (Nat.le_of_ble_eq_true rfl) ?_
  show X G 3 m_Md_mesh 0 [(0, .ref (xP G 34)), (1, .int a0), (2, .int a1), (3, .int a2), (4, .int a3), (5, .int a4)] [] (S, I, L, Rf) (some (.int q.1), (S, q.2.1, q.2.2, Rf))
  replace hf := (f_Md_mesh.eq_1 _ _ _ _ _ _ _).symm.trans hf
  refine X_aload_n (pc := 0) (i := 0) 0 dX12_mesh_0 rfl rfl ?_
  refine X_iload_n (pc := 1) (i := 1) 1 dX12_mesh_1 rfl rfl ?_
  obtain ⟨q1, c2, hf⟩ := bd_some hf
  refine X_invV_i (pc := 2) (c_Md_isArbor hT c2) ok_Md_isArbor (ci := 11) (sh_34 hT) k_1478 k_1480 k_43 nd_5 (by decide) rfl (Nat.le_of_ble_eq_true rfl) dX12_mesh_2 ?_
  by_cases c3 : q1 = (0 : Int32)
  · replace hf := (if_pos c3).symm.trans hf
    refine X_if_eq_t (pc := 5) 57 dX12_mesh_5 (by decide) c3 ?_
    refine X_iconst (pc := 57) (-1 : Int32) dX12_mesh_57 (by decide) ?_
    cases hf
    exact X_ireturn (pc := 58) rfl dX12_mesh_58
  · replace hf := (if_neg c3).symm.trans hf
    refine X_if_eq_f (pc := 5) 57 dX12_mesh_5 (by decide) c3 ?_
    refine X_aload_n (pc := 8) (i := 0) 0 dX12_mesh_8 rfl rfl ?_
    refine X_iload_n (pc := 9) (i := 3) 3 dX12_mesh_9 rfl rfl ?_
    obtain ⟨q4, c5, hf⟩ := bd_some hf
    refine X_invV_i (pc := 10) (c_Md_isArbor hT c5) ok_Md_isArbor (ci := 11) (sh_34 hT) k_1478 k_1480 k_43 nd_5 (by decide) rfl (Nat.le_of_ble_eq_true rfl) dX12_mesh_10 ?_
    by_cases c6 : q4 = (0 : Int32)
    · replace hf := (if_pos c6).symm.trans hf
      refine X_if_eq_t (pc := 13) 57 dX12_mesh_13 (by decide) c6 ?_
      refine X_iconst (pc := 57) (-1 : Int32) dX12_mesh_57 (by decide) ?_
      cases hf
      exact X_ireturn (pc := 58) rfl dX12_mesh_58
    · replace hf := (if_neg c6).symm.trans hf
      refine X_if_eq_f (pc := 13) 57 dX12_mesh_13 (by decide) c6 ?_
      refine X_iload_n (pc := 16) (i := 1) 1 dX12_mesh_16 rfl rfl ?_
      refine X_iload_n (pc := 17) (i := 3) 3 dX12_mesh_17 rfl rfl ?_
      by_cases c7 : a0 = a2
      · replace hf := (if_pos c7).symm.trans hf
        refine X_icmp_eq_t (pc := 18) 57 dX12_mesh_18 (by decide) c7 ?_
        refine X_iconst (pc := 57) (-1 : Int32) dX12_mesh_57 (by decide) ?_
        cases hf
        exact X_ireturn (pc := 58) rfl dX12_mesh_58
      · replace hf := (if_neg c7).symm.trans hf
        refine X_icmp_eq_f (pc := 18) 57 dX12_mesh_18 (by decide) c7 ?_
        refine X_iload_n (pc := 21) (i := 2) 2 dX12_mesh_21 rfl rfl ?_
        refine X_i2l (pc := 22) dX12_mesh_22 ?_
        refine X_lconst (pc := 23) (1 : Int64) dX12_mesh_23 (by decide) ?_
        refine X_ldc2 (pc := 24) (200 : Int64) k_1485 dX12_mesh_24 ?_
        refine X_invS_i (pc := 27) (c_Md_within hT rfl) ok_Md_within k_1482 k_1483 nd_33 (by decide) rfl (Nat.le_of_ble_eq_true rfl) dX12_mesh_27 ?_
        obtain ⟨x8, ex8, hf⟩ := bnd_e hf
        refine X_tope ex8 ?_
        by_cases c9 : x8 = (0 : Int32)
        · replace hf := (if_pos c9).symm.trans hf
          refine X_if_eq_t (pc := 30) 57 dX12_mesh_30 (by decide) c9 ?_
          refine X_iconst (pc := 57) (-1 : Int32) dX12_mesh_57 (by decide) ?_
          cases hf
          exact X_ireturn (pc := 58) rfl dX12_mesh_58
        · replace hf := (if_neg c9).symm.trans hf
          refine X_if_eq_f (pc := 30) 57 dX12_mesh_30 (by decide) c9 ?_
          refine X_iload (pc := 33) 4 dX12_mesh_33 rfl ?_
          refine X_i2l (pc := 35) dX12_mesh_35 ?_
          refine X_lconst (pc := 36) (1 : Int64) dX12_mesh_36 (by decide) ?_
          refine X_ldc2 (pc := 37) (200 : Int64) k_1485 dX12_mesh_37 ?_
          refine X_invS_i (pc := 40) (c_Md_within hT rfl) ok_Md_within k_1482 k_1483 nd_33 (by decide) rfl (Nat.le_of_ble_eq_true rfl) dX12_mesh_40 ?_
          obtain ⟨x10, ex10, hf⟩ := bnd_e hf
          refine X_tope ex10 ?_
          by_cases c11 : x10 = (0 : Int32)
          · replace hf := (if_pos c11).symm.trans hf
            refine X_if_eq_t (pc := 43) 57 dX12_mesh_43 (by decide) c11 ?_
            refine X_iconst (pc := 57) (-1 : Int32) dX12_mesh_57 (by decide) ?_
            cases hf
            exact X_ireturn (pc := 58) rfl dX12_mesh_58
          · replace hf := (if_neg c11).symm.trans hf
            refine X_if_eq_f (pc := 43) 57 dX12_mesh_43 (by decide) c11 ?_
            refine X_iload (pc := 46) 5 dX12_mesh_46 rfl ?_
            refine X_i2l (pc := 48) dX12_mesh_48 ?_
            refine X_lconst (pc := 49) (0 : Int64) dX12_mesh_49 (by decide) ?_
            refine X_lconst (pc := 50) (1 : Int64) dX12_mesh_50 (by decide) ?_
            refine X_invS_i (pc := 51) (c_Md_within hT rfl) ok_Md_within k_1482 k_1483 nd_33 (by decide) rfl (Nat.le_of_ble_eq_true rfl) dX12_mesh_51 ?_
            obtain ⟨x12, ex12, hf⟩ := bnd_e hf
            refine X_tope ex12 ?_
            by_cases c13 : x12 = (0 : Int32)
            · replace hf := (if_pos c13).symm.trans hf
              refine X_if_ne_f (pc := 54) 59 dX12_mesh_54 (by decide) c13 ?_
              refine X_iconst (pc := 57) (-1 : Int32) dX12_mesh_57 (by decide) ?_
              cases hf
              exact X_ireturn (pc := 58) rfl dX12_mesh_58
            · replace hf := (if_neg c13).symm.trans hf
              refine X_if_ne_t (pc := 54) 59 dX12_mesh_54 (by decide) c13 ?_
              refine X_aload_n (pc := 59) (i := 0) 0 dX12_mesh_59 rfl rfl ?_
              refine X_iload (pc := 60) 5 dX12_mesh_60 rfl ?_
              refine X_iload_n (pc := 62) (i := 1) 1 dX12_mesh_62 rfl rfl ?_
              refine X_iload_n (pc := 63) (i := 2) 2 dX12_mesh_63 rfl rfl ?_
              refine X_iload_n (pc := 64) (i := 3) 3 dX12_mesh_64 rfl rfl ?_
              refine X_iload (pc := 65) 4 dX12_mesh_65 rfl ?_
              refine X_iconst (pc := 67) (-1 : Int32) dX12_mesh_67 (by decide) ?_
              obtain ⟨q14, c15, hf⟩ := bd_some hf
              refine X_invV_i (pc := 68) (c_Md_link hT c15) ok_Md_link (ci := 11) (sh_34 hT) k_1486 k_1488 k_44 nd_12 (by decide) rfl (Nat.le_of_ble_eq_true rfl) dX12_mesh_68 ?_
              cases hf
              exact X_ireturn (pc := 71) rfl dX12_mesh_71
theorem u_Md_mesh {S : List xSh} {a0 : Int32} {a1 : Int32} {a2 : Int32} {a3 : Int32} {a4 : Int32} {I : Nat → Nat → Int32} {L : Nat → Nat → Int64} {q : (Int32 × (Nat → Nat → Int32) × (Nat → Nat → Int64))} (hf : f_Md_mesh a0 a1 a2 a3 a4 I L = some q) : FR S [35, 36, 37, 38, 39, 40, 4401] [] I q.2.1 L q.2.2 := by
  replace hf := (f_Md_mesh.eq_1 _ _ _ _ _ _ _).symm.trans hf
  obtain ⟨q1, c2, hf⟩ := bd_some hf
  by_cases c3 : q1 = (0 : Int32)
  · replace hf := (if_pos c3).symm.trans hf
    cases hf
    exact FR.rf
  · replace hf := (if_neg c3).symm.trans hf
    obtain ⟨q4, c5, hf⟩ := bd_some hf
    by_cases c6 : q4 = (0 : Int32)
    · replace hf := (if_pos c6).symm.trans hf
      cases hf
      exact FR.rf
    · replace hf := (if_neg c6).symm.trans hf
      by_cases c7 : a0 = a2
      · replace hf := (if_pos c7).symm.trans hf
        cases hf
        exact FR.rf
      · replace hf := (if_neg c7).symm.trans hf
        obtain ⟨x8, ex8, hf⟩ := bnd_e hf
        by_cases c9 : x8 = (0 : Int32)
        · replace hf := (if_pos c9).symm.trans hf
          cases hf
          exact FR.rf
        · replace hf := (if_neg c9).symm.trans hf
          obtain ⟨x10, ex10, hf⟩ := bnd_e hf
          by_cases c11 : x10 = (0 : Int32)
          · replace hf := (if_pos c11).symm.trans hf
            cases hf
            exact FR.rf
          · replace hf := (if_neg c11).symm.trans hf
            obtain ⟨x12, ex12, hf⟩ := bnd_e hf
            by_cases c13 : x12 = (0 : Int32)
            · replace hf := (if_pos c13).symm.trans hf
              cases hf
              exact FR.rf
            · replace hf := (if_neg c13).symm.trans hf
              obtain ⟨q14, c15, hf⟩ := bd_some hf
              cases hf
              exact (FR.tr FR.rf (u_Md_link (q := q14) c15) (by decide) (by decide))
theorem dX12_epicycle_0 : decode cX12_epicycle 0 = .ok (.aload_n 0, 1) := by decide +kernel
theorem dX12_epicycle_1 : decode cX12_epicycle 1 = .ok (.iload_n 1, 1) := by decide +kernel
theorem dX12_epicycle_2 : decode cX12_epicycle 2 = .ok (.invokevirtual 229, 3) := by decide +kernel
theorem dX12_epicycle_5 : decode cX12_epicycle 5 = .ok (.ifCond .eq 62, 3) := by decide +kernel
theorem dX12_epicycle_8 : decode cX12_epicycle 8 = .ok (.aload_n 0, 1) := by decide +kernel
theorem dX12_epicycle_9 : decode cX12_epicycle 9 = .ok (.iload_n 3, 1) := by decide +kernel
theorem dX12_epicycle_10 : decode cX12_epicycle 10 = .ok (.invokevirtual 229, 3) := by decide +kernel
theorem dX12_epicycle_13 : decode cX12_epicycle 13 = .ok (.ifCond .eq 54, 3) := by decide +kernel
theorem dX12_epicycle_16 : decode cX12_epicycle 16 = .ok (.aload_n 0, 1) := by decide +kernel
theorem dX12_epicycle_17 : decode cX12_epicycle 17 = .ok (.iload 5, 2) := by decide +kernel
theorem dX12_epicycle_19 : decode cX12_epicycle 19 = .ok (.invokevirtual 229, 3) := by decide +kernel
theorem dX12_epicycle_22 : decode cX12_epicycle 22 = .ok (.ifCond .eq 45, 3) := by decide +kernel
theorem dX12_epicycle_25 : decode cX12_epicycle 25 = .ok (.iload_n 1, 1) := by decide +kernel
theorem dX12_epicycle_26 : decode cX12_epicycle 26 = .ok (.iload_n 3, 1) := by decide +kernel
theorem dX12_epicycle_27 : decode cX12_epicycle 27 = .ok (.if_icmp .eq 40, 3) := by decide +kernel
theorem dX12_epicycle_30 : decode cX12_epicycle 30 = .ok (.iload_n 1, 1) := by decide +kernel
theorem dX12_epicycle_31 : decode cX12_epicycle 31 = .ok (.iload 5, 2) := by decide +kernel
theorem dX12_epicycle_33 : decode cX12_epicycle 33 = .ok (.if_icmp .eq 34, 3) := by decide +kernel
theorem dX12_epicycle_36 : decode cX12_epicycle 36 = .ok (.iload_n 3, 1) := by decide +kernel
theorem dX12_epicycle_37 : decode cX12_epicycle 37 = .ok (.iload 5, 2) := by decide +kernel
theorem dX12_epicycle_39 : decode cX12_epicycle 39 = .ok (.if_icmp .eq 28, 3) := by decide +kernel
theorem dX12_epicycle_42 : decode cX12_epicycle 42 = .ok (.iload_n 2, 1) := by decide +kernel
theorem dX12_epicycle_43 : decode cX12_epicycle 43 = .ok (.i2l, 1) := by decide +kernel
theorem dX12_epicycle_44 : decode cX12_epicycle 44 = .ok (.lconst 1, 1) := by decide +kernel
theorem dX12_epicycle_45 : decode cX12_epicycle 45 = .ok (.ldc2_w 233, 3) := by decide +kernel
theorem dX12_epicycle_48 : decode cX12_epicycle 48 = .ok (.invokestatic 140, 3) := by decide +kernel
theorem dX12_epicycle_51 : decode cX12_epicycle 51 = .ok (.ifCond .eq 16, 3) := by decide +kernel
theorem dX12_epicycle_54 : decode cX12_epicycle 54 = .ok (.iload 4, 2) := by decide +kernel
theorem dX12_epicycle_56 : decode cX12_epicycle 56 = .ok (.i2l, 1) := by decide +kernel
theorem dX12_epicycle_57 : decode cX12_epicycle 57 = .ok (.lconst 1, 1) := by decide +kernel
theorem dX12_epicycle_58 : decode cX12_epicycle 58 = .ok (.ldc2_w 233, 3) := by decide +kernel
theorem dX12_epicycle_61 : decode cX12_epicycle 61 = .ok (.invokestatic 140, 3) := by decide +kernel
theorem dX12_epicycle_64 : decode cX12_epicycle 64 = .ok (.ifCond .ne 5, 3) := by decide +kernel
theorem dX12_epicycle_67 : decode cX12_epicycle 67 = .ok (.iconst (-1), 1) := by decide +kernel
theorem dX12_epicycle_68 : decode cX12_epicycle 68 = .ok (.ireturn, 1) := by decide +kernel
theorem dX12_epicycle_69 : decode cX12_epicycle 69 = .ok (.aload_n 0, 1) := by decide +kernel
theorem dX12_epicycle_70 : decode cX12_epicycle 70 = .ok (.iconst 2, 1) := by decide +kernel
theorem dX12_epicycle_71 : decode cX12_epicycle 71 = .ok (.iload_n 1, 1) := by decide +kernel
theorem dX12_epicycle_72 : decode cX12_epicycle 72 = .ok (.iload_n 2, 1) := by decide +kernel
theorem dX12_epicycle_73 : decode cX12_epicycle 73 = .ok (.iload_n 3, 1) := by decide +kernel
theorem dX12_epicycle_74 : decode cX12_epicycle 74 = .ok (.iload 4, 2) := by decide +kernel
theorem dX12_epicycle_76 : decode cX12_epicycle 76 = .ok (.iload 5, 2) := by decide +kernel
theorem dX12_epicycle_78 : decode cX12_epicycle 78 = .ok (.invokevirtual 235, 3) := by decide +kernel
theorem dX12_epicycle_81 : decode cX12_epicycle 81 = .ok (.ireturn, 1) := by decide +kernel
def f_Md_epicycle (a0 : Int32) (a1 : Int32) (a2 : Int32) (a3 : Int32) (a4 : Int32) (I : Nat → Nat → Int32) (L : Nat → Nat → Int64) : Option (Int32 × (Nat → Nat → Int32) × (Nat → Nat → Int64)) := ((f_Md_isArbor a0 I L).bind fun q1 => (if q1 = (0 : Int32) then (some ((-1 : Int32), I, L)) else ((f_Md_isArbor a2 I L).bind fun q4 => (if q4 = (0 : Int32) then (some ((-1 : Int32), I, L)) else ((f_Md_isArbor a4 I L).bind fun q7 => (if q7 = (0 : Int32) then (some ((-1 : Int32), I, L)) else (if a0 = a2 then (some ((-1 : Int32), I, L)) else (if a0 = a4 then (some ((-1 : Int32), I, L)) else (if a2 = a4 then (some ((-1 : Int32), I, L)) else (bnd (f_Md_within (Int32.toInt64 a1) (1 : Int64) (200 : Int64)) fun x13 => (if x13 = (0 : Int32) then (some ((-1 : Int32), I, L)) else (bnd (f_Md_within (Int32.toInt64 a3) (1 : Int64) (200 : Int64)) fun x15 => (if x15 = (0 : Int32) then (some ((-1 : Int32), I, L)) else ((f_Md_link (2 : Int32) a0 a1 a2 a3 a4 I L).bind fun q17 => (some (q17.1, q17.2.1, q17.2.2))))))))))))))))
set_option maxRecDepth 100000 in
set_option maxHeartbeats 4000000 in
theorem c_Md_epicycle {G : xG} {S : List xSh} {Rf : Nat → Nat → Option Nat} (hT : xTM S Rf) {a0 : Int32} {a1 : Int32} {a2 : Int32} {a3 : Int32} {a4 : Int32} {I : Nat → Nat → Int32} {L : Nat → Nat → Int64} {q : (Int32 × (Nat → Nat → Int32) × (Nat → Nat → Int64))} (hf : f_Md_epicycle a0 a1 a2 a3 a4 I L = some q) : CT G 3 m_Md_epicycle [.ref (xP G 34), .int a0, .int a1, .int a2, .int a3, .int a4] (S, I, L, Rf) (some (.int q.1), (S, q.2.1, q.2.2, Rf)) := by
  refine CT.of (by decide +kernel) (Nat.le_of_ble_eq_true rfl) ?_
  show X G 3 m_Md_epicycle 0 [(0, .ref (xP G 34)), (1, .int a0), (2, .int a1), (3, .int a2), (4, .int a3), (5, .int a4)] [] (S, I, L, Rf) (some (.int q.1), (S, q.2.1, q.2.2, Rf))
  replace hf := (f_Md_epicycle.eq_1 _ _ _ _ _ _ _).symm.trans hf
  refine X_aload_n (pc := 0) (i := 0) 0 dX12_epicycle_0 rfl rfl ?_
  refine X_iload_n (pc := 1) (i := 1) 1 dX12_epicycle_1 rfl rfl ?_
  obtain ⟨q1, c2, hf⟩ := bd_some hf
  refine X_invV_i (pc := 2) (c_Md_isArbor hT c2) ok_Md_isArbor (ci := 11) (sh_34 hT) k_1478 k_1480 k_43 nd_5 (by decide) rfl (Nat.le_of_ble_eq_true rfl) dX12_epicycle_2 ?_
  by_cases c3 : q1 = (0 : Int32)
  · replace hf := (if_pos c3).symm.trans hf
    refine X_if_eq_t (pc := 5) 67 dX12_epicycle_5 (by decide) c3 ?_
    refine X_iconst (pc := 67) (-1 : Int32) dX12_epicycle_67 (by decide) ?_
    cases hf
    exact X_ireturn (pc := 68) rfl dX12_epicycle_68
  · replace hf := (if_neg c3).symm.trans hf
    refine X_if_eq_f (pc := 5) 67 dX12_epicycle_5 (by decide) c3 ?_
    refine X_aload_n (pc := 8) (i := 0) 0 dX12_epicycle_8 rfl rfl ?_
    refine X_iload_n (pc := 9) (i := 3) 3 dX12_epicycle_9 rfl rfl ?_
    obtain ⟨q4, c5, hf⟩ := bd_some hf
    refine X_invV_i (pc := 10) (c_Md_isArbor hT c5) ok_Md_isArbor (ci := 11) (sh_34 hT) k_1478 k_1480 k_43 nd_5 (by decide) rfl (Nat.le_of_ble_eq_true rfl) dX12_epicycle_10 ?_
    by_cases c6 : q4 = (0 : Int32)
    · replace hf := (if_pos c6).symm.trans hf
      refine X_if_eq_t (pc := 13) 67 dX12_epicycle_13 (by decide) c6 ?_
      refine X_iconst (pc := 67) (-1 : Int32) dX12_epicycle_67 (by decide) ?_
      cases hf
      exact X_ireturn (pc := 68) rfl dX12_epicycle_68
    · replace hf := (if_neg c6).symm.trans hf
      refine X_if_eq_f (pc := 13) 67 dX12_epicycle_13 (by decide) c6 ?_
      refine X_aload_n (pc := 16) (i := 0) 0 dX12_epicycle_16 rfl rfl ?_
      refine X_iload (pc := 17) 5 dX12_epicycle_17 rfl ?_
      obtain ⟨q7, c8, hf⟩ := bd_some hf
      refine X_invV_i (pc := 19) (c_Md_isArbor hT c8) ok_Md_isArbor (ci := 11) (sh_34 hT) k_1478 k_1480 k_43 nd_5 (by decide) rfl (Nat.le_of_ble_eq_true rfl) dX12_epicycle_19 ?_
      by_cases c9 : q7 = (0 : Int32)
      · replace hf := (if_pos c9).symm.trans hf
        refine X_if_eq_t (pc := 22) 67 dX12_epicycle_22 (by decide) c9 ?_
        refine X_iconst (pc := 67) (-1 : Int32) dX12_epicycle_67 (by decide) ?_
        cases hf
        exact X_ireturn (pc := 68) rfl dX12_epicycle_68
      · replace hf := (if_neg c9).symm.trans hf
        refine X_if_eq_f (pc := 22) 67 dX12_epicycle_22 (by decide) c9 ?_
        refine X_iload_n (pc := 25) (i := 1) 1 dX12_epicycle_25 rfl rfl ?_
        refine X_iload_n (pc := 26) (i := 3) 3 dX12_epicycle_26 rfl rfl ?_
        by_cases c10 : a0 = a2
        · replace hf := (if_pos c10).symm.trans hf
          refine X_icmp_eq_t (pc := 27) 67 dX12_epicycle_27 (by decide) c10 ?_
          refine X_iconst (pc := 67) (-1 : Int32) dX12_epicycle_67 (by decide) ?_
          cases hf
          exact X_ireturn (pc := 68) rfl dX12_epicycle_68
        · replace hf := (if_neg c10).symm.trans hf
          refine X_icmp_eq_f (pc := 27) 67 dX12_epicycle_27 (by decide) c10 ?_
          refine X_iload_n (pc := 30) (i := 1) 1 dX12_epicycle_30 rfl rfl ?_
          refine X_iload (pc := 31) 5 dX12_epicycle_31 rfl ?_
          by_cases c11 : a0 = a4
          · replace hf := (if_pos c11).symm.trans hf
            refine X_icmp_eq_t (pc := 33) 67 dX12_epicycle_33 (by decide) c11 ?_
            refine X_iconst (pc := 67) (-1 : Int32) dX12_epicycle_67 (by decide) ?_
            cases hf
            exact X_ireturn (pc := 68) rfl dX12_epicycle_68
          · replace hf := (if_neg c11).symm.trans hf
            refine X_icmp_eq_f (pc := 33) 67 dX12_epicycle_33 (by decide) c11 ?_
            refine X_iload_n (pc := 36) (i := 3) 3 dX12_epicycle_36 rfl rfl ?_
            refine X_iload (pc := 37) 5 dX12_epicycle_37 rfl ?_
            by_cases c12 : a2 = a4
            · replace hf := (if_pos c12).symm.trans hf
              refine X_icmp_eq_t (pc := 39) 67 dX12_epicycle_39 (by decide) c12 ?_
              refine X_iconst (pc := 67) (-1 : Int32) dX12_epicycle_67 (by decide) ?_
              cases hf
              exact X_ireturn (pc := 68) rfl dX12_epicycle_68
            · replace hf := (if_neg c12).symm.trans hf
              refine X_icmp_eq_f (pc := 39) 67 dX12_epicycle_39 (by decide) c12 ?_
              refine X_iload_n (pc := 42) (i := 2) 2 dX12_epicycle_42 rfl rfl ?_
              refine X_i2l (pc := 43) dX12_epicycle_43 ?_
              refine X_lconst (pc := 44) (1 : Int64) dX12_epicycle_44 (by decide) ?_
              refine X_ldc2 (pc := 45) (200 : Int64) k_1485 dX12_epicycle_45 ?_
              refine X_invS_i (pc := 48) (c_Md_within hT rfl) ok_Md_within k_1482 k_1483 nd_33 (by decide) rfl (Nat.le_of_ble_eq_true rfl) dX12_epicycle_48 ?_
              obtain ⟨x13, ex13, hf⟩ := bnd_e hf
              refine X_tope ex13 ?_
              by_cases c14 : x13 = (0 : Int32)
              · replace hf := (if_pos c14).symm.trans hf
                refine X_if_eq_t (pc := 51) 67 dX12_epicycle_51 (by decide) c14 ?_
                refine X_iconst (pc := 67) (-1 : Int32) dX12_epicycle_67 (by decide) ?_
                cases hf
                exact X_ireturn (pc := 68) rfl dX12_epicycle_68
              · replace hf := (if_neg c14).symm.trans hf
                refine X_if_eq_f (pc := 51) 67 dX12_epicycle_51 (by decide) c14 ?_
                refine X_iload (pc := 54) 4 dX12_epicycle_54 rfl ?_
                refine X_i2l (pc := 56) dX12_epicycle_56 ?_
                refine X_lconst (pc := 57) (1 : Int64) dX12_epicycle_57 (by decide) ?_
                refine X_ldc2 (pc := 58) (200 : Int64) k_1485 dX12_epicycle_58 ?_
                refine X_invS_i (pc := 61) (c_Md_within hT rfl) ok_Md_within k_1482 k_1483 nd_33 (by decide) rfl (Nat.le_of_ble_eq_true rfl) dX12_epicycle_61 ?_
                obtain ⟨x15, ex15, hf⟩ := bnd_e hf
                refine X_tope ex15 ?_
                by_cases c16 : x15 = (0 : Int32)
                · replace hf := (if_pos c16).symm.trans hf
                  refine X_if_ne_f (pc := 64) 69 dX12_epicycle_64 (by decide) c16 ?_
                  refine X_iconst (pc := 67) (-1 : Int32) dX12_epicycle_67 (by decide) ?_
                  cases hf
                  exact X_ireturn (pc := 68) rfl dX12_epicycle_68
                · replace hf := (if_neg c16).symm.trans hf
                  refine X_if_ne_t (pc := 64) 69 dX12_epicycle_64 (by decide) c16 ?_
                  refine X_aload_n (pc := 69) (i := 0) 0 dX12_epicycle_69 rfl rfl ?_
                  refine X_iconst (pc := 70) (2 : Int32) dX12_epicycle_70 (by decide) ?_
                  refine X_iload_n (pc := 71) (i := 1) 1 dX12_epicycle_71 rfl rfl ?_
                  refine X_iload_n (pc := 72) (i := 2) 2 dX12_epicycle_72 rfl rfl ?_
                  refine X_iload_n (pc := 73) (i := 3) 3 dX12_epicycle_73 rfl rfl ?_
                  refine X_iload (pc := 74) 4 dX12_epicycle_74 rfl ?_
                  refine X_iload (pc := 76) 5 dX12_epicycle_76 rfl ?_
                  obtain ⟨q17, c18, hf⟩ := bd_some hf
                  refine X_invV_i (pc := 78) (c_Md_link hT c18) ok_Md_link (ci := 11) (sh_34 hT) k_1486 k_1488 k_44 nd_12 (by decide) rfl (Nat.le_of_ble_eq_true rfl) dX12_epicycle_78 ?_
                  cases hf
                  exact X_ireturn (pc := 81) rfl dX12_epicycle_81
theorem u_Md_epicycle {S : List xSh} {a0 : Int32} {a1 : Int32} {a2 : Int32} {a3 : Int32} {a4 : Int32} {I : Nat → Nat → Int32} {L : Nat → Nat → Int64} {q : (Int32 × (Nat → Nat → Int32) × (Nat → Nat → Int64))} (hf : f_Md_epicycle a0 a1 a2 a3 a4 I L = some q) : FR S [35, 36, 37, 38, 39, 40, 4401] [] I q.2.1 L q.2.2 := by
  replace hf := (f_Md_epicycle.eq_1 _ _ _ _ _ _ _).symm.trans hf
  obtain ⟨q1, c2, hf⟩ := bd_some hf
  by_cases c3 : q1 = (0 : Int32)
  · replace hf := (if_pos c3).symm.trans hf
    cases hf
    exact FR.rf
  · replace hf := (if_neg c3).symm.trans hf
    obtain ⟨q4, c5, hf⟩ := bd_some hf
    by_cases c6 : q4 = (0 : Int32)
    · replace hf := (if_pos c6).symm.trans hf
      cases hf
      exact FR.rf
    · replace hf := (if_neg c6).symm.trans hf
      obtain ⟨q7, c8, hf⟩ := bd_some hf
      by_cases c9 : q7 = (0 : Int32)
      · replace hf := (if_pos c9).symm.trans hf
        cases hf
        exact FR.rf
      · replace hf := (if_neg c9).symm.trans hf
        by_cases c10 : a0 = a2
        · replace hf := (if_pos c10).symm.trans hf
          cases hf
          exact FR.rf
        · replace hf := (if_neg c10).symm.trans hf
          by_cases c11 : a0 = a4
          · replace hf := (if_pos c11).symm.trans hf
            cases hf
            exact FR.rf
          · replace hf := (if_neg c11).symm.trans hf
            by_cases c12 : a2 = a4
            · replace hf := (if_pos c12).symm.trans hf
              cases hf
              exact FR.rf
            · replace hf := (if_neg c12).symm.trans hf
              obtain ⟨x13, ex13, hf⟩ := bnd_e hf
              by_cases c14 : x13 = (0 : Int32)
              · replace hf := (if_pos c14).symm.trans hf
                cases hf
                exact FR.rf
              · replace hf := (if_neg c14).symm.trans hf
                obtain ⟨x15, ex15, hf⟩ := bnd_e hf
                by_cases c16 : x15 = (0 : Int32)
                · replace hf := (if_pos c16).symm.trans hf
                  cases hf
                  exact FR.rf
                · replace hf := (if_neg c16).symm.trans hf
                  obtain ⟨q17, c18, hf⟩ := bd_some hf
                  cases hf
                  exact (FR.tr FR.rf (u_Md_link (q := q17) c18) (by decide) (by decide))
theorem dX12_escape_0 : decode cX12_escape 0 = .ok (.aload_n 0, 1) := by decide +kernel
theorem dX12_escape_1 : decode cX12_escape 1 = .ok (.iload_n 1, 1) := by decide +kernel
theorem dX12_escape_2 : decode cX12_escape 2 = .ok (.invokevirtual 229, 3) := by decide +kernel
theorem dX12_escape_5 : decode cX12_escape 5 = .ok (.ifCond .eq 15, 3) := by decide +kernel
theorem dX12_escape_8 : decode cX12_escape 8 = .ok (.iload_n 2, 1) := by decide +kernel
theorem dX12_escape_9 : decode cX12_escape 9 = .ok (.i2l, 1) := by decide +kernel
theorem dX12_escape_10 : decode cX12_escape 10 = .ok (.lconst 1, 1) := by decide +kernel
theorem dX12_escape_11 : decode cX12_escape 11 = .ok (.ldc2_w 239, 3) := by decide +kernel
theorem dX12_escape_14 : decode cX12_escape 14 = .ok (.invokestatic 140, 3) := by decide +kernel
theorem dX12_escape_17 : decode cX12_escape 17 = .ok (.ifCond .ne 5, 3) := by decide +kernel
theorem dX12_escape_20 : decode cX12_escape 20 = .ok (.iconst (-1), 1) := by decide +kernel
theorem dX12_escape_21 : decode cX12_escape 21 = .ok (.ireturn, 1) := by decide +kernel
theorem dX12_escape_22 : decode cX12_escape 22 = .ok (.aload_n 0, 1) := by decide +kernel
theorem dX12_escape_23 : decode cX12_escape 23 = .ok (.getfield 178, 3) := by decide +kernel
theorem dX12_escape_26 : decode cX12_escape 26 = .ok (.ifCond .eq 6, 3) := by decide +kernel
theorem dX12_escape_29 : decode cX12_escape 29 = .ok (.bipush (-2), 2) := by decide +kernel
theorem dX12_escape_31 : decode cX12_escape 31 = .ok (.ireturn, 1) := by decide +kernel
theorem dX12_escape_32 : decode cX12_escape 32 = .ok (.aload_n 0, 1) := by decide +kernel
theorem dX12_escape_33 : decode cX12_escape 33 = .ok (.iload_n 1, 1) := by decide +kernel
theorem dX12_escape_34 : decode cX12_escape 34 = .ok (.putfield 150, 3) := by decide +kernel
theorem dX12_escape_37 : decode cX12_escape 37 = .ok (.aload_n 0, 1) := by decide +kernel
theorem dX12_escape_38 : decode cX12_escape 38 = .ok (.iload_n 2, 1) := by decide +kernel
theorem dX12_escape_39 : decode cX12_escape 39 = .ok (.putfield 153, 3) := by decide +kernel
theorem dX12_escape_42 : decode cX12_escape 42 = .ok (.iconst 0, 1) := by decide +kernel
theorem dX12_escape_43 : decode cX12_escape 43 = .ok (.ireturn, 1) := by decide +kernel
def f_Md_escape (a0 : Int32) (a1 : Int32) (I : Nat → Nat → Int32) (L : Nat → Nat → Int64) : Option (Int32 × (Nat → Nat → Int32) × (Nat → Nat → Int64)) := ((f_Md_isArbor a0 I L).bind fun q1 => (if q1 = (0 : Int32) then (some ((-1 : Int32), I, L)) else (bnd (f_Md_within (Int32.toInt64 a1) (1 : Int64) (60 : Int64)) fun x4 => (if x4 = (0 : Int32) then (some ((-1 : Int32), I, L)) else (if (I 34 24) = (0 : Int32) then (some ((0 : Int32), (uI (uI I 34 8 a0) 34 9 a1), L)) else (some ((-2 : Int32), I, L)))))))
set_option maxRecDepth 100000 in
set_option maxHeartbeats 4000000 in
theorem c_Md_escape {G : xG} {S : List xSh} {Rf : Nat → Nat → Option Nat} (hT : xTM S Rf) {a0 : Int32} {a1 : Int32} {I : Nat → Nat → Int32} {L : Nat → Nat → Int64} {q : (Int32 × (Nat → Nat → Int32) × (Nat → Nat → Int64))} (hf : f_Md_escape a0 a1 I L = some q) : CT G 3 m_Md_escape [.ref (xP G 34), .int a0, .int a1] (S, I, L, Rf) (some (.int q.1), (S, q.2.1, q.2.2, Rf)) := by
  refine CT.of (by decide +kernel) (Nat.le_of_ble_eq_true rfl) ?_
  show X G 3 m_Md_escape 0 [(0, .ref (xP G 34)), (1, .int a0), (2, .int a1)] [] (S, I, L, Rf) (some (.int q.1), (S, q.2.1, q.2.2, Rf))
  replace hf := (f_Md_escape.eq_1 _ _ _ _).symm.trans hf
  refine X_aload_n (pc := 0) (i := 0) 0 dX12_escape_0 rfl rfl ?_
  refine X_iload_n (pc := 1) (i := 1) 1 dX12_escape_1 rfl rfl ?_
  obtain ⟨q1, c2, hf⟩ := bd_some hf
  refine X_invV_i (pc := 2) (c_Md_isArbor hT c2) ok_Md_isArbor (ci := 11) (sh_34 hT) k_1478 k_1480 k_43 nd_5 (by decide) rfl (Nat.le_of_ble_eq_true rfl) dX12_escape_2 ?_
  by_cases c3 : q1 = (0 : Int32)
  · replace hf := (if_pos c3).symm.trans hf
    refine X_if_eq_t (pc := 5) 20 dX12_escape_5 (by decide) c3 ?_
    refine X_iconst (pc := 20) (-1 : Int32) dX12_escape_20 (by decide) ?_
    cases hf
    exact X_ireturn (pc := 21) rfl dX12_escape_21
  · replace hf := (if_neg c3).symm.trans hf
    refine X_if_eq_f (pc := 5) 20 dX12_escape_5 (by decide) c3 ?_
    refine X_iload_n (pc := 8) (i := 2) 2 dX12_escape_8 rfl rfl ?_
    refine X_i2l (pc := 9) dX12_escape_9 ?_
    refine X_lconst (pc := 10) (1 : Int64) dX12_escape_10 (by decide) ?_
    refine X_ldc2 (pc := 11) (60 : Int64) k_1498 dX12_escape_11 ?_
    refine X_invS_i (pc := 14) (c_Md_within hT rfl) ok_Md_within k_1482 k_1483 nd_33 (by decide) rfl (Nat.le_of_ble_eq_true rfl) dX12_escape_14 ?_
    obtain ⟨x4, ex4, hf⟩ := bnd_e hf
    refine X_tope ex4 ?_
    by_cases c5 : x4 = (0 : Int32)
    · replace hf := (if_pos c5).symm.trans hf
      refine X_if_ne_f (pc := 17) 22 dX12_escape_17 (by decide) c5 ?_
      refine X_iconst (pc := 20) (-1 : Int32) dX12_escape_20 (by decide) ?_
      cases hf
      exact X_ireturn (pc := 21) rfl dX12_escape_21
    · replace hf := (if_neg c5).symm.trans hf
      refine X_if_ne_t (pc := 17) 22 dX12_escape_17 (by decide) c5 ?_
      refine X_aload_n (pc := 22) (i := 0) 0 dX12_escape_22 rfl rfl ?_
      refine X_get (pc := 23) (a := 34) (ci := 11) (j := 24) (.int (I 34 24)) (sh_34 hT) (by decide) k_1252 rfl dX12_escape_23 ?_
      by_cases c6 : (I 34 24) = (0 : Int32)
      · replace hf := (if_pos c6).symm.trans hf
        refine X_if_eq_t (pc := 26) 32 dX12_escape_26 (by decide) c6 ?_
        refine X_aload_n (pc := 32) (i := 0) 0 dX12_escape_32 rfl rfl ?_
        refine X_iload_n (pc := 33) (i := 1) 1 dX12_escape_33 rfl rfl ?_
        refine X_puti (pc := 34) (a := 34) (ci := 11) (j := 8) 8 rfl false (sh_34 hT) (by decide) k_1236 rfl (fun h => by cases h) rfl dX12_escape_34 ?_
        refine X_aload_n (pc := 37) (i := 0) 0 dX12_escape_37 rfl rfl ?_
        refine X_iload_n (pc := 38) (i := 2) 2 dX12_escape_38 rfl rfl ?_
        refine X_puti (pc := 39) (a := 34) (ci := 11) (j := 9) 9 rfl false (sh_34 hT) (by decide) k_1237 rfl (fun h => by cases h) rfl dX12_escape_39 ?_
        refine X_iconst (pc := 42) (0 : Int32) dX12_escape_42 (by decide) ?_
        cases hf
        exact X_ireturn (pc := 43) rfl dX12_escape_43
      · replace hf := (if_neg c6).symm.trans hf
        refine X_if_eq_f (pc := 26) 32 dX12_escape_26 (by decide) c6 ?_
        refine X_bipush (pc := 29) (-2 : Int32) dX12_escape_29 (by decide) ?_
        cases hf
        exact X_ireturn (pc := 31) rfl dX12_escape_31
theorem u_Md_escape {S : List xSh} {a0 : Int32} {a1 : Int32} {I : Nat → Nat → Int32} {L : Nat → Nat → Int64} {q : (Int32 × (Nat → Nat → Int32) × (Nat → Nat → Int64))} (hf : f_Md_escape a0 a1 I L = some q) : FR S [4408, 4409] [] I q.2.1 L q.2.2 := by
  replace hf := (f_Md_escape.eq_1 _ _ _ _).symm.trans hf
  obtain ⟨q1, c2, hf⟩ := bd_some hf
  by_cases c3 : q1 = (0 : Int32)
  · replace hf := (if_pos c3).symm.trans hf
    cases hf
    exact FR.rf
  · replace hf := (if_neg c3).symm.trans hf
    obtain ⟨x4, ex4, hf⟩ := bnd_e hf
    by_cases c5 : x4 = (0 : Int32)
    · replace hf := (if_pos c5).symm.trans hf
      cases hf
      exact FR.rf
    · replace hf := (if_neg c5).symm.trans hf
      by_cases c6 : (I 34 24) = (0 : Int32)
      · replace hf := (if_pos c6).symm.trans hf
        cases hf
        exact (FR.fi (FR.fi FR.rf (by decide)) (by decide))
      · replace hf := (if_neg c6).symm.trans hf
        cases hf
        exact FR.rf
theorem dX12_balance_0 : decode cX12_balance 0 = .ok (.iload_n 1, 1) := by decide +kernel
theorem dX12_balance_1 : decode cX12_balance 1 = .ok (.i2l, 1) := by decide +kernel
theorem dX12_balance_2 : decode cX12_balance 2 = .ok (.lconst 1, 1) := by decide +kernel
theorem dX12_balance_3 : decode cX12_balance 3 = .ok (.ldc2_w 241, 3) := by decide +kernel
theorem dX12_balance_6 : decode cX12_balance 6 = .ok (.invokestatic 140, 3) := by decide +kernel
theorem dX12_balance_9 : decode cX12_balance 9 = .ok (.ifCond .eq 40, 3) := by decide +kernel
theorem dX12_balance_12 : decode cX12_balance 12 = .ok (.iload_n 2, 1) := by decide +kernel
theorem dX12_balance_13 : decode cX12_balance 13 = .ok (.i2l, 1) := by decide +kernel
theorem dX12_balance_14 : decode cX12_balance 14 = .ok (.lconst 0, 1) := by decide +kernel
theorem dX12_balance_15 : decode cX12_balance 15 = .ok (.ldc2_w 243, 3) := by decide +kernel
theorem dX12_balance_18 : decode cX12_balance 18 = .ok (.invokestatic 140, 3) := by decide +kernel
theorem dX12_balance_21 : decode cX12_balance 21 = .ok (.ifCond .eq 28, 3) := by decide +kernel
theorem dX12_balance_24 : decode cX12_balance 24 = .ok (.iload_n 3, 1) := by decide +kernel
theorem dX12_balance_25 : decode cX12_balance 25 = .ok (.i2l, 1) := by decide +kernel
theorem dX12_balance_26 : decode cX12_balance 26 = .ok (.lconst 0, 1) := by decide +kernel
theorem dX12_balance_27 : decode cX12_balance 27 = .ok (.ldc2_w 245, 3) := by decide +kernel
theorem dX12_balance_30 : decode cX12_balance 30 = .ok (.invokestatic 140, 3) := by decide +kernel
theorem dX12_balance_33 : decode cX12_balance 33 = .ok (.ifCond .eq 16, 3) := by decide +kernel
theorem dX12_balance_36 : decode cX12_balance 36 = .ok (.iload 4, 2) := by decide +kernel
theorem dX12_balance_38 : decode cX12_balance 38 = .ok (.i2l, 1) := by decide +kernel
theorem dX12_balance_39 : decode cX12_balance 39 = .ok (.lconst 1, 1) := by decide +kernel
theorem dX12_balance_40 : decode cX12_balance 40 = .ok (.ldc2_w 247, 3) := by decide +kernel
theorem dX12_balance_43 : decode cX12_balance 43 = .ok (.invokestatic 140, 3) := by decide +kernel
theorem dX12_balance_46 : decode cX12_balance 46 = .ok (.ifCond .ne 5, 3) := by decide +kernel
theorem dX12_balance_49 : decode cX12_balance 49 = .ok (.iconst (-1), 1) := by decide +kernel
theorem dX12_balance_50 : decode cX12_balance 50 = .ok (.ireturn, 1) := by decide +kernel
theorem dX12_balance_51 : decode cX12_balance 51 = .ok (.aload_n 0, 1) := by decide +kernel
theorem dX12_balance_52 : decode cX12_balance 52 = .ok (.getfield 178, 3) := by decide +kernel
theorem dX12_balance_55 : decode cX12_balance 55 = .ok (.ifCond .eq 6, 3) := by decide +kernel
theorem dX12_balance_58 : decode cX12_balance 58 = .ok (.bipush (-2), 2) := by decide +kernel
theorem dX12_balance_60 : decode cX12_balance 60 = .ok (.ireturn, 1) := by decide +kernel
theorem dX12_balance_61 : decode cX12_balance 61 = .ok (.aload_n 0, 1) := by decide +kernel
theorem dX12_balance_62 : decode cX12_balance 62 = .ok (.iload_n 1, 1) := by decide +kernel
theorem dX12_balance_63 : decode cX12_balance 63 = .ok (.putfield 156, 3) := by decide +kernel
theorem dX12_balance_66 : decode cX12_balance 66 = .ok (.aload_n 0, 1) := by decide +kernel
theorem dX12_balance_67 : decode cX12_balance 67 = .ok (.iload_n 2, 1) := by decide +kernel
theorem dX12_balance_68 : decode cX12_balance 68 = .ok (.putfield 159, 3) := by decide +kernel
theorem dX12_balance_71 : decode cX12_balance 71 = .ok (.aload_n 0, 1) := by decide +kernel
theorem dX12_balance_72 : decode cX12_balance 72 = .ok (.iload_n 3, 1) := by decide +kernel
theorem dX12_balance_73 : decode cX12_balance 73 = .ok (.putfield 162, 3) := by decide +kernel
theorem dX12_balance_76 : decode cX12_balance 76 = .ok (.aload_n 0, 1) := by decide +kernel
theorem dX12_balance_77 : decode cX12_balance 77 = .ok (.iload 4, 2) := by decide +kernel
theorem dX12_balance_79 : decode cX12_balance 79 = .ok (.putfield 166, 3) := by decide +kernel
theorem dX12_balance_82 : decode cX12_balance 82 = .ok (.iconst 0, 1) := by decide +kernel
theorem dX12_balance_83 : decode cX12_balance 83 = .ok (.ireturn, 1) := by decide +kernel
def f_Md_balance (a0 : Int32) (a1 : Int32) (a2 : Int32) (a3 : Int32) (I : Nat → Nat → Int32) (L : Nat → Nat → Int64) : Option (Int32 × (Nat → Nat → Int32) × (Nat → Nat → Int64)) := (bnd (f_Md_within (Int32.toInt64 a0) (1 : Int64) (4096 : Int64)) fun x1 => (if x1 = (0 : Int32) then (some ((-1 : Int32), I, L)) else (bnd (f_Md_within (Int32.toInt64 a1) (0 : Int64) (1000 : Int64)) fun x3 => (if x3 = (0 : Int32) then (some ((-1 : Int32), I, L)) else (bnd (f_Md_within (Int32.toInt64 a2) (0 : Int64) (65536 : Int64)) fun x5 => (if x5 = (0 : Int32) then (some ((-1 : Int32), I, L)) else (bnd (f_Md_within (Int32.toInt64 a3) (1 : Int64) (10000000 : Int64)) fun x7 => (if x7 = (0 : Int32) then (some ((-1 : Int32), I, L)) else (if (I 34 24) = (0 : Int32) then (some ((0 : Int32), (uI (uI (uI (uI I 34 10 a0) 34 11 a1) 34 12 a2) 34 13 a3), L)) else (some ((-2 : Int32), I, L)))))))))))
set_option maxRecDepth 100000 in
set_option maxHeartbeats 4000000 in
theorem c_Md_balance {G : xG} {S : List xSh} {Rf : Nat → Nat → Option Nat} (hT : xTM S Rf) {a0 : Int32} {a1 : Int32} {a2 : Int32} {a3 : Int32} {I : Nat → Nat → Int32} {L : Nat → Nat → Int64} {q : (Int32 × (Nat → Nat → Int32) × (Nat → Nat → Int64))} (hf : f_Md_balance a0 a1 a2 a3 I L = some q) : CT G 2 m_Md_balance [.ref (xP G 34), .int a0, .int a1, .int a2, .int a3] (S, I, L, Rf) (some (.int q.1), (S, q.2.1, q.2.2, Rf)) := by
  refine CT.of (by decide +kernel) (Nat.le_of_ble_eq_true rfl) ?_
  show X G 2 m_Md_balance 0 [(0, .ref (xP G 34)), (1, .int a0), (2, .int a1), (3, .int a2), (4, .int a3)] [] (S, I, L, Rf) (some (.int q.1), (S, q.2.1, q.2.2, Rf))
  replace hf := (f_Md_balance.eq_1 _ _ _ _ _ _).symm.trans hf
  refine X_iload_n (pc := 0) (i := 1) 1 dX12_balance_0 rfl rfl ?_
  refine X_i2l (pc := 1) dX12_balance_1 ?_
  refine X_lconst (pc := 2) (1 : Int64) dX12_balance_2 (by decide) ?_
  refine X_ldc2 (pc := 3) (4096 : Int64) k_1503 dX12_balance_3 ?_
  refine X_invS_i (pc := 6) (c_Md_within hT rfl) ok_Md_within k_1482 k_1483 nd_33 (by decide) rfl (Nat.le_of_ble_eq_true rfl) dX12_balance_6 ?_
  obtain ⟨x1, ex1, hf⟩ := bnd_e hf
  refine X_tope ex1 ?_
  by_cases c2 : x1 = (0 : Int32)
  · replace hf := (if_pos c2).symm.trans hf
    refine X_if_eq_t (pc := 9) 49 dX12_balance_9 (by decide) c2 ?_
    refine X_iconst (pc := 49) (-1 : Int32) dX12_balance_49 (by decide) ?_
    cases hf
    exact X_ireturn (pc := 50) rfl dX12_balance_50
  · replace hf := (if_neg c2).symm.trans hf
    refine X_if_eq_f (pc := 9) 49 dX12_balance_9 (by decide) c2 ?_
    refine X_iload_n (pc := 12) (i := 2) 2 dX12_balance_12 rfl rfl ?_
    refine X_i2l (pc := 13) dX12_balance_13 ?_
    refine X_lconst (pc := 14) (0 : Int64) dX12_balance_14 (by decide) ?_
    refine X_ldc2 (pc := 15) (1000 : Int64) k_1504 dX12_balance_15 ?_
    refine X_invS_i (pc := 18) (c_Md_within hT rfl) ok_Md_within k_1482 k_1483 nd_33 (by decide) rfl (Nat.le_of_ble_eq_true rfl) dX12_balance_18 ?_
    obtain ⟨x3, ex3, hf⟩ := bnd_e hf
    refine X_tope ex3 ?_
    by_cases c4 : x3 = (0 : Int32)
    · replace hf := (if_pos c4).symm.trans hf
      refine X_if_eq_t (pc := 21) 49 dX12_balance_21 (by decide) c4 ?_
      refine X_iconst (pc := 49) (-1 : Int32) dX12_balance_49 (by decide) ?_
      cases hf
      exact X_ireturn (pc := 50) rfl dX12_balance_50
    · replace hf := (if_neg c4).symm.trans hf
      refine X_if_eq_f (pc := 21) 49 dX12_balance_21 (by decide) c4 ?_
      refine X_iload_n (pc := 24) (i := 3) 3 dX12_balance_24 rfl rfl ?_
      refine X_i2l (pc := 25) dX12_balance_25 ?_
      refine X_lconst (pc := 26) (0 : Int64) dX12_balance_26 (by decide) ?_
      refine X_ldc2 (pc := 27) (65536 : Int64) k_1505 dX12_balance_27 ?_
      refine X_invS_i (pc := 30) (c_Md_within hT rfl) ok_Md_within k_1482 k_1483 nd_33 (by decide) rfl (Nat.le_of_ble_eq_true rfl) dX12_balance_30 ?_
      obtain ⟨x5, ex5, hf⟩ := bnd_e hf
      refine X_tope ex5 ?_
      by_cases c6 : x5 = (0 : Int32)
      · replace hf := (if_pos c6).symm.trans hf
        refine X_if_eq_t (pc := 33) 49 dX12_balance_33 (by decide) c6 ?_
        refine X_iconst (pc := 49) (-1 : Int32) dX12_balance_49 (by decide) ?_
        cases hf
        exact X_ireturn (pc := 50) rfl dX12_balance_50
      · replace hf := (if_neg c6).symm.trans hf
        refine X_if_eq_f (pc := 33) 49 dX12_balance_33 (by decide) c6 ?_
        refine X_iload (pc := 36) 4 dX12_balance_36 rfl ?_
        refine X_i2l (pc := 38) dX12_balance_38 ?_
        refine X_lconst (pc := 39) (1 : Int64) dX12_balance_39 (by decide) ?_
        refine X_ldc2 (pc := 40) (10000000 : Int64) k_1506 dX12_balance_40 ?_
        refine X_invS_i (pc := 43) (c_Md_within hT rfl) ok_Md_within k_1482 k_1483 nd_33 (by decide) rfl (Nat.le_of_ble_eq_true rfl) dX12_balance_43 ?_
        obtain ⟨x7, ex7, hf⟩ := bnd_e hf
        refine X_tope ex7 ?_
        by_cases c8 : x7 = (0 : Int32)
        · replace hf := (if_pos c8).symm.trans hf
          refine X_if_ne_f (pc := 46) 51 dX12_balance_46 (by decide) c8 ?_
          refine X_iconst (pc := 49) (-1 : Int32) dX12_balance_49 (by decide) ?_
          cases hf
          exact X_ireturn (pc := 50) rfl dX12_balance_50
        · replace hf := (if_neg c8).symm.trans hf
          refine X_if_ne_t (pc := 46) 51 dX12_balance_46 (by decide) c8 ?_
          refine X_aload_n (pc := 51) (i := 0) 0 dX12_balance_51 rfl rfl ?_
          refine X_get (pc := 52) (a := 34) (ci := 11) (j := 24) (.int (I 34 24)) (sh_34 hT) (by decide) k_1252 rfl dX12_balance_52 ?_
          by_cases c9 : (I 34 24) = (0 : Int32)
          · replace hf := (if_pos c9).symm.trans hf
            refine X_if_eq_t (pc := 55) 61 dX12_balance_55 (by decide) c9 ?_
            refine X_aload_n (pc := 61) (i := 0) 0 dX12_balance_61 rfl rfl ?_
            refine X_iload_n (pc := 62) (i := 1) 1 dX12_balance_62 rfl rfl ?_
            refine X_puti (pc := 63) (a := 34) (ci := 11) (j := 10) 10 rfl false (sh_34 hT) (by decide) k_1238 rfl (fun h => by cases h) rfl dX12_balance_63 ?_
            refine X_aload_n (pc := 66) (i := 0) 0 dX12_balance_66 rfl rfl ?_
            refine X_iload_n (pc := 67) (i := 2) 2 dX12_balance_67 rfl rfl ?_
            refine X_puti (pc := 68) (a := 34) (ci := 11) (j := 11) 11 rfl false (sh_34 hT) (by decide) k_1239 rfl (fun h => by cases h) rfl dX12_balance_68 ?_
            refine X_aload_n (pc := 71) (i := 0) 0 dX12_balance_71 rfl rfl ?_
            refine X_iload_n (pc := 72) (i := 3) 3 dX12_balance_72 rfl rfl ?_
            refine X_puti (pc := 73) (a := 34) (ci := 11) (j := 12) 12 rfl false (sh_34 hT) (by decide) k_1240 rfl (fun h => by cases h) rfl dX12_balance_73 ?_
            refine X_aload_n (pc := 76) (i := 0) 0 dX12_balance_76 rfl rfl ?_
            refine X_iload (pc := 77) 4 dX12_balance_77 rfl ?_
            refine X_puti (pc := 79) (a := 34) (ci := 11) (j := 13) 13 rfl false (sh_34 hT) (by decide) k_1241 rfl (fun h => by cases h) rfl dX12_balance_79 ?_
            refine X_iconst (pc := 82) (0 : Int32) dX12_balance_82 (by decide) ?_
            cases hf
            exact X_ireturn (pc := 83) rfl dX12_balance_83
          · replace hf := (if_neg c9).symm.trans hf
            refine X_if_eq_f (pc := 55) 61 dX12_balance_55 (by decide) c9 ?_
            refine X_bipush (pc := 58) (-2 : Int32) dX12_balance_58 (by decide) ?_
            cases hf
            exact X_ireturn (pc := 60) rfl dX12_balance_60
theorem u_Md_balance {S : List xSh} {a0 : Int32} {a1 : Int32} {a2 : Int32} {a3 : Int32} {I : Nat → Nat → Int32} {L : Nat → Nat → Int64} {q : (Int32 × (Nat → Nat → Int32) × (Nat → Nat → Int64))} (hf : f_Md_balance a0 a1 a2 a3 I L = some q) : FR S [4410, 4411, 4412, 4413] [] I q.2.1 L q.2.2 := by
  replace hf := (f_Md_balance.eq_1 _ _ _ _ _ _).symm.trans hf
  obtain ⟨x1, ex1, hf⟩ := bnd_e hf
  by_cases c2 : x1 = (0 : Int32)
  · replace hf := (if_pos c2).symm.trans hf
    cases hf
    exact FR.rf
  · replace hf := (if_neg c2).symm.trans hf
    obtain ⟨x3, ex3, hf⟩ := bnd_e hf
    by_cases c4 : x3 = (0 : Int32)
    · replace hf := (if_pos c4).symm.trans hf
      cases hf
      exact FR.rf
    · replace hf := (if_neg c4).symm.trans hf
      obtain ⟨x5, ex5, hf⟩ := bnd_e hf
      by_cases c6 : x5 = (0 : Int32)
      · replace hf := (if_pos c6).symm.trans hf
        cases hf
        exact FR.rf
      · replace hf := (if_neg c6).symm.trans hf
        obtain ⟨x7, ex7, hf⟩ := bnd_e hf
        by_cases c8 : x7 = (0 : Int32)
        · replace hf := (if_pos c8).symm.trans hf
          cases hf
          exact FR.rf
        · replace hf := (if_neg c8).symm.trans hf
          by_cases c9 : (I 34 24) = (0 : Int32)
          · replace hf := (if_pos c9).symm.trans hf
            cases hf
            exact (FR.fi (FR.fi (FR.fi (FR.fi FR.rf (by decide)) (by decide)) (by decide)) (by decide))
          · replace hf := (if_neg c9).symm.trans hf
            cases hf
            exact FR.rf
theorem dX12_barrel_0 : decode cX12_barrel 0 = .ok (.iload_n 1, 1) := by decide +kernel
theorem dX12_barrel_1 : decode cX12_barrel 1 = .ok (.iconst (-1), 1) := by decide +kernel
theorem dX12_barrel_2 : decode cX12_barrel 2 = .ok (.if_icmp .eq 13, 3) := by decide +kernel
theorem dX12_barrel_5 : decode cX12_barrel 5 = .ok (.aload_n 0, 1) := by decide +kernel
theorem dX12_barrel_6 : decode cX12_barrel 6 = .ok (.iload_n 1, 1) := by decide +kernel
theorem dX12_barrel_7 : decode cX12_barrel 7 = .ok (.invokevirtual 229, 3) := by decide +kernel
theorem dX12_barrel_10 : decode cX12_barrel 10 = .ok (.ifCond .ne 5, 3) := by decide +kernel
theorem dX12_barrel_13 : decode cX12_barrel 13 = .ok (.iconst (-1), 1) := by decide +kernel
theorem dX12_barrel_14 : decode cX12_barrel 14 = .ok (.ireturn, 1) := by decide +kernel
theorem dX12_barrel_15 : decode cX12_barrel 15 = .ok (.aload_n 0, 1) := by decide +kernel
theorem dX12_barrel_16 : decode cX12_barrel 16 = .ok (.getfield 178, 3) := by decide +kernel
theorem dX12_barrel_19 : decode cX12_barrel 19 = .ok (.ifCond .eq 6, 3) := by decide +kernel
theorem dX12_barrel_22 : decode cX12_barrel 22 = .ok (.bipush (-2), 2) := by decide +kernel
theorem dX12_barrel_24 : decode cX12_barrel 24 = .ok (.ireturn, 1) := by decide +kernel
theorem dX12_barrel_25 : decode cX12_barrel 25 = .ok (.aload_n 0, 1) := by decide +kernel
theorem dX12_barrel_26 : decode cX12_barrel 26 = .ok (.iload_n 1, 1) := by decide +kernel
theorem dX12_barrel_27 : decode cX12_barrel 27 = .ok (.putfield 169, 3) := by decide +kernel
theorem dX12_barrel_30 : decode cX12_barrel 30 = .ok (.iconst 0, 1) := by decide +kernel
theorem dX12_barrel_31 : decode cX12_barrel 31 = .ok (.ireturn, 1) := by decide +kernel
def f_Md_barrel_L15 (l1 : Int32) (I : (Nat → Nat → Int32)) (L : (Nat → Nat → Int64)) : Option (Int32 × (Nat → Nat → Int32) × (Nat → Nat → Int64)) := (if (I 34 24) = (0 : Int32) then (some ((0 : Int32), (uI I 34 14 l1), L)) else (some ((-2 : Int32), I, L)))
set_option maxRecDepth 100000 in
set_option maxHeartbeats 4000000 in
theorem x_Md_barrel_L15 {G : xG} {S : List xSh} {Rf : Nat → Nat → Option Nat} (hT : xTM S Rf) {l1 : Int32} {I : Nat → Nat → Int32} {L : Nat → Nat → Int64} {q : (Int32 × (Nat → Nat → Int32) × (Nat → Nat → Int64))} (hf : f_Md_barrel_L15 l1 I L = some q) : X G 3 m_Md_barrel 15 [(0, .ref (xP G 34)), (1, .int l1)] [] (S, I, L, Rf) (some (.int q.1), (S, q.2.1, q.2.2, Rf)) := by
  replace hf := (f_Md_barrel_L15.eq_1 _ _ _).symm.trans hf
  refine X_aload_n (pc := 15) (i := 0) 0 dX12_barrel_15 rfl rfl ?_
  refine X_get (pc := 16) (a := 34) (ci := 11) (j := 24) (.int (I 34 24)) (sh_34 hT) (by decide) k_1252 rfl dX12_barrel_16 ?_
  by_cases c2 : (I 34 24) = (0 : Int32)
  · replace hf := (if_pos c2).symm.trans hf
    refine X_if_eq_t (pc := 19) 25 dX12_barrel_19 (by decide) c2 ?_
    refine X_aload_n (pc := 25) (i := 0) 0 dX12_barrel_25 rfl rfl ?_
    refine X_iload_n (pc := 26) (i := 1) 1 dX12_barrel_26 rfl rfl ?_
    refine X_puti (pc := 27) (a := 34) (ci := 11) (j := 14) 14 rfl false (sh_34 hT) (by decide) k_1242 rfl (fun h => by cases h) rfl dX12_barrel_27 ?_
    refine X_iconst (pc := 30) (0 : Int32) dX12_barrel_30 (by decide) ?_
    cases hf
    exact X_ireturn (pc := 31) rfl dX12_barrel_31
  · replace hf := (if_neg c2).symm.trans hf
    refine X_if_eq_f (pc := 19) 25 dX12_barrel_19 (by decide) c2 ?_
    refine X_bipush (pc := 22) (-2 : Int32) dX12_barrel_22 (by decide) ?_
    cases hf
    exact X_ireturn (pc := 24) rfl dX12_barrel_24
theorem u_Md_barrel_L15 {S : List xSh} {l1 : Int32} {I : Nat → Nat → Int32} {L : Nat → Nat → Int64} {q : (Int32 × (Nat → Nat → Int32) × (Nat → Nat → Int64))} (hf : f_Md_barrel_L15 l1 I L = some q) : FR S [4414] [] I q.2.1 L q.2.2 := by
  replace hf := (f_Md_barrel_L15.eq_1 _ _ _).symm.trans hf
  by_cases c2 : (I 34 24) = (0 : Int32)
  · replace hf := (if_pos c2).symm.trans hf
    cases hf
    exact (FR.fi FR.rf (by decide))
  · replace hf := (if_neg c2).symm.trans hf
    cases hf
    exact FR.rf
def f_Md_barrel (a0 : Int32) (I : Nat → Nat → Int32) (L : Nat → Nat → Int64) : Option (Int32 × (Nat → Nat → Int32) × (Nat → Nat → Int64)) := (if a0 = (-1 : Int32) then (f_Md_barrel_L15 a0 I L) else ((f_Md_isArbor a0 I L).bind fun q3 => (if q3 = (0 : Int32) then (some ((-1 : Int32), I, L)) else (f_Md_barrel_L15 a0 I L))))
set_option maxRecDepth 100000 in
set_option maxHeartbeats 4000000 in
theorem c_Md_barrel {G : xG} {S : List xSh} {Rf : Nat → Nat → Option Nat} (hT : xTM S Rf) {a0 : Int32} {I : Nat → Nat → Int32} {L : Nat → Nat → Int64} {q : (Int32 × (Nat → Nat → Int32) × (Nat → Nat → Int64))} (hf : f_Md_barrel a0 I L = some q) : CT G 3 m_Md_barrel [.ref (xP G 34), .int a0] (S, I, L, Rf) (some (.int q.1), (S, q.2.1, q.2.2, Rf)) := by
  refine CT.of (by decide +kernel) (Nat.le_of_ble_eq_true rfl) ?_
  show X G 3 m_Md_barrel 0 [(0, .ref (xP G 34)), (1, .int a0)] [] (S, I, L, Rf) (some (.int q.1), (S, q.2.1, q.2.2, Rf))
  replace hf := (f_Md_barrel.eq_1 _ _ _).symm.trans hf
  refine X_iload_n (pc := 0) (i := 1) 1 dX12_barrel_0 rfl rfl ?_
  refine X_iconst (pc := 1) (-1 : Int32) dX12_barrel_1 (by decide) ?_
  by_cases c1 : a0 = (-1 : Int32)
  · replace hf := (if_pos c1).symm.trans hf
    refine X_icmp_eq_t (pc := 2) 15 dX12_barrel_2 (by decide) c1 ?_
    exact X_lvs [0, 1] rfl (x_Md_barrel_L15 hT hf)
  · replace hf := (if_neg c1).symm.trans hf
    refine X_icmp_eq_f (pc := 2) 15 dX12_barrel_2 (by decide) c1 ?_
    refine X_aload_n (pc := 5) (i := 0) 0 dX12_barrel_5 rfl rfl ?_
    refine X_iload_n (pc := 6) (i := 1) 1 dX12_barrel_6 rfl rfl ?_
    obtain ⟨q3, c4, hf⟩ := bd_some hf
    refine X_invV_i (pc := 7) (c_Md_isArbor hT c4) ok_Md_isArbor (ci := 11) (sh_34 hT) k_1478 k_1480 k_43 nd_5 (by decide) rfl (Nat.le_of_ble_eq_true rfl) dX12_barrel_7 ?_
    by_cases c5 : q3 = (0 : Int32)
    · replace hf := (if_pos c5).symm.trans hf
      refine X_if_ne_f (pc := 10) 15 dX12_barrel_10 (by decide) c5 ?_
      refine X_iconst (pc := 13) (-1 : Int32) dX12_barrel_13 (by decide) ?_
      cases hf
      exact X_ireturn (pc := 14) rfl dX12_barrel_14
    · replace hf := (if_neg c5).symm.trans hf
      refine X_if_ne_t (pc := 10) 15 dX12_barrel_10 (by decide) c5 ?_
      exact X_lvs [0, 1] rfl (x_Md_barrel_L15 hT hf)
theorem u_Md_barrel {S : List xSh} {a0 : Int32} {I : Nat → Nat → Int32} {L : Nat → Nat → Int64} {q : (Int32 × (Nat → Nat → Int32) × (Nat → Nat → Int64))} (hf : f_Md_barrel a0 I L = some q) : FR S [4414] [] I q.2.1 L q.2.2 := by
  replace hf := (f_Md_barrel.eq_1 _ _ _).symm.trans hf
  by_cases c1 : a0 = (-1 : Int32)
  · replace hf := (if_pos c1).symm.trans hf
    exact FR.tr FR.rf (u_Md_barrel_L15 hf) (by decide) (by decide)
  · replace hf := (if_neg c1).symm.trans hf
    obtain ⟨q3, c4, hf⟩ := bd_some hf
    by_cases c5 : q3 = (0 : Int32)
    · replace hf := (if_pos c5).symm.trans hf
      cases hf
      exact FR.rf
    · replace hf := (if_neg c5).symm.trans hf
      exact FR.tr FR.rf (u_Md_barrel_L15 hf) (by decide) (by decide)
theorem dX12_torque_0 : decode cX12_torque 0 = .ok (.iload_n 1, 1) := by decide +kernel
theorem dX12_torque_1 : decode cX12_torque 1 = .ok (.i2l, 1) := by decide +kernel
theorem dX12_torque_2 : decode cX12_torque 2 = .ok (.lconst 0, 1) := by decide +kernel
theorem dX12_torque_3 : decode cX12_torque 3 = .ok (.ldc2_w 249, 3) := by decide +kernel
theorem dX12_torque_6 : decode cX12_torque 6 = .ok (.invokestatic 140, 3) := by decide +kernel
theorem dX12_torque_9 : decode cX12_torque 9 = .ok (.ifCond .eq 15, 3) := by decide +kernel
theorem dX12_torque_12 : decode cX12_torque 12 = .ok (.iload_n 2, 1) := by decide +kernel
theorem dX12_torque_13 : decode cX12_torque 13 = .ok (.i2l, 1) := by decide +kernel
theorem dX12_torque_14 : decode cX12_torque 14 = .ok (.lconst 0, 1) := by decide +kernel
theorem dX12_torque_15 : decode cX12_torque 15 = .ok (.ldc2_w 251, 3) := by decide +kernel
theorem dX12_torque_18 : decode cX12_torque 18 = .ok (.invokestatic 140, 3) := by decide +kernel
theorem dX12_torque_21 : decode cX12_torque 21 = .ok (.ifCond .ne 5, 3) := by decide +kernel
theorem dX12_torque_24 : decode cX12_torque 24 = .ok (.iconst (-1), 1) := by decide +kernel
theorem dX12_torque_25 : decode cX12_torque 25 = .ok (.ireturn, 1) := by decide +kernel
theorem dX12_torque_26 : decode cX12_torque 26 = .ok (.aload_n 0, 1) := by decide +kernel
theorem dX12_torque_27 : decode cX12_torque 27 = .ok (.getfield 178, 3) := by decide +kernel
theorem dX12_torque_30 : decode cX12_torque 30 = .ok (.ifCond .eq 6, 3) := by decide +kernel
theorem dX12_torque_33 : decode cX12_torque 33 = .ok (.bipush (-2), 2) := by decide +kernel
theorem dX12_torque_35 : decode cX12_torque 35 = .ok (.ireturn, 1) := by decide +kernel
theorem dX12_torque_36 : decode cX12_torque 36 = .ok (.aload_n 0, 1) := by decide +kernel
theorem dX12_torque_37 : decode cX12_torque 37 = .ok (.getfield 28, 3) := by decide +kernel
theorem dX12_torque_40 : decode cX12_torque 40 = .ok (.iload_n 1, 1) := by decide +kernel
theorem dX12_torque_41 : decode cX12_torque 41 = .ok (.iaload, 1) := by decide +kernel
theorem dX12_torque_42 : decode cX12_torque 42 = .ok (.istore_n 3, 1) := by decide +kernel
theorem dX12_torque_43 : decode cX12_torque 43 = .ok (.aload_n 0, 1) := by decide +kernel
theorem dX12_torque_44 : decode cX12_torque 44 = .ok (.getfield 28, 3) := by decide +kernel
theorem dX12_torque_47 : decode cX12_torque 47 = .ok (.iload_n 1, 1) := by decide +kernel
theorem dX12_torque_48 : decode cX12_torque 48 = .ok (.iload_n 2, 1) := by decide +kernel
theorem dX12_torque_49 : decode cX12_torque 49 = .ok (.iastore, 1) := by decide +kernel
theorem dX12_torque_50 : decode cX12_torque 50 = .ok (.iload_n 3, 1) := by decide +kernel
theorem dX12_torque_51 : decode cX12_torque 51 = .ok (.ireturn, 1) := by decide +kernel
def f_Md_torque (a0 : Int32) (a1 : Int32) (I : Nat → Nat → Int32) (L : Nat → Nat → Int64) : Option (Int32 × (Nat → Nat → Int32) × (Nat → Nat → Int64)) := (bnd (f_Md_within (Int32.toInt64 a0) (0 : Int64) (8 : Int64)) fun x1 => (if x1 = (0 : Int32) then (some ((-1 : Int32), I, L)) else (bnd (f_Md_within (Int32.toInt64 a1) (0 : Int64) (1000000 : Int64)) fun x3 => (if x3 = (0 : Int32) then (some ((-1 : Int32), I, L)) else (if (I 34 24) = (0 : Int32) then (if (0 ≤ a0 ∧ a0 < (9 : Int32)) then (bnd (I 41 (a0.toNatClampNeg)) fun x7 => (if (0 ≤ a0 ∧ a0 < (9 : Int32)) then (some (x7, (uI I 41 (a0.toNatClampNeg) a1), L)) else none)) else none) else (some ((-2 : Int32), I, L)))))))
set_option maxRecDepth 100000 in
set_option maxHeartbeats 4000000 in
theorem c_Md_torque {G : xG} {S : List xSh} {Rf : Nat → Nat → Option Nat} (hT : xTM S Rf) {a0 : Int32} {a1 : Int32} {I : Nat → Nat → Int32} {L : Nat → Nat → Int64} {q : (Int32 × (Nat → Nat → Int32) × (Nat → Nat → Int64))} (hf : f_Md_torque a0 a1 I L = some q) : CT G 2 m_Md_torque [.ref (xP G 34), .int a0, .int a1] (S, I, L, Rf) (some (.int q.1), (S, q.2.1, q.2.2, Rf)) := by
  refine CT.of (by decide +kernel) (Nat.le_of_ble_eq_true rfl) ?_
  show X G 2 m_Md_torque 0 [(0, .ref (xP G 34)), (1, .int a0), (2, .int a1)] [] (S, I, L, Rf) (some (.int q.1), (S, q.2.1, q.2.2, Rf))
  replace hf := (f_Md_torque.eq_1 _ _ _ _).symm.trans hf
  refine X_iload_n (pc := 0) (i := 1) 1 dX12_torque_0 rfl rfl ?_
  refine X_i2l (pc := 1) dX12_torque_1 ?_
  refine X_lconst (pc := 2) (0 : Int64) dX12_torque_2 (by decide) ?_
  refine X_ldc2 (pc := 3) (8 : Int64) k_1515 dX12_torque_3 ?_
  refine X_invS_i (pc := 6) (c_Md_within hT rfl) ok_Md_within k_1482 k_1483 nd_33 (by decide) rfl (Nat.le_of_ble_eq_true rfl) dX12_torque_6 ?_
  obtain ⟨x1, ex1, hf⟩ := bnd_e hf
  refine X_tope ex1 ?_
  by_cases c2 : x1 = (0 : Int32)
  · replace hf := (if_pos c2).symm.trans hf
    refine X_if_eq_t (pc := 9) 24 dX12_torque_9 (by decide) c2 ?_
    refine X_iconst (pc := 24) (-1 : Int32) dX12_torque_24 (by decide) ?_
    cases hf
    exact X_ireturn (pc := 25) rfl dX12_torque_25
  · replace hf := (if_neg c2).symm.trans hf
    refine X_if_eq_f (pc := 9) 24 dX12_torque_9 (by decide) c2 ?_
    refine X_iload_n (pc := 12) (i := 2) 2 dX12_torque_12 rfl rfl ?_
    refine X_i2l (pc := 13) dX12_torque_13 ?_
    refine X_lconst (pc := 14) (0 : Int64) dX12_torque_14 (by decide) ?_
    refine X_ldc2 (pc := 15) (1000000 : Int64) k_1516 dX12_torque_15 ?_
    refine X_invS_i (pc := 18) (c_Md_within hT rfl) ok_Md_within k_1482 k_1483 nd_33 (by decide) rfl (Nat.le_of_ble_eq_true rfl) dX12_torque_18 ?_
    obtain ⟨x3, ex3, hf⟩ := bnd_e hf
    refine X_tope ex3 ?_
    by_cases c4 : x3 = (0 : Int32)
    · replace hf := (if_pos c4).symm.trans hf
      refine X_if_ne_f (pc := 21) 26 dX12_torque_21 (by decide) c4 ?_
      refine X_iconst (pc := 24) (-1 : Int32) dX12_torque_24 (by decide) ?_
      cases hf
      exact X_ireturn (pc := 25) rfl dX12_torque_25
    · replace hf := (if_neg c4).symm.trans hf
      refine X_if_ne_t (pc := 21) 26 dX12_torque_21 (by decide) c4 ?_
      refine X_aload_n (pc := 26) (i := 0) 0 dX12_torque_26 rfl rfl ?_
      refine X_get (pc := 27) (a := 34) (ci := 11) (j := 24) (.int (I 34 24)) (sh_34 hT) (by decide) k_1252 rfl dX12_torque_27 ?_
      by_cases c5 : (I 34 24) = (0 : Int32)
      · replace hf := (if_pos c5).symm.trans hf
        refine X_if_eq_t (pc := 30) 36 dX12_torque_30 (by decide) c5 ?_
        refine X_aload_n (pc := 36) (i := 0) 0 dX12_torque_36 rfl rfl ?_
        refine X_getr (pc := 37) (a := 34) (ci := 11) (j := 15) (c := 41) (sh_34 hT) (by decide) k_1243 (rf_34_15 hT) (fun _ h => h) dX12_torque_37 ?_
        refine X_iload_n (pc := 40) (i := 1) 1 dX12_torque_40 rfl rfl ?_
        obtain ⟨c6, hf⟩ := gd_some hf
        refine X_ialdj (pc := 41) (j := a0.toNatClampNeg) (I 41 (a0.toNatClampNeg)) (sh_41 hT) (vp_in_lit (N := 9) c6 (by decide)) rfl rfl dX12_torque_41 ?_
        obtain ⟨x7, ex7, hf⟩ := bnd_e hf
        refine X_tope ex7 ?_
        refine X_istore_n (pc := 42) (i := 3) [(3, .int x7), (0, .ref (xP G 34)), (1, .int a0), (2, .int a1)] dX12_torque_42 rfl (by decide) rfl ?_
        refine X_aload_n (pc := 43) (i := 0) 1 dX12_torque_43 rfl rfl ?_
        refine X_getr (pc := 44) (a := 34) (ci := 11) (j := 15) (c := 41) (sh_34 hT) (by decide) k_1243 (rf_34_15 hT) (fun _ h => h) dX12_torque_44 ?_
        refine X_iload_n (pc := 47) (i := 1) 2 dX12_torque_47 rfl rfl ?_
        refine X_iload_n (pc := 48) (i := 2) 3 dX12_torque_48 rfl rfl ?_
        obtain ⟨c8, hf⟩ := gd_some hf
        refine X_iastj (pc := 49) (j := (a0.toNatClampNeg)) (sh_41 hT) (vp_in_lit (N := 9) c8 (by decide)) rfl dX12_torque_49 ?_
        refine X_iload_n (pc := 50) (i := 3) 0 dX12_torque_50 rfl rfl ?_
        cases hf
        exact X_ireturn (pc := 51) rfl dX12_torque_51
      · replace hf := (if_neg c5).symm.trans hf
        refine X_if_eq_f (pc := 30) 36 dX12_torque_30 (by decide) c5 ?_
        refine X_bipush (pc := 33) (-2 : Int32) dX12_torque_33 (by decide) ?_
        cases hf
        exact X_ireturn (pc := 35) rfl dX12_torque_35
theorem u_Md_torque {S : List xSh} {a0 : Int32} {a1 : Int32} {I : Nat → Nat → Int32} {L : Nat → Nat → Int64} {q : (Int32 × (Nat → Nat → Int32) × (Nat → Nat → Int64))} (hf : f_Md_torque a0 a1 I L = some q) : FR S [41] [] I q.2.1 L q.2.2 := by
  replace hf := (f_Md_torque.eq_1 _ _ _ _).symm.trans hf
  obtain ⟨x1, ex1, hf⟩ := bnd_e hf
  by_cases c2 : x1 = (0 : Int32)
  · replace hf := (if_pos c2).symm.trans hf
    cases hf
    exact FR.rf
  · replace hf := (if_neg c2).symm.trans hf
    obtain ⟨x3, ex3, hf⟩ := bnd_e hf
    by_cases c4 : x3 = (0 : Int32)
    · replace hf := (if_pos c4).symm.trans hf
      cases hf
      exact FR.rf
    · replace hf := (if_neg c4).symm.trans hf
      by_cases c5 : (I 34 24) = (0 : Int32)
      · replace hf := (if_pos c5).symm.trans hf
        obtain ⟨c6, hf⟩ := gd_some hf
        obtain ⟨x7, ex7, hf⟩ := bnd_e hf
        obtain ⟨c8, hf⟩ := gd_some hf
        cases hf
        exact (FR.ai FR.rf (by decide))
      · replace hf := (if_neg c5).symm.trans hf
        cases hf
        exact FR.rf
theorem dX12_work_0 : decode cX12_work 0 = .ok (.aload_n 0, 1) := by decide +kernel
theorem dX12_work_1 : decode cX12_work 1 = .ok (.getfield 178, 3) := by decide +kernel
theorem dX12_work_4 : decode cX12_work 4 = .ok (.ifCond .eq 6, 3) := by decide +kernel
theorem dX12_work_7 : decode cX12_work 7 = .ok (.bipush (-2), 2) := by decide +kernel
theorem dX12_work_9 : decode cX12_work 9 = .ok (.ireturn, 1) := by decide +kernel
theorem dX12_work_10 : decode cX12_work 10 = .ok (.aload_n 0, 1) := by decide +kernel
theorem dX12_work_11 : decode cX12_work 11 = .ok (.getfield 172, 3) := by decide +kernel
theorem dX12_work_14 : decode cX12_work 14 = .ok (.bipush 8, 2) := by decide +kernel
theorem dX12_work_16 : decode cX12_work 16 = .ok (.if_icmp .ne 6, 3) := by decide +kernel
theorem dX12_work_19 : decode cX12_work 19 = .ok (.bipush (-3), 2) := by decide +kernel
theorem dX12_work_21 : decode cX12_work 21 = .ok (.ireturn, 1) := by decide +kernel
theorem dX12_work_22 : decode cX12_work 22 = .ok (.aload_n 0, 1) := by decide +kernel
theorem dX12_work_23 : decode cX12_work 23 = .ok (.getfield 31, 3) := by decide +kernel
theorem dX12_work_26 : decode cX12_work 26 = .ok (.aload_n 0, 1) := by decide +kernel
theorem dX12_work_27 : decode cX12_work 27 = .ok (.getfield 172, 3) := by decide +kernel
theorem dX12_work_30 : decode cX12_work 30 = .ok (.iload_n 1, 1) := by decide +kernel
theorem dX12_work_31 : decode cX12_work 31 = .ok (.iastore, 1) := by decide +kernel
theorem dX12_work_32 : decode cX12_work 32 = .ok (.aload_n 0, 1) := by decide +kernel
theorem dX12_work_33 : decode cX12_work 33 = .ok (.getfield 34, 3) := by decide +kernel
theorem dX12_work_36 : decode cX12_work 36 = .ok (.aload_n 0, 1) := by decide +kernel
theorem dX12_work_37 : decode cX12_work 37 = .ok (.getfield 172, 3) := by decide +kernel
theorem dX12_work_40 : decode cX12_work 40 = .ok (.iload_n 2, 1) := by decide +kernel
theorem dX12_work_41 : decode cX12_work 41 = .ok (.iastore, 1) := by decide +kernel
theorem dX12_work_42 : decode cX12_work 42 = .ok (.aload_n 0, 1) := by decide +kernel
theorem dX12_work_43 : decode cX12_work 43 = .ok (.getfield 37, 3) := by decide +kernel
theorem dX12_work_46 : decode cX12_work 46 = .ok (.aload_n 0, 1) := by decide +kernel
theorem dX12_work_47 : decode cX12_work 47 = .ok (.getfield 172, 3) := by decide +kernel
theorem dX12_work_50 : decode cX12_work 50 = .ok (.iload_n 3, 1) := by decide +kernel
theorem dX12_work_51 : decode cX12_work 51 = .ok (.iastore, 1) := by decide +kernel
theorem dX12_work_52 : decode cX12_work 52 = .ok (.aload_n 0, 1) := by decide +kernel
theorem dX12_work_53 : decode cX12_work 53 = .ok (.getfield 40, 3) := by decide +kernel
theorem dX12_work_56 : decode cX12_work 56 = .ok (.aload_n 0, 1) := by decide +kernel
theorem dX12_work_57 : decode cX12_work 57 = .ok (.getfield 172, 3) := by decide +kernel
theorem dX12_work_60 : decode cX12_work 60 = .ok (.iload 4, 2) := by decide +kernel
theorem dX12_work_62 : decode cX12_work 62 = .ok (.iastore, 1) := by decide +kernel
theorem dX12_work_63 : decode cX12_work 63 = .ok (.aload_n 0, 1) := by decide +kernel
theorem dX12_work_64 : decode cX12_work 64 = .ok (.getfield 43, 3) := by decide +kernel
theorem dX12_work_67 : decode cX12_work 67 = .ok (.aload_n 0, 1) := by decide +kernel
theorem dX12_work_68 : decode cX12_work 68 = .ok (.getfield 172, 3) := by decide +kernel
theorem dX12_work_71 : decode cX12_work 71 = .ok (.iload 5, 2) := by decide +kernel
theorem dX12_work_73 : decode cX12_work 73 = .ok (.iastore, 1) := by decide +kernel
theorem dX12_work_74 : decode cX12_work 74 = .ok (.aload_n 0, 1) := by decide +kernel
theorem dX12_work_75 : decode cX12_work 75 = .ok (.aload_n 0, 1) := by decide +kernel
theorem dX12_work_76 : decode cX12_work 76 = .ok (.getfield 172, 3) := by decide +kernel
theorem dX12_work_79 : decode cX12_work 79 = .ok (.invokevirtual 213, 3) := by decide +kernel
theorem dX12_work_82 : decode cX12_work 82 = .ok (.aload_n 0, 1) := by decide +kernel
theorem dX12_work_83 : decode cX12_work 83 = .ok (.dup, 1) := by decide +kernel
theorem dX12_work_84 : decode cX12_work 84 = .ok (.getfield 172, 3) := by decide +kernel
theorem dX12_work_87 : decode cX12_work 87 = .ok (.iconst 1, 1) := by decide +kernel
theorem dX12_work_88 : decode cX12_work 88 = .ok (.iadd, 1) := by decide +kernel
theorem dX12_work_89 : decode cX12_work 89 = .ok (.putfield 172, 3) := by decide +kernel
theorem dX12_work_92 : decode cX12_work 92 = .ok (.aload_n 0, 1) := by decide +kernel
theorem dX12_work_93 : decode cX12_work 93 = .ok (.getfield 172, 3) := by decide +kernel
theorem dX12_work_96 : decode cX12_work 96 = .ok (.iconst 1, 1) := by decide +kernel
theorem dX12_work_97 : decode cX12_work 97 = .ok (.isub, 1) := by decide +kernel
theorem dX12_work_98 : decode cX12_work 98 = .ok (.ireturn, 1) := by decide +kernel
def f_Md_work (a0 : Int32) (a1 : Int32) (a2 : Int32) (a3 : Int32) (a4 : Int32) (I : Nat → Nat → Int32) (L : Nat → Nat → Int64) : Option (Int32 × (Nat → Nat → Int32) × (Nat → Nat → Int64)) := (if (I 34 24) = (0 : Int32) then (if (I 34 16) = (8 : Int32) then (some ((-3 : Int32), I, L)) else (if (0 ≤ (I 34 16) ∧ (I 34 16) < (8 : Int32)) then (if (0 ≤ (I 34 16) ∧ (I 34 16) < (8 : Int32)) then (if (0 ≤ (I 34 16) ∧ (I 34 16) < (8 : Int32)) then (if (0 ≤ (I 34 16) ∧ (I 34 16) < (8 : Int32)) then (if (0 ≤ (I 34 16) ∧ (I 34 16) < (8 : Int32)) then ((f_Md_first (I 34 16) (uI (uI (uI (uI (uI I 42 ((I 34 16).toNatClampNeg) a0) 43 ((I 34 16).toNatClampNeg) a1) 44 ((I 34 16).toNatClampNeg) a2) 45 ((I 34 16).toNatClampNeg) a3) 46 ((I 34 16).toNatClampNeg) a4) L).bind fun q8 => (bnd ((q8.1 34 16) + (1 : Int32)) fun x10 => (some ((x10 - (1 : Int32)), (uI q8.1 34 16 x10), q8.2)))) else none) else none) else none) else none) else none)) else (some ((-2 : Int32), I, L)))
set_option maxRecDepth 100000 in
set_option maxHeartbeats 4000000 in
theorem c_Md_work {G : xG} {S : List xSh} {Rf : Nat → Nat → Option Nat} (hT : xTM S Rf) {a0 : Int32} {a1 : Int32} {a2 : Int32} {a3 : Int32} {a4 : Int32} {I : Nat → Nat → Int32} {L : Nat → Nat → Int64} {q : (Int32 × (Nat → Nat → Int32) × (Nat → Nat → Int64))} (hf : f_Md_work a0 a1 a2 a3 a4 I L = some q) : CT G 5 m_Md_work [.ref (xP G 34), .int a0, .int a1, .int a2, .int a3, .int a4] (S, I, L, Rf) (some (.int q.1), (S, q.2.1, q.2.2, Rf)) := by
  refine CT.of (by decide +kernel) (Nat.le_of_ble_eq_true rfl) ?_
  show X G 5 m_Md_work 0 [(0, .ref (xP G 34)), (1, .int a0), (2, .int a1), (3, .int a2), (4, .int a3), (5, .int a4)] [] (S, I, L, Rf) (some (.int q.1), (S, q.2.1, q.2.2, Rf))
  replace hf := (f_Md_work.eq_1 _ _ _ _ _ _ _).symm.trans hf
  refine X_aload_n (pc := 0) (i := 0) 0 dX12_work_0 rfl rfl ?_
  refine X_get (pc := 1) (a := 34) (ci := 11) (j := 24) (.int (I 34 24)) (sh_34 hT) (by decide) k_1252 rfl dX12_work_1 ?_
  by_cases c1 : (I 34 24) = (0 : Int32)
  · replace hf := (if_pos c1).symm.trans hf
    refine X_if_eq_t (pc := 4) 10 dX12_work_4 (by decide) c1 ?_
    refine X_aload_n (pc := 10) (i := 0) 0 dX12_work_10 rfl rfl ?_
    refine X_get (pc := 11) (a := 34) (ci := 11) (j := 16) (.int (I 34 16)) (sh_34 hT) (by decide) k_1244 rfl dX12_work_11 ?_
    refine X_bipush (pc := 14) (8 : Int32) dX12_work_14 (by decide) ?_
    by_cases c2 : (I 34 16) = (8 : Int32)
    · replace hf := (if_pos c2).symm.trans hf
      refine X_icmp_ne_f (pc := 16) 22 dX12_work_16 (by decide) c2 ?_
      refine X_bipush (pc := 19) (-3 : Int32) dX12_work_19 (by decide) ?_
      cases hf
      exact X_ireturn (pc := 21) rfl dX12_work_21
    · replace hf := (if_neg c2).symm.trans hf
      refine X_icmp_ne_t (pc := 16) 22 dX12_work_16 (by decide) c2 ?_
      refine X_aload_n (pc := 22) (i := 0) 0 dX12_work_22 rfl rfl ?_
      refine X_getr (pc := 23) (a := 34) (ci := 11) (j := 17) (c := 42) (sh_34 hT) (by decide) k_1245 (rf_34_17 hT) (fun _ h => h) dX12_work_23 ?_
      refine X_aload_n (pc := 26) (i := 0) 0 dX12_work_26 rfl rfl ?_
      refine X_get (pc := 27) (a := 34) (ci := 11) (j := 16) (.int (I 34 16)) (sh_34 hT) (by decide) k_1244 rfl dX12_work_27 ?_
      refine X_iload_n (pc := 30) (i := 1) 1 dX12_work_30 rfl rfl ?_
      obtain ⟨c3, hf⟩ := gd_some hf
      refine X_iastj (pc := 31) (j := ((I 34 16).toNatClampNeg)) (sh_42 hT) (vp_in_lit (N := 8) c3 (by decide)) rfl dX12_work_31 ?_
      refine X_aload_n (pc := 32) (i := 0) 0 dX12_work_32 rfl rfl ?_
      refine X_getr (pc := 33) (a := 34) (ci := 11) (j := 18) (c := 43) (sh_34 hT) (by decide) k_1246 (rf_34_18 hT) (fun _ h => h) dX12_work_33 ?_
      refine X_aload_n (pc := 36) (i := 0) 0 dX12_work_36 rfl rfl ?_
      refine X_get (pc := 37) (a := 34) (ci := 11) (j := 16) (.int (I 34 16)) (sh_34 hT) (by decide) k_1244 rfl dX12_work_37 ?_
      refine X_iload_n (pc := 40) (i := 2) 2 dX12_work_40 rfl rfl ?_
      obtain ⟨c4, hf⟩ := gd_some hf
      refine X_iastj (pc := 41) (j := ((I 34 16).toNatClampNeg)) (sh_43 hT) (vp_in_lit (N := 8) c4 (by decide)) rfl dX12_work_41 ?_
      refine X_aload_n (pc := 42) (i := 0) 0 dX12_work_42 rfl rfl ?_
      refine X_getr (pc := 43) (a := 34) (ci := 11) (j := 19) (c := 44) (sh_34 hT) (by decide) k_1247 (rf_34_19 hT) (fun _ h => h) dX12_work_43 ?_
      refine X_aload_n (pc := 46) (i := 0) 0 dX12_work_46 rfl rfl ?_
      refine X_get (pc := 47) (a := 34) (ci := 11) (j := 16) (.int (I 34 16)) (sh_34 hT) (by decide) k_1244 rfl dX12_work_47 ?_
      refine X_iload_n (pc := 50) (i := 3) 3 dX12_work_50 rfl rfl ?_
      obtain ⟨c5, hf⟩ := gd_some hf
      refine X_iastj (pc := 51) (j := ((I 34 16).toNatClampNeg)) (sh_44 hT) (vp_in_lit (N := 8) c5 (by decide)) rfl dX12_work_51 ?_
      refine X_aload_n (pc := 52) (i := 0) 0 dX12_work_52 rfl rfl ?_
      refine X_getr (pc := 53) (a := 34) (ci := 11) (j := 20) (c := 45) (sh_34 hT) (by decide) k_1248 (rf_34_20 hT) (fun _ h => h) dX12_work_53 ?_
      refine X_aload_n (pc := 56) (i := 0) 0 dX12_work_56 rfl rfl ?_
      refine X_get (pc := 57) (a := 34) (ci := 11) (j := 16) (.int (I 34 16)) (sh_34 hT) (by decide) k_1244 rfl dX12_work_57 ?_
      refine X_iload (pc := 60) 4 dX12_work_60 rfl ?_
      obtain ⟨c6, hf⟩ := gd_some hf
      refine X_iastj (pc := 62) (j := ((I 34 16).toNatClampNeg)) (sh_45 hT) (vp_in_lit (N := 8) c6 (by decide)) rfl dX12_work_62 ?_
      refine X_aload_n (pc := 63) (i := 0) 0 dX12_work_63 rfl rfl ?_
      refine X_getr (pc := 64) (a := 34) (ci := 11) (j := 21) (c := 46) (sh_34 hT) (by decide) k_1249 (rf_34_21 hT) (fun _ h => h) dX12_work_64 ?_
      refine X_aload_n (pc := 67) (i := 0) 0 dX12_work_67 rfl rfl ?_
      refine X_get (pc := 68) (a := 34) (ci := 11) (j := 16) (.int (I 34 16)) (sh_34 hT) (by decide) k_1244 rfl dX12_work_68 ?_
      refine X_iload (pc := 71) 5 dX12_work_71 rfl ?_
      obtain ⟨c7, hf⟩ := gd_some hf
      refine X_iastj (pc := 73) (j := ((I 34 16).toNatClampNeg)) (sh_46 hT) (vp_in_lit (N := 8) c7 (by decide)) rfl dX12_work_73 ?_
      refine X_aload_n (pc := 74) (i := 0) 0 dX12_work_74 rfl rfl ?_
      refine X_aload_n (pc := 75) (i := 0) 0 dX12_work_75 rfl rfl ?_
      refine X_get (pc := 76) (a := 34) (ci := 11) (j := 16) (.int (I 34 16)) (sh_34 hT) (by decide) k_1244 rfl dX12_work_76 ?_
      obtain ⟨q8, c9, hf⟩ := bd_some hf
      refine X_invV_v (pc := 79) (c_Md_first hT c9) ok_Md_first (ci := 11) (sh_34 hT) k_1211 k_1213 k_41 nd_13 (by decide) rfl (Nat.le_of_ble_eq_true rfl) dX12_work_79 ?_
      refine X_aload_n (pc := 82) (i := 0) 0 dX12_work_82 rfl rfl ?_
      refine X_dup (pc := 83) dX12_work_83 rfl ?_
      refine X_get (pc := 84) (a := 34) (ci := 11) (j := 16) (.int (q8.1 34 16)) (sh_34 hT) (by decide) k_1244 rfl dX12_work_84 ?_
      refine X_iconst (pc := 87) (1 : Int32) dX12_work_87 (by decide) ?_
      refine X_iadd (pc := 88) dX12_work_88 ?_
      obtain ⟨x10, ex10, hf⟩ := bnd_e hf
      refine X_tope ex10 ?_
      refine X_puti (pc := 89) (a := 34) (ci := 11) (j := 16) 16 rfl false (sh_34 hT) (by decide) k_1244 rfl (fun h => by cases h) rfl dX12_work_89 ?_
      refine X_aload_n (pc := 92) (i := 0) 0 dX12_work_92 rfl rfl ?_
      refine X_get (pc := 93) (a := 34) (ci := 11) (j := 16) (.int x10) (sh_34 hT) (by decide) k_1244 rfl dX12_work_93 ?_
      refine X_iconst (pc := 96) (1 : Int32) dX12_work_96 (by decide) ?_
      refine X_isub (pc := 97) dX12_work_97 ?_
      cases hf
      exact X_ireturn (pc := 98) rfl dX12_work_98
  · replace hf := (if_neg c1).symm.trans hf
    refine X_if_eq_f (pc := 4) 10 dX12_work_4 (by decide) c1 ?_
    refine X_bipush (pc := 7) (-2 : Int32) dX12_work_7 (by decide) ?_
    cases hf
    exact X_ireturn (pc := 9) rfl dX12_work_9
theorem u_Md_work {S : List xSh} {a0 : Int32} {a1 : Int32} {a2 : Int32} {a3 : Int32} {a4 : Int32} {I : Nat → Nat → Int32} {L : Nat → Nat → Int64} {q : (Int32 × (Nat → Nat → Int32) × (Nat → Nat → Int64))} (hf : f_Md_work a0 a1 a2 a3 a4 I L = some q) : FR S [42, 43, 44, 45, 46, 48, 4416, 4445, 4446, 4447] [] I q.2.1 L q.2.2 := by
  replace hf := (f_Md_work.eq_1 _ _ _ _ _ _ _).symm.trans hf
  by_cases c1 : (I 34 24) = (0 : Int32)
  · replace hf := (if_pos c1).symm.trans hf
    by_cases c2 : (I 34 16) = (8 : Int32)
    · replace hf := (if_pos c2).symm.trans hf
      cases hf
      exact FR.rf
    · replace hf := (if_neg c2).symm.trans hf
      obtain ⟨c3, hf⟩ := gd_some hf
      obtain ⟨c4, hf⟩ := gd_some hf
      obtain ⟨c5, hf⟩ := gd_some hf
      obtain ⟨c6, hf⟩ := gd_some hf
      obtain ⟨c7, hf⟩ := gd_some hf
      obtain ⟨q8, c9, hf⟩ := bd_some hf
      obtain ⟨x10, ex10, hf⟩ := bnd_e hf
      cases hf
      exact (FR.fi (FR.tr (FR.ai (FR.ai (FR.ai (FR.ai (FR.ai FR.rf (by decide)) (by decide)) (by decide)) (by decide)) (by decide)) (u_Md_first (q := q8) c9) (by decide) (by decide)) (by decide))
  · replace hf := (if_neg c1).symm.trans hf
    cases hf
    exact FR.rf

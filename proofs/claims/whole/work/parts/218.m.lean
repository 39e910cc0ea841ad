theorem dX12_isLocked_0 : decode cX12_isLocked 0 = .ok (.iconst 0, 1) := by decide +kernel
theorem dX12_isLocked_1 : decode cX12_isLocked 1 = .ok (.istore_n 1, 1) := by decide +kernel
theorem dX12_isLocked_2 : decode cX12_isLocked 2 = .ok (.iload_n 1, 1) := by decide +kernel
theorem dX12_isLocked_3 : decode cX12_isLocked 3 = .ok (.aload_n 0, 1) := by decide +kernel
theorem dX12_isLocked_4 : decode cX12_isLocked 4 = .ok (.getfield 147, 3) := by decide +kernel
theorem dX12_isLocked_7 : decode cX12_isLocked 7 = .ok (.if_icmp .ge 117, 3) := by decide +kernel
theorem dX12_isLocked_10 : decode cX12_isLocked 10 = .ok (.aload_n 0, 1) := by decide +kernel
theorem dX12_isLocked_11 : decode cX12_isLocked 11 = .ok (.getfield 77, 3) := by decide +kernel
theorem dX12_isLocked_14 : decode cX12_isLocked 14 = .ok (.aload_n 0, 1) := by decide +kernel
theorem dX12_isLocked_15 : decode cX12_isLocked 15 = .ok (.getfield 13, 3) := by decide +kernel
theorem dX12_isLocked_18 : decode cX12_isLocked 18 = .ok (.iload_n 1, 1) := by decide +kernel
theorem dX12_isLocked_19 : decode cX12_isLocked 19 = .ok (.iaload, 1) := by decide +kernel
theorem dX12_isLocked_20 : decode cX12_isLocked 20 = .ok (.baload, 1) := by decide +kernel
theorem dX12_isLocked_21 : decode cX12_isLocked 21 = .ok (.ifCond .eq 45, 3) := by decide +kernel
theorem dX12_isLocked_24 : decode cX12_isLocked 24 = .ok (.aload_n 0, 1) := by decide +kernel
theorem dX12_isLocked_25 : decode cX12_isLocked 25 = .ok (.getfield 77, 3) := by decide +kernel
theorem dX12_isLocked_28 : decode cX12_isLocked 28 = .ok (.aload_n 0, 1) := by decide +kernel
theorem dX12_isLocked_29 : decode cX12_isLocked 29 = .ok (.getfield 16, 3) := by decide +kernel
theorem dX12_isLocked_32 : decode cX12_isLocked 32 = .ok (.iload_n 1, 1) := by decide +kernel
theorem dX12_isLocked_33 : decode cX12_isLocked 33 = .ok (.iaload, 1) := by decide +kernel
theorem dX12_isLocked_34 : decode cX12_isLocked 34 = .ok (.baload, 1) := by decide +kernel
theorem dX12_isLocked_35 : decode cX12_isLocked 35 = .ok (.ifCond .eq 31, 3) := by decide +kernel
theorem dX12_isLocked_38 : decode cX12_isLocked 38 = .ok (.aload_n 0, 1) := by decide +kernel
theorem dX12_isLocked_39 : decode cX12_isLocked 39 = .ok (.getfield 9, 3) := by decide +kernel
theorem dX12_isLocked_42 : decode cX12_isLocked 42 = .ok (.iload_n 1, 1) := by decide +kernel
theorem dX12_isLocked_43 : decode cX12_isLocked 43 = .ok (.iaload, 1) := by decide +kernel
theorem dX12_isLocked_44 : decode cX12_isLocked 44 = .ok (.iconst 2, 1) := by decide +kernel
theorem dX12_isLocked_45 : decode cX12_isLocked 45 = .ok (.if_icmp .lt 17, 3) := by decide +kernel
theorem dX12_isLocked_48 : decode cX12_isLocked 48 = .ok (.aload_n 0, 1) := by decide +kernel
theorem dX12_isLocked_49 : decode cX12_isLocked 49 = .ok (.getfield 77, 3) := by decide +kernel
theorem dX12_isLocked_52 : decode cX12_isLocked 52 = .ok (.aload_n 0, 1) := by decide +kernel
theorem dX12_isLocked_53 : decode cX12_isLocked 53 = .ok (.getfield 19, 3) := by decide +kernel
theorem dX12_isLocked_56 : decode cX12_isLocked 56 = .ok (.iload_n 1, 1) := by decide +kernel
theorem dX12_isLocked_57 : decode cX12_isLocked 57 = .ok (.iaload, 1) := by decide +kernel
theorem dX12_isLocked_58 : decode cX12_isLocked 58 = .ok (.baload, 1) := by decide +kernel
theorem dX12_isLocked_59 : decode cX12_isLocked 59 = .ok (.ifCond .eq 7, 3) := by decide +kernel
theorem dX12_isLocked_62 : decode cX12_isLocked 62 = .ok (.iconst 1, 1) := by decide +kernel
theorem dX12_isLocked_63 : decode cX12_isLocked 63 = .ok (.goto 4, 3) := by decide +kernel
theorem dX12_isLocked_66 : decode cX12_isLocked 66 = .ok (.iconst 0, 1) := by decide +kernel
theorem dX12_isLocked_67 : decode cX12_isLocked 67 = .ok (.istore_n 2, 1) := by decide +kernel
theorem dX12_isLocked_68 : decode cX12_isLocked 68 = .ok (.iload_n 2, 1) := by decide +kernel
theorem dX12_isLocked_69 : decode cX12_isLocked 69 = .ok (.ifCond .eq 49, 3) := by decide +kernel
theorem dX12_isLocked_72 : decode cX12_isLocked 72 = .ok (.aload_n 0, 1) := by decide +kernel
theorem dX12_isLocked_73 : decode cX12_isLocked 73 = .ok (.iload_n 1, 1) := by decide +kernel
theorem dX12_isLocked_74 : decode cX12_isLocked 74 = .ok (.iconst 0, 1) := by decide +kernel
theorem dX12_isLocked_75 : decode cX12_isLocked 75 = .ok (.invokevirtual 312, 3) := by decide +kernel
theorem dX12_isLocked_78 : decode cX12_isLocked 78 = .ok (.aload_n 0, 1) := by decide +kernel
theorem dX12_isLocked_79 : decode cX12_isLocked 79 = .ok (.getfield 297, 3) := by decide +kernel
theorem dX12_isLocked_82 : decode cX12_isLocked 82 = .ok (.aload_n 0, 1) := by decide +kernel
theorem dX12_isLocked_83 : decode cX12_isLocked 83 = .ok (.getfield 80, 3) := by decide +kernel
theorem dX12_isLocked_86 : decode cX12_isLocked 86 = .ok (.aload_n 0, 1) := by decide +kernel
theorem dX12_isLocked_87 : decode cX12_isLocked 87 = .ok (.getfield 13, 3) := by decide +kernel
theorem dX12_isLocked_90 : decode cX12_isLocked 90 = .ok (.iload_n 1, 1) := by decide +kernel
theorem dX12_isLocked_91 : decode cX12_isLocked 91 = .ok (.iaload, 1) := by decide +kernel
theorem dX12_isLocked_92 : decode cX12_isLocked 92 = .ok (.laload, 1) := by decide +kernel
theorem dX12_isLocked_93 : decode cX12_isLocked 93 = .ok (.lcmp, 1) := by decide +kernel
theorem dX12_isLocked_94 : decode cX12_isLocked 94 = .ok (.ifCond .ne 22, 3) := by decide +kernel
theorem dX12_isLocked_97 : decode cX12_isLocked 97 = .ok (.aload_n 0, 1) := by decide +kernel
theorem dX12_isLocked_98 : decode cX12_isLocked 98 = .ok (.getfield 300, 3) := by decide +kernel
theorem dX12_isLocked_101 : decode cX12_isLocked 101 = .ok (.aload_n 0, 1) := by decide +kernel
theorem dX12_isLocked_102 : decode cX12_isLocked 102 = .ok (.getfield 84, 3) := by decide +kernel
theorem dX12_isLocked_105 : decode cX12_isLocked 105 = .ok (.aload_n 0, 1) := by decide +kernel
theorem dX12_isLocked_106 : decode cX12_isLocked 106 = .ok (.getfield 13, 3) := by decide +kernel
theorem dX12_isLocked_109 : decode cX12_isLocked 109 = .ok (.iload_n 1, 1) := by decide +kernel
theorem dX12_isLocked_110 : decode cX12_isLocked 110 = .ok (.iaload, 1) := by decide +kernel
theorem dX12_isLocked_111 : decode cX12_isLocked 111 = .ok (.laload, 1) := by decide +kernel
theorem dX12_isLocked_112 : decode cX12_isLocked 112 = .ok (.lcmp, 1) := by decide +kernel
theorem dX12_isLocked_113 : decode cX12_isLocked 113 = .ok (.ifCond .eq 5, 3) := by decide +kernel
theorem dX12_isLocked_116 : decode cX12_isLocked 116 = .ok (.iconst 1, 1) := by decide +kernel
theorem dX12_isLocked_117 : decode cX12_isLocked 117 = .ok (.ireturn, 1) := by decide +kernel
theorem dX12_isLocked_118 : decode cX12_isLocked 118 = .ok (.iinc 1 1, 3) := by decide +kernel
theorem dX12_isLocked_121 : decode cX12_isLocked 121 = .ok (.goto (-119), 3) := by decide +kernel
theorem dX12_isLocked_124 : decode cX12_isLocked 124 = .ok (.iconst 0, 1) := by decide +kernel
theorem dX12_isLocked_125 : decode cX12_isLocked 125 = .ok (.ireturn, 1) := by decide +kernel
def f_Md_isLocked_L67 (k2 : Int32 → (Nat → Nat → Int32) → (Nat → Nat → Int64) → Option (Int32 × (Nat → Nat → Int32) × (Nat → Nat → Int64))) (l1 : Int32) (s0 : Int32) (I : (Nat → Nat → Int32)) (L : (Nat → Nat → Int64)) : Option (Int32 × (Nat → Nat → Int32) × (Nat → Nat → Int64)) := (if s0 = (0 : Int32) then (k2 (l1 + (1 : Int32)) I L) else ((f_Md_tells l1 (0 : Int32) I L).bind fun q6 => (if (0 ≤ l1 ∧ l1 < (40 : Int32)) then (if (0 ≤ (q6.1 36 (l1.toNatClampNeg)) ∧ (q6.1 36 (l1.toNatClampNeg)) < (24 : Int32)) then (if (q6.2 34 51) = (q6.2 58 ((q6.1 36 (l1.toNatClampNeg)).toNatClampNeg)) then (if (0 ≤ l1 ∧ l1 < (40 : Int32)) then (if (0 ≤ (q6.1 36 (l1.toNatClampNeg)) ∧ (q6.1 36 (l1.toNatClampNeg)) < (24 : Int32)) then (if (q6.2 34 52) = (q6.2 59 ((q6.1 36 (l1.toNatClampNeg)).toNatClampNeg)) then (k2 (l1 + (1 : Int32)) q6.1 q6.2) else (some ((1 : Int32), q6.1, q6.2))) else none) else none) else (some ((1 : Int32), q6.1, q6.2))) else none) else none)))
set_option maxRecDepth 100000 in
set_option maxHeartbeats 4000000 in
theorem x_Md_isLocked_L67 {G : xG} {S : List xSh} {Rf : Nat → Nat → Option Nat} (hT : xTM S Rf) {k2 : Int32 → (Nat → Nat → Int32) → (Nat → Nat → Int64) → Option (Int32 × (Nat → Nat → Int32) × (Nat → Nat → Int64))} (hk2 : ∀ {l1 : Int32} {I : Nat → Nat → Int32} {L : Nat → Nat → Int64} {q : (Int32 × (Nat → Nat → Int32) × (Nat → Nat → Int64))}, k2 l1 I L = some q → X G 4 m_Md_isLocked 2 [(0, .ref (xB G + 34)), (1, .int l1)] [] (S, I, L, Rf) (some (.int q.1), (S, q.2.1, q.2.2, Rf))) {l1 : Int32} {s0 : Int32} {I : Nat → Nat → Int32} {L : Nat → Nat → Int64} {q : (Int32 × (Nat → Nat → Int32) × (Nat → Nat → Int64))} (hf : f_Md_isLocked_L67 k2 l1 s0 I L = some q) : X G 4 m_Md_isLocked 67 [(0, .ref (xB G + 34)), (1, .int l1)] [.int s0] (S, I, L, Rf) (some (.int q.1), (S, q.2.1, q.2.2, Rf)) := by
  replace hf := (f_Md_isLocked_L67.eq_1 _ _ _ _ _).symm.trans hf
  refine X_istore_n (pc := 67) (i := 2) [(2, .int s0), (0, .ref (xB G + 34)), (1, .int l1)] dX12_isLocked_67 rfl (by decide) rfl ?_
  refine X_iload_n (pc := 68) (i := 2) 0 dX12_isLocked_68 rfl rfl ?_
  by_cases c5 : s0 = (0 : Int32)
  · replace hf := (if_pos c5).symm.trans hf
    refine X_if_eq_t (pc := 69) 118 dX12_isLocked_69 (by decide) c5 ?_
    refine X_iinc (pc := 118) (i := 1) (q := 2) (v := (l1 + (1 : Int32))) [(1, .int (l1 + (1 : Int32))), (2, .int s0), (0, .ref (xB G + 34))] dX12_isLocked_118 rfl rfl (by decide) rfl ?_
    refine X_goto (pc := 121) 2 dX12_isLocked_121 (by decide) ?_
    exact X_lvs [2, 0] rfl (hk2 hf)
  · replace hf := (if_neg c5).symm.trans hf
    refine X_if_eq_f (pc := 69) 118 dX12_isLocked_69 (by decide) c5 ?_
    refine X_aload_n (pc := 72) (i := 0) 1 dX12_isLocked_72 rfl rfl ?_
    refine X_iload_n (pc := 73) (i := 1) 2 dX12_isLocked_73 rfl rfl ?_
    refine X_iconst (pc := 74) (0 : Int32) dX12_isLocked_74 (by decide) ?_
    obtain ⟨q6, c7, hf⟩ := bd_some hf
    refine X_invV_v (pc := 75) (c_Md_tells hT c7) ok_Md_tells (ci := 11) (sh_34 hT) k_1525 k_1527 k_47 nd_10 (by decide) rfl (Nat.le_of_ble_eq_true rfl) dX12_isLocked_75 ?_
    refine X_aload_n (pc := 78) (i := 0) 1 dX12_isLocked_78 rfl rfl ?_
    refine X_get (pc := 79) (a := 34) (ci := 11) (j := 51) (.long (q6.2 34 51)) (sh_34 hT) (by decide) k_1248 rfl dX12_isLocked_79 ?_
    refine X_aload_n (pc := 82) (i := 0) 1 dX12_isLocked_82 rfl rfl ?_
    refine X_getr (pc := 83) (a := 34) (ci := 11) (j := 49) (c := 58) (sh_34 hT) (by decide) k_1246 (rf_34_49 hT) (fun _ h => h) dX12_isLocked_83 ?_
    refine X_aload_n (pc := 86) (i := 0) 1 dX12_isLocked_86 rfl rfl ?_
    refine X_getr (pc := 87) (a := 34) (ci := 11) (j := 3) (c := 36) (sh_34 hT) (by decide) k_1200 (rf_34_3 hT) (fun _ h => h) dX12_isLocked_87 ?_
    refine X_iload_n (pc := 90) (i := 1) 2 dX12_isLocked_90 rfl rfl ?_
    obtain ⟨c8, hf⟩ := gd_some hf
    refine X_ialdj (pc := 91) (j := l1.toNatClampNeg) (q6.1 36 (l1.toNatClampNeg)) (sh_36 hT) (vp_in_lit (N := 40) c8 (by decide)) rfl rfl dX12_isLocked_91 ?_
    obtain ⟨c9, hf⟩ := gd_some hf
    refine X_laldj (pc := 92) (j := (q6.1 36 (l1.toNatClampNeg)).toNatClampNeg) (q6.2 58 ((q6.1 36 (l1.toNatClampNeg)).toNatClampNeg)) (sh_58 hT) (vp_in_lit (N := 24) c9 (by decide)) rfl rfl dX12_isLocked_92 ?_
    refine X_lcmp (pc := 93) dX12_isLocked_93 ?_
    by_cases c10 : (q6.2 34 51) = (q6.2 58 ((q6.1 36 (l1.toNatClampNeg)).toNatClampNeg))
    · replace hf := (if_pos c10).symm.trans hf
      refine X_if_ne_f (pc := 94) 116 dX12_isLocked_94 (by decide) ((lg_cmp_eq _ _).mpr c10) ?_
      refine X_aload_n (pc := 97) (i := 0) 1 dX12_isLocked_97 rfl rfl ?_
      refine X_get (pc := 98) (a := 34) (ci := 11) (j := 52) (.long (q6.2 34 52)) (sh_34 hT) (by decide) k_1249 rfl dX12_isLocked_98 ?_
      refine X_aload_n (pc := 101) (i := 0) 1 dX12_isLocked_101 rfl rfl ?_
      refine X_getr (pc := 102) (a := 34) (ci := 11) (j := 50) (c := 59) (sh_34 hT) (by decide) k_1247 (rf_34_50 hT) (fun _ h => h) dX12_isLocked_102 ?_
      refine X_aload_n (pc := 105) (i := 0) 1 dX12_isLocked_105 rfl rfl ?_
      refine X_getr (pc := 106) (a := 34) (ci := 11) (j := 3) (c := 36) (sh_34 hT) (by decide) k_1200 (rf_34_3 hT) (fun _ h => h) dX12_isLocked_106 ?_
      refine X_iload_n (pc := 109) (i := 1) 2 dX12_isLocked_109 rfl rfl ?_
      obtain ⟨c11, hf⟩ := gd_some hf
      refine X_ialdj (pc := 110) (j := l1.toNatClampNeg) (q6.1 36 (l1.toNatClampNeg)) (sh_36 hT) (vp_in_lit (N := 40) c11 (by decide)) rfl rfl dX12_isLocked_110 ?_
      obtain ⟨c12, hf⟩ := gd_some hf
      refine X_laldj (pc := 111) (j := (q6.1 36 (l1.toNatClampNeg)).toNatClampNeg) (q6.2 59 ((q6.1 36 (l1.toNatClampNeg)).toNatClampNeg)) (sh_59 hT) (vp_in_lit (N := 24) c12 (by decide)) rfl rfl dX12_isLocked_111 ?_
      refine X_lcmp (pc := 112) dX12_isLocked_112 ?_
      by_cases c13 : (q6.2 34 52) = (q6.2 59 ((q6.1 36 (l1.toNatClampNeg)).toNatClampNeg))
      · replace hf := (if_pos c13).symm.trans hf
        refine X_if_eq_t (pc := 113) 118 dX12_isLocked_113 (by decide) ((lg_cmp_eq _ _).mpr c13) ?_
        refine X_iinc (pc := 118) (i := 1) (q := 2) (v := (l1 + (1 : Int32))) [(1, .int (l1 + (1 : Int32))), (2, .int s0), (0, .ref (xB G + 34))] dX12_isLocked_118 rfl rfl (by decide) rfl ?_
        refine X_goto (pc := 121) 2 dX12_isLocked_121 (by decide) ?_
        exact X_lvs [2, 0] rfl (hk2 hf)
      · replace hf := (if_neg c13).symm.trans hf
        refine X_if_eq_f (pc := 113) 118 dX12_isLocked_113 (by decide) (fun h => c13 ((lg_cmp_eq _ _).mp h)) ?_
        refine X_iconst (pc := 116) (1 : Int32) dX12_isLocked_116 (by decide) ?_
        cases hf
        exact X_zreturn (pc := 117) rfl (nar_b (by decide)) dX12_isLocked_117
    · replace hf := (if_neg c10).symm.trans hf
      refine X_if_ne_t (pc := 94) 116 dX12_isLocked_94 (by decide) (fun h => c10 ((lg_cmp_eq _ _).mp h)) ?_
      refine X_iconst (pc := 116) (1 : Int32) dX12_isLocked_116 (by decide) ?_
      cases hf
      exact X_zreturn (pc := 117) rfl (nar_b (by decide)) dX12_isLocked_117
theorem u_Md_isLocked_L67 {S : List xSh} {k2 : Int32 → (Nat → Nat → Int32) → (Nat → Nat → Int64) → Option (Int32 × (Nat → Nat → Int32) × (Nat → Nat → Int64))} (hk2 : ∀ {l1 : Int32} {I : Nat → Nat → Int32} {L : Nat → Nat → Int64} {q : (Int32 × (Nat → Nat → Int32) × (Nat → Nat → Int64))}, k2 l1 I L = some q → FR S [] [4451, 4452] I q.2.1 L q.2.2) {l1 : Int32} {s0 : Int32} {I : Nat → Nat → Int32} {L : Nat → Nat → Int64} {q : (Int32 × (Nat → Nat → Int32) × (Nat → Nat → Int64))} (hf : f_Md_isLocked_L67 k2 l1 s0 I L = some q) : FR S [] [4451, 4452] I q.2.1 L q.2.2 := by
  replace hf := (f_Md_isLocked_L67.eq_1 _ _ _ _ _).symm.trans hf
  by_cases c5 : s0 = (0 : Int32)
  · replace hf := (if_pos c5).symm.trans hf
    exact FR.tr FR.rf (hk2 hf) (by decide) (by decide)
  · replace hf := (if_neg c5).symm.trans hf
    obtain ⟨q6, c7, hf⟩ := bd_some hf
    obtain ⟨c8, hf⟩ := gd_some hf
    obtain ⟨c9, hf⟩ := gd_some hf
    by_cases c10 : (q6.2 34 51) = (q6.2 58 ((q6.1 36 (l1.toNatClampNeg)).toNatClampNeg))
    · replace hf := (if_pos c10).symm.trans hf
      obtain ⟨c11, hf⟩ := gd_some hf
      obtain ⟨c12, hf⟩ := gd_some hf
      by_cases c13 : (q6.2 34 52) = (q6.2 59 ((q6.1 36 (l1.toNatClampNeg)).toNatClampNeg))
      · replace hf := (if_pos c13).symm.trans hf
        exact FR.tr (FR.tr FR.rf (u_Md_tells (q := q6) c7) (by decide) (by decide)) (hk2 hf) (by decide) (by decide)
      · replace hf := (if_neg c13).symm.trans hf
        cases hf
        exact (FR.tr FR.rf (u_Md_tells (q := q6) c7) (by decide) (by decide))
    · replace hf := (if_neg c10).symm.trans hf
      cases hf
      exact (FR.tr FR.rf (u_Md_tells (q := q6) c7) (by decide) (by decide))
def f_Md_isLocked_L66 (k2 : Int32 → (Nat → Nat → Int32) → (Nat → Nat → Int64) → Option (Int32 × (Nat → Nat → Int32) × (Nat → Nat → Int64))) (l1 : Int32) (I : (Nat → Nat → Int32)) (L : (Nat → Nat → Int64)) : Option (Int32 × (Nat → Nat → Int32) × (Nat → Nat → Int64)) := (f_Md_isLocked_L67 k2 l1 (0 : Int32) I L)
set_option maxRecDepth 100000 in
set_option maxHeartbeats 4000000 in
theorem x_Md_isLocked_L66 {G : xG} {S : List xSh} {Rf : Nat → Nat → Option Nat} (hT : xTM S Rf) {k2 : Int32 → (Nat → Nat → Int32) → (Nat → Nat → Int64) → Option (Int32 × (Nat → Nat → Int32) × (Nat → Nat → Int64))} (hk2 : ∀ {l1 : Int32} {I : Nat → Nat → Int32} {L : Nat → Nat → Int64} {q : (Int32 × (Nat → Nat → Int32) × (Nat → Nat → Int64))}, k2 l1 I L = some q → X G 4 m_Md_isLocked 2 [(0, .ref (xB G + 34)), (1, .int l1)] [] (S, I, L, Rf) (some (.int q.1), (S, q.2.1, q.2.2, Rf))) {l1 : Int32} {I : Nat → Nat → Int32} {L : Nat → Nat → Int64} {q : (Int32 × (Nat → Nat → Int32) × (Nat → Nat → Int64))} (hf : f_Md_isLocked_L66 k2 l1 I L = some q) : X G 4 m_Md_isLocked 66 [(0, .ref (xB G + 34)), (1, .int l1)] [] (S, I, L, Rf) (some (.int q.1), (S, q.2.1, q.2.2, Rf)) := by
  replace hf := (f_Md_isLocked_L66.eq_1 _ _ _ _).symm.trans hf
  refine X_iconst (pc := 66) (0 : Int32) dX12_isLocked_66 (by decide) ?_
  exact X_lvs [0, 1] rfl (x_Md_isLocked_L67 hT hk2 hf)
theorem u_Md_isLocked_L66 {S : List xSh} {k2 : Int32 → (Nat → Nat → Int32) → (Nat → Nat → Int64) → Option (Int32 × (Nat → Nat → Int32) × (Nat → Nat → Int64))} (hk2 : ∀ {l1 : Int32} {I : Nat → Nat → Int32} {L : Nat → Nat → Int64} {q : (Int32 × (Nat → Nat → Int32) × (Nat → Nat → Int64))}, k2 l1 I L = some q → FR S [] [4451, 4452] I q.2.1 L q.2.2) {l1 : Int32} {I : Nat → Nat → Int32} {L : Nat → Nat → Int64} {q : (Int32 × (Nat → Nat → Int32) × (Nat → Nat → Int64))} (hf : f_Md_isLocked_L66 k2 l1 I L = some q) : FR S [] [4451, 4452] I q.2.1 L q.2.2 := by
  replace hf := (f_Md_isLocked_L66.eq_1 _ _ _ _).symm.trans hf
  exact FR.tr FR.rf (u_Md_isLocked_L67 hk2 hf) (by decide) (by decide)
def f_Md_isLocked_L62 (k2 : Int32 → (Nat → Nat → Int32) → (Nat → Nat → Int64) → Option (Int32 × (Nat → Nat → Int32) × (Nat → Nat → Int64))) (l1 : Int32) (I : (Nat → Nat → Int32)) (L : (Nat → Nat → Int64)) : Option (Int32 × (Nat → Nat → Int32) × (Nat → Nat → Int64)) := (f_Md_isLocked_L67 k2 l1 (1 : Int32) I L)
set_option maxRecDepth 100000 in
set_option maxHeartbeats 4000000 in
theorem x_Md_isLocked_L62 {G : xG} {S : List xSh} {Rf : Nat → Nat → Option Nat} (hT : xTM S Rf) {k2 : Int32 → (Nat → Nat → Int32) → (Nat → Nat → Int64) → Option (Int32 × (Nat → Nat → Int32) × (Nat → Nat → Int64))} (hk2 : ∀ {l1 : Int32} {I : Nat → Nat → Int32} {L : Nat → Nat → Int64} {q : (Int32 × (Nat → Nat → Int32) × (Nat → Nat → Int64))}, k2 l1 I L = some q → X G 4 m_Md_isLocked 2 [(0, .ref (xB G + 34)), (1, .int l1)] [] (S, I, L, Rf) (some (.int q.1), (S, q.2.1, q.2.2, Rf))) {l1 : Int32} {I : Nat → Nat → Int32} {L : Nat → Nat → Int64} {q : (Int32 × (Nat → Nat → Int32) × (Nat → Nat → Int64))} (hf : f_Md_isLocked_L62 k2 l1 I L = some q) : X G 4 m_Md_isLocked 62 [(0, .ref (xB G + 34)), (1, .int l1)] [] (S, I, L, Rf) (some (.int q.1), (S, q.2.1, q.2.2, Rf)) := by
  replace hf := (f_Md_isLocked_L62.eq_1 _ _ _ _).symm.trans hf
  refine X_iconst (pc := 62) (1 : Int32) dX12_isLocked_62 (by decide) ?_
  refine X_goto (pc := 63) 67 dX12_isLocked_63 (by decide) ?_
  exact X_lvs [0, 1] rfl (x_Md_isLocked_L67 hT hk2 hf)
theorem u_Md_isLocked_L62 {S : List xSh} {k2 : Int32 → (Nat → Nat → Int32) → (Nat → Nat → Int64) → Option (Int32 × (Nat → Nat → Int32) × (Nat → Nat → Int64))} (hk2 : ∀ {l1 : Int32} {I : Nat → Nat → Int32} {L : Nat → Nat → Int64} {q : (Int32 × (Nat → Nat → Int32) × (Nat → Nat → Int64))}, k2 l1 I L = some q → FR S [] [4451, 4452] I q.2.1 L q.2.2) {l1 : Int32} {I : Nat → Nat → Int32} {L : Nat → Nat → Int64} {q : (Int32 × (Nat → Nat → Int32) × (Nat → Nat → Int64))} (hf : f_Md_isLocked_L62 k2 l1 I L = some q) : FR S [] [4451, 4452] I q.2.1 L q.2.2 := by
  replace hf := (f_Md_isLocked_L62.eq_1 _ _ _ _).symm.trans hf
  exact FR.tr FR.rf (u_Md_isLocked_L67 hk2 hf) (by decide) (by decide)
def f_Md_isLocked_L2 : Nat → Int32 → (Nat → Nat → Int32) → (Nat → Nat → Int64) → Option (Int32 × (Nat → Nat → Int32) × (Nat → Nat → Int64))
  | 0, _, _, _ => none
  | n + 1, l1, I, L => (if (I 34 1) ≤ l1 then (some ((0 : Int32), I, L)) else (if (0 ≤ l1 ∧ l1 < (40 : Int32)) then (if (0 ≤ (I 36 (l1.toNatClampNeg)) ∧ (I 36 (l1.toNatClampNeg)) < (24 : Int32)) then (if (I 57 ((I 36 (l1.toNatClampNeg)).toNatClampNeg)) = (0 : Int32) then (f_Md_isLocked_L66 (f_Md_isLocked_L2 n) l1 I L) else (if (0 ≤ l1 ∧ l1 < (40 : Int32)) then (if (0 ≤ (I 37 (l1.toNatClampNeg)) ∧ (I 37 (l1.toNatClampNeg)) < (24 : Int32)) then (if (I 57 ((I 37 (l1.toNatClampNeg)).toNatClampNeg)) = (0 : Int32) then (f_Md_isLocked_L66 (f_Md_isLocked_L2 n) l1 I L) else (if (0 ≤ l1 ∧ l1 < (40 : Int32)) then (if (I 35 (l1.toNatClampNeg)) < (2 : Int32) then (f_Md_isLocked_L62 (f_Md_isLocked_L2 n) l1 I L) else (if (0 ≤ l1 ∧ l1 < (40 : Int32)) then (if (0 ≤ (I 38 (l1.toNatClampNeg)) ∧ (I 38 (l1.toNatClampNeg)) < (24 : Int32)) then (if (I 57 ((I 38 (l1.toNatClampNeg)).toNatClampNeg)) = (0 : Int32) then (f_Md_isLocked_L66 (f_Md_isLocked_L2 n) l1 I L) else (f_Md_isLocked_L62 (f_Md_isLocked_L2 n) l1 I L)) else none) else none)) else none)) else none) else none)) else none) else none))
set_option maxRecDepth 100000 in
set_option maxHeartbeats 4000000 in
theorem x_Md_isLocked_L2 {G : xG} {S : List xSh} {Rf : Nat → Nat → Option Nat} (hT : xTM S Rf) : ∀ (n : Nat) {l1 : Int32} {I : Nat → Nat → Int32} {L : Nat → Nat → Int64} {q : (Int32 × (Nat → Nat → Int32) × (Nat → Nat → Int64))}, f_Md_isLocked_L2 n l1 I L = some q → X G 4 m_Md_isLocked 2 [(0, .ref (xB G + 34)), (1, .int l1)] [] (S, I, L, Rf) (some (.int q.1), (S, q.2.1, q.2.2, Rf)) := by
  intro n
  induction n with
  | zero =>
    intro l1 I L q hf
    exact absurd (show none = some q from hf) (by simp)
  | succ n ih =>
    intro l1 I L q hf
    replace hf := (f_Md_isLocked_L2.eq_2 _ _ _ _).symm.trans hf
    refine X_iload_n (pc := 2) (i := 1) 1 dX12_isLocked_2 rfl rfl ?_
    refine X_aload_n (pc := 3) (i := 0) 0 dX12_isLocked_3 rfl rfl ?_
    refine X_get (pc := 4) (a := 34) (ci := 11) (j := 1) (.int (I 34 1)) (sh_34 hT) (by decide) k_1198 rfl dX12_isLocked_4 ?_
    by_cases c1 : (I 34 1) ≤ l1
    · replace hf := (if_pos c1).symm.trans hf
      refine X_icmp_ge_t (pc := 7) 124 dX12_isLocked_7 (by decide) c1 ?_
      refine X_iconst (pc := 124) (0 : Int32) dX12_isLocked_124 (by decide) ?_
      cases hf
      exact X_zreturn (pc := 125) rfl (nar_b (by decide)) dX12_isLocked_125
    · replace hf := (if_neg c1).symm.trans hf
      refine X_icmp_ge_f (pc := 7) 124 dX12_isLocked_7 (by decide) c1 ?_
      refine X_aload_n (pc := 10) (i := 0) 0 dX12_isLocked_10 rfl rfl ?_
      refine X_getr (pc := 11) (a := 34) (ci := 11) (j := 48) (c := 57) (sh_34 hT) (by decide) k_1245 (rf_34_48 hT) (fun _ h => h) dX12_isLocked_11 ?_
      refine X_aload_n (pc := 14) (i := 0) 0 dX12_isLocked_14 rfl rfl ?_
      refine X_getr (pc := 15) (a := 34) (ci := 11) (j := 3) (c := 36) (sh_34 hT) (by decide) k_1200 (rf_34_3 hT) (fun _ h => h) dX12_isLocked_15 ?_
      refine X_iload_n (pc := 18) (i := 1) 1 dX12_isLocked_18 rfl rfl ?_
      obtain ⟨c2, hf⟩ := gd_some hf
      refine X_ialdj (pc := 19) (j := l1.toNatClampNeg) (I 36 (l1.toNatClampNeg)) (sh_36 hT) (vp_in_lit (N := 40) c2 (by decide)) rfl rfl dX12_isLocked_19 ?_
      obtain ⟨c3, hf⟩ := gd_some hf
      refine X_zaldj (pc := 20) (j := (I 36 (l1.toNatClampNeg)).toNatClampNeg) (I 57 ((I 36 (l1.toNatClampNeg)).toNatClampNeg)) (sh_57 hT) (vp_in_lit (N := 24) c3 (by decide)) rfl rfl dX12_isLocked_20 ?_
      by_cases c4 : (I 57 ((I 36 (l1.toNatClampNeg)).toNatClampNeg)) = (0 : Int32)
      · replace hf := (if_pos c4).symm.trans hf
        refine X_if_eq_t (pc := 21) 66 dX12_isLocked_21 (by decide) c4 ?_
        exact X_lvs [0, 1] rfl (x_Md_isLocked_L66 hT ih hf)
      · replace hf := (if_neg c4).symm.trans hf
        refine X_if_eq_f (pc := 21) 66 dX12_isLocked_21 (by decide) c4 ?_
        refine X_aload_n (pc := 24) (i := 0) 0 dX12_isLocked_24 rfl rfl ?_
        refine X_getr (pc := 25) (a := 34) (ci := 11) (j := 48) (c := 57) (sh_34 hT) (by decide) k_1245 (rf_34_48 hT) (fun _ h => h) dX12_isLocked_25 ?_
        refine X_aload_n (pc := 28) (i := 0) 0 dX12_isLocked_28 rfl rfl ?_
        refine X_getr (pc := 29) (a := 34) (ci := 11) (j := 4) (c := 37) (sh_34 hT) (by decide) k_1201 (rf_34_4 hT) (fun _ h => h) dX12_isLocked_29 ?_
        refine X_iload_n (pc := 32) (i := 1) 1 dX12_isLocked_32 rfl rfl ?_
        obtain ⟨c14, hf⟩ := gd_some hf
        refine X_ialdj (pc := 33) (j := l1.toNatClampNeg) (I 37 (l1.toNatClampNeg)) (sh_37 hT) (vp_in_lit (N := 40) c14 (by decide)) rfl rfl dX12_isLocked_33 ?_
        obtain ⟨c15, hf⟩ := gd_some hf
        refine X_zaldj (pc := 34) (j := (I 37 (l1.toNatClampNeg)).toNatClampNeg) (I 57 ((I 37 (l1.toNatClampNeg)).toNatClampNeg)) (sh_57 hT) (vp_in_lit (N := 24) c15 (by decide)) rfl rfl dX12_isLocked_34 ?_
        by_cases c16 : (I 57 ((I 37 (l1.toNatClampNeg)).toNatClampNeg)) = (0 : Int32)
        · replace hf := (if_pos c16).symm.trans hf
          refine X_if_eq_t (pc := 35) 66 dX12_isLocked_35 (by decide) c16 ?_
          exact X_lvs [0, 1] rfl (x_Md_isLocked_L66 hT ih hf)
        · replace hf := (if_neg c16).symm.trans hf
          refine X_if_eq_f (pc := 35) 66 dX12_isLocked_35 (by decide) c16 ?_
          refine X_aload_n (pc := 38) (i := 0) 0 dX12_isLocked_38 rfl rfl ?_
          refine X_getr (pc := 39) (a := 34) (ci := 11) (j := 2) (c := 35) (sh_34 hT) (by decide) k_1199 (rf_34_2 hT) (fun _ h => h) dX12_isLocked_39 ?_
          refine X_iload_n (pc := 42) (i := 1) 1 dX12_isLocked_42 rfl rfl ?_
          obtain ⟨c17, hf⟩ := gd_some hf
          refine X_ialdj (pc := 43) (j := l1.toNatClampNeg) (I 35 (l1.toNatClampNeg)) (sh_35 hT) (vp_in_lit (N := 40) c17 (by decide)) rfl rfl dX12_isLocked_43 ?_
          refine X_iconst (pc := 44) (2 : Int32) dX12_isLocked_44 (by decide) ?_
          by_cases c18 : (I 35 (l1.toNatClampNeg)) < (2 : Int32)
          · replace hf := (if_pos c18).symm.trans hf
            refine X_icmp_lt_t (pc := 45) 62 dX12_isLocked_45 (by decide) c18 ?_
            exact X_lvs [0, 1] rfl (x_Md_isLocked_L62 hT ih hf)
          · replace hf := (if_neg c18).symm.trans hf
            refine X_icmp_lt_f (pc := 45) 62 dX12_isLocked_45 (by decide) c18 ?_
            refine X_aload_n (pc := 48) (i := 0) 0 dX12_isLocked_48 rfl rfl ?_
            refine X_getr (pc := 49) (a := 34) (ci := 11) (j := 48) (c := 57) (sh_34 hT) (by decide) k_1245 (rf_34_48 hT) (fun _ h => h) dX12_isLocked_49 ?_
            refine X_aload_n (pc := 52) (i := 0) 0 dX12_isLocked_52 rfl rfl ?_
            refine X_getr (pc := 53) (a := 34) (ci := 11) (j := 5) (c := 38) (sh_34 hT) (by decide) k_1202 (rf_34_5 hT) (fun _ h => h) dX12_isLocked_53 ?_
            refine X_iload_n (pc := 56) (i := 1) 1 dX12_isLocked_56 rfl rfl ?_
            obtain ⟨c19, hf⟩ := gd_some hf
            refine X_ialdj (pc := 57) (j := l1.toNatClampNeg) (I 38 (l1.toNatClampNeg)) (sh_38 hT) (vp_in_lit (N := 40) c19 (by decide)) rfl rfl dX12_isLocked_57 ?_
            obtain ⟨c20, hf⟩ := gd_some hf
            refine X_zaldj (pc := 58) (j := (I 38 (l1.toNatClampNeg)).toNatClampNeg) (I 57 ((I 38 (l1.toNatClampNeg)).toNatClampNeg)) (sh_57 hT) (vp_in_lit (N := 24) c20 (by decide)) rfl rfl dX12_isLocked_58 ?_
            by_cases c21 : (I 57 ((I 38 (l1.toNatClampNeg)).toNatClampNeg)) = (0 : Int32)
            · replace hf := (if_pos c21).symm.trans hf
              refine X_if_eq_t (pc := 59) 66 dX12_isLocked_59 (by decide) c21 ?_
              exact X_lvs [0, 1] rfl (x_Md_isLocked_L66 hT ih hf)
            · replace hf := (if_neg c21).symm.trans hf
              refine X_if_eq_f (pc := 59) 66 dX12_isLocked_59 (by decide) c21 ?_
              exact X_lvs [0, 1] rfl (x_Md_isLocked_L62 hT ih hf)
theorem u_Md_isLocked_L2 {S : List xSh} : ∀ (n : Nat) {l1 : Int32} {I : Nat → Nat → Int32} {L : Nat → Nat → Int64} {q : (Int32 × (Nat → Nat → Int32) × (Nat → Nat → Int64))}, f_Md_isLocked_L2 n l1 I L = some q → FR S [] [4451, 4452] I q.2.1 L q.2.2 := by
  intro n
  induction n with
  | zero =>
    intro l1 I L q hf
    exact absurd (show none = some q from hf) (by simp)
  | succ n ih =>
    intro l1 I L q hf
    replace hf := (f_Md_isLocked_L2.eq_2 _ _ _ _).symm.trans hf
    by_cases c1 : (I 34 1) ≤ l1
    · replace hf := (if_pos c1).symm.trans hf
      cases hf
      exact FR.rf
    · replace hf := (if_neg c1).symm.trans hf
      obtain ⟨c2, hf⟩ := gd_some hf
      obtain ⟨c3, hf⟩ := gd_some hf
      by_cases c4 : (I 57 ((I 36 (l1.toNatClampNeg)).toNatClampNeg)) = (0 : Int32)
      · replace hf := (if_pos c4).symm.trans hf
        exact FR.tr FR.rf (u_Md_isLocked_L66 ih hf) (by decide) (by decide)
      · replace hf := (if_neg c4).symm.trans hf
        obtain ⟨c14, hf⟩ := gd_some hf
        obtain ⟨c15, hf⟩ := gd_some hf
        by_cases c16 : (I 57 ((I 37 (l1.toNatClampNeg)).toNatClampNeg)) = (0 : Int32)
        · replace hf := (if_pos c16).symm.trans hf
          exact FR.tr FR.rf (u_Md_isLocked_L66 ih hf) (by decide) (by decide)
        · replace hf := (if_neg c16).symm.trans hf
          obtain ⟨c17, hf⟩ := gd_some hf
          by_cases c18 : (I 35 (l1.toNatClampNeg)) < (2 : Int32)
          · replace hf := (if_pos c18).symm.trans hf
            exact FR.tr FR.rf (u_Md_isLocked_L62 ih hf) (by decide) (by decide)
          · replace hf := (if_neg c18).symm.trans hf
            obtain ⟨c19, hf⟩ := gd_some hf
            obtain ⟨c20, hf⟩ := gd_some hf
            by_cases c21 : (I 57 ((I 38 (l1.toNatClampNeg)).toNatClampNeg)) = (0 : Int32)
            · replace hf := (if_pos c21).symm.trans hf
              exact FR.tr FR.rf (u_Md_isLocked_L66 ih hf) (by decide) (by decide)
            · replace hf := (if_neg c21).symm.trans hf
              exact FR.tr FR.rf (u_Md_isLocked_L62 ih hf) (by decide) (by decide)
def f_Md_isLocked (I : Nat → Nat → Int32) (L : Nat → Nat → Int64) : Option (Int32 × (Nat → Nat → Int32) × (Nat → Nat → Int64)) := (f_Md_isLocked_L2 xF (0 : Int32) I L)
set_option maxRecDepth 100000 in
set_option maxHeartbeats 4000000 in
theorem c_Md_isLocked {G : xG} {S : List xSh} {Rf : Nat → Nat → Option Nat} (hT : xTM S Rf) {I : Nat → Nat → Int32} {L : Nat → Nat → Int64} {q : (Int32 × (Nat → Nat → Int32) × (Nat → Nat → Int64))} (hf : f_Md_isLocked I L = some q) : CT G 4 m_Md_isLocked [.ref (xB G + 34)] (S, I, L, Rf) (some (.int q.1), (S, q.2.1, q.2.2, Rf)) := by
  refine CT.of (by decide +kernel) (Nat.le_of_ble_eq_true rfl) ?_
  show X G 4 m_Md_isLocked 0 [(0, .ref (xB G + 34))] [] (S, I, L, Rf) (some (.int q.1), (S, q.2.1, q.2.2, Rf))
  replace hf := (f_Md_isLocked.eq_1 _ _).symm.trans hf
  refine X_iconst (pc := 0) (0 : Int32) dX12_isLocked_0 (by decide) ?_
  refine X_istore_n (pc := 1) (i := 1) [(1, .int (0 : Int32)), (0, .ref (xB G + 34))] dX12_isLocked_1 rfl (by decide) rfl ?_
  exact X_lvs [1, 0] rfl (x_Md_isLocked_L2 hT xF hf)
theorem u_Md_isLocked {S : List xSh} {I : Nat → Nat → Int32} {L : Nat → Nat → Int64} {q : (Int32 × (Nat → Nat → Int32) × (Nat → Nat → Int64))} (hf : f_Md_isLocked I L = some q) : FR S [] [4451, 4452] I q.2.1 L q.2.2 := by
  replace hf := (f_Md_isLocked.eq_1 _ _).symm.trans hf
  exact FR.tr FR.rf (u_Md_isLocked_L2 xF hf) (by decide) (by decide)
theorem dX12_go_0 : decode cX12_go 0 = .ok (.aload_n 0, 1) := by decide +kernel
theorem dX12_go_1 : decode cX12_go 1 = .ok (.getfield 178, 3) := by decide +kernel
theorem dX12_go_4 : decode cX12_go 4 = .ok (.ifCond .ne 10, 3) := by decide +kernel
theorem dX12_go_7 : decode cX12_go 7 = .ok (.aload_n 0, 1) := by decide +kernel
theorem dX12_go_8 : decode cX12_go 8 = .ok (.getfield 150, 3) := by decide +kernel
theorem dX12_go_11 : decode cX12_go 11 = .ok (.ifCond .ge 6, 3) := by decide +kernel
theorem dX12_go_14 : decode cX12_go 14 = .ok (.bipush (-2), 2) := by decide +kernel
theorem dX12_go_16 : decode cX12_go 16 = .ok (.ireturn, 1) := by decide +kernel
theorem dX12_go_17 : decode cX12_go 17 = .ok (.aload_n 0, 1) := by decide +kernel
theorem dX12_go_18 : decode cX12_go 18 = .ok (.invokevirtual 273, 3) := by decide +kernel
theorem dX12_go_21 : decode cX12_go 21 = .ok (.aload_n 0, 1) := by decide +kernel
theorem dX12_go_22 : decode cX12_go 22 = .ok (.invokevirtual 276, 3) := by decide +kernel
theorem dX12_go_25 : decode cX12_go 25 = .ok (.ifCond .eq 6, 3) := by decide +kernel
theorem dX12_go_28 : decode cX12_go 28 = .ok (.bipush (-2), 2) := by decide +kernel
theorem dX12_go_30 : decode cX12_go 30 = .ok (.ireturn, 1) := by decide +kernel
theorem dX12_go_31 : decode cX12_go 31 = .ok (.aload_n 0, 1) := by decide +kernel
theorem dX12_go_32 : decode cX12_go 32 = .ok (.iconst 1, 1) := by decide +kernel
theorem dX12_go_33 : decode cX12_go 33 = .ok (.putfield 178, 3) := by decide +kernel
theorem dX12_go_36 : decode cX12_go 36 = .ok (.aload_n 0, 1) := by decide +kernel
theorem dX12_go_37 : decode cX12_go 37 = .ok (.iconst 0, 1) := by decide +kernel
theorem dX12_go_38 : decode cX12_go 38 = .ok (.putfield 144, 3) := by decide +kernel
theorem dX12_go_41 : decode cX12_go 41 = .ok (.aload_n 0, 1) := by decide +kernel
theorem dX12_go_42 : decode cX12_go 42 = .ok (.invokevirtual 182, 3) := by decide +kernel
theorem dX12_go_45 : decode cX12_go 45 = .ok (.iconst 0, 1) := by decide +kernel
theorem dX12_go_46 : decode cX12_go 46 = .ok (.istore_n 1, 1) := by decide +kernel
theorem dX12_go_47 : decode cX12_go 47 = .ok (.iconst 0, 1) := by decide +kernel
theorem dX12_go_48 : decode cX12_go 48 = .ok (.istore_n 2, 1) := by decide +kernel
theorem dX12_go_49 : decode cX12_go 49 = .ok (.iload_n 2, 1) := by decide +kernel
theorem dX12_go_50 : decode cX12_go 50 = .ok (.aload_n 0, 1) := by decide +kernel
theorem dX12_go_51 : decode cX12_go 51 = .ok (.getfield 136, 3) := by decide +kernel
theorem dX12_go_54 : decode cX12_go 54 = .ok (.if_icmp .ge 26, 3) := by decide +kernel
theorem dX12_go_57 : decode cX12_go 57 = .ok (.iload_n 1, 1) := by decide +kernel
theorem dX12_go_58 : decode cX12_go 58 = .ok (.aload_n 0, 1) := by decide +kernel
theorem dX12_go_59 : decode cX12_go 59 = .ok (.getfield 77, 3) := by decide +kernel
theorem dX12_go_62 : decode cX12_go 62 = .ok (.iload_n 2, 1) := by decide +kernel
theorem dX12_go_63 : decode cX12_go 63 = .ok (.baload, 1) := by decide +kernel
theorem dX12_go_64 : decode cX12_go 64 = .ok (.ifCond .eq 7, 3) := by decide +kernel
theorem dX12_go_67 : decode cX12_go 67 = .ok (.iconst 1, 1) := by decide +kernel
theorem dX12_go_68 : decode cX12_go 68 = .ok (.goto 4, 3) := by decide +kernel
theorem dX12_go_71 : decode cX12_go 71 = .ok (.iconst 0, 1) := by decide +kernel
theorem dX12_go_72 : decode cX12_go 72 = .ok (.iadd, 1) := by decide +kernel
theorem dX12_go_73 : decode cX12_go 73 = .ok (.istore_n 1, 1) := by decide +kernel
theorem dX12_go_74 : decode cX12_go 74 = .ok (.iinc 2 1, 3) := by decide +kernel
theorem dX12_go_77 : decode cX12_go 77 = .ok (.goto (-28), 3) := by decide +kernel
theorem dX12_go_80 : decode cX12_go 80 = .ok (.iload_n 1, 1) := by decide +kernel
theorem dX12_go_81 : decode cX12_go 81 = .ok (.ireturn, 1) := by decide +kernel
def f_Md_go_L49 : Nat → Int32 → Int32 → (Nat → Nat → Int32) → (Nat → Nat → Int64) → Option (Int32 × (Nat → Nat → Int32) × (Nat → Nat → Int64))
  | 0, _, _, _, _ => none
  | n + 1, l1, l2, I, L => (if (I 34 0) ≤ l2 then (some (l1, I, L)) else (if (0 ≤ l2 ∧ l2 < (24 : Int32)) then (if (I 57 (l2.toNatClampNeg)) = (0 : Int32) then (bnd (l1 + (0 : Int32)) fun x13 => (f_Md_go_L49 n x13 (l2 + (1 : Int32)) I L)) else (bnd (l1 + (1 : Int32)) fun x14 => (f_Md_go_L49 n x14 (l2 + (1 : Int32)) I L))) else none))
set_option maxRecDepth 100000 in
set_option maxHeartbeats 4000000 in
theorem x_Md_go_L49 {G : xG} {S : List xSh} {Rf : Nat → Nat → Option Nat} (hT : xTM S Rf) : ∀ (n : Nat) {l1 : Int32} {l2 : Int32} {I : Nat → Nat → Int32} {L : Nat → Nat → Int64} {q : (Int32 × (Nat → Nat → Int32) × (Nat → Nat → Int64))}, f_Md_go_L49 n l1 l2 I L = some q → X G 6 m_Md_go 49 [(0, .ref (xB G + 34)), (1, .int l1), (2, .int l2)] [] (S, I, L, Rf) (some (.int q.1), (S, q.2.1, q.2.2, Rf)) := by
  intro n
  induction n with
  | zero =>
    intro l1 l2 I L q hf
    exact absurd (show none = some q from hf) (by simp)
  | succ n ih =>
    intro l1 l2 I L q hf
    replace hf := (f_Md_go_L49.eq_2 _ _ _ _ _).symm.trans hf
    refine X_iload_n (pc := 49) (i := 2) 2 dX12_go_49 rfl rfl ?_
    refine X_aload_n (pc := 50) (i := 0) 0 dX12_go_50 rfl rfl ?_
    refine X_get (pc := 51) (a := 34) (ci := 11) (j := 0) (.int (I 34 0)) (sh_34 hT) (by decide) k_1197 rfl dX12_go_51 ?_
    by_cases c10 : (I 34 0) ≤ l2
    · replace hf := (if_pos c10).symm.trans hf
      refine X_icmp_ge_t (pc := 54) 80 dX12_go_54 (by decide) c10 ?_
      refine X_iload_n (pc := 80) (i := 1) 1 dX12_go_80 rfl rfl ?_
      cases hf
      exact X_ireturn (pc := 81) rfl dX12_go_81
    · replace hf := (if_neg c10).symm.trans hf
      refine X_icmp_ge_f (pc := 54) 80 dX12_go_54 (by decide) c10 ?_
      refine X_iload_n (pc := 57) (i := 1) 1 dX12_go_57 rfl rfl ?_
      refine X_aload_n (pc := 58) (i := 0) 0 dX12_go_58 rfl rfl ?_
      refine X_getr (pc := 59) (a := 34) (ci := 11) (j := 48) (c := 57) (sh_34 hT) (by decide) k_1245 (rf_34_48 hT) (fun _ h => h) dX12_go_59 ?_
      refine X_iload_n (pc := 62) (i := 2) 2 dX12_go_62 rfl rfl ?_
      obtain ⟨c11, hf⟩ := gd_some hf
      refine X_zaldj (pc := 63) (j := l2.toNatClampNeg) (I 57 (l2.toNatClampNeg)) (sh_57 hT) (vp_in_lit (N := 24) c11 (by decide)) rfl rfl dX12_go_63 ?_
      by_cases c12 : (I 57 (l2.toNatClampNeg)) = (0 : Int32)
      · replace hf := (if_pos c12).symm.trans hf
        refine X_if_eq_t (pc := 64) 71 dX12_go_64 (by decide) c12 ?_
        refine X_iconst (pc := 71) (0 : Int32) dX12_go_71 (by decide) ?_
        refine X_iadd (pc := 72) dX12_go_72 ?_
        obtain ⟨x13, ex13, hf⟩ := bnd_e hf
        refine X_tope ex13 ?_
        refine X_istore_n (pc := 73) (i := 1) [(1, .int x13), (0, .ref (xB G + 34)), (2, .int l2)] dX12_go_73 rfl (by decide) rfl ?_
        refine X_iinc (pc := 74) (i := 2) (q := 2) (v := (l2 + (1 : Int32))) [(2, .int (l2 + (1 : Int32))), (1, .int x13), (0, .ref (xB G + 34))] dX12_go_74 rfl rfl (by decide) rfl ?_
        refine X_goto (pc := 77) 49 dX12_go_77 (by decide) ?_
        exact X_lvs [2, 1, 0] rfl (ih hf)
      · replace hf := (if_neg c12).symm.trans hf
        refine X_if_eq_f (pc := 64) 71 dX12_go_64 (by decide) c12 ?_
        refine X_iconst (pc := 67) (1 : Int32) dX12_go_67 (by decide) ?_
        refine X_goto (pc := 68) 72 dX12_go_68 (by decide) ?_
        refine X_iadd (pc := 72) dX12_go_72 ?_
        obtain ⟨x14, ex14, hf⟩ := bnd_e hf
        refine X_tope ex14 ?_
        refine X_istore_n (pc := 73) (i := 1) [(1, .int x14), (0, .ref (xB G + 34)), (2, .int l2)] dX12_go_73 rfl (by decide) rfl ?_
        refine X_iinc (pc := 74) (i := 2) (q := 2) (v := (l2 + (1 : Int32))) [(2, .int (l2 + (1 : Int32))), (1, .int x14), (0, .ref (xB G + 34))] dX12_go_74 rfl rfl (by decide) rfl ?_
        refine X_goto (pc := 77) 49 dX12_go_77 (by decide) ?_
        exact X_lvs [2, 1, 0] rfl (ih hf)
theorem u_Md_go_L49 {S : List xSh} : ∀ (n : Nat) {l1 : Int32} {l2 : Int32} {I : Nat → Nat → Int32} {L : Nat → Nat → Int64} {q : (Int32 × (Nat → Nat → Int32) × (Nat → Nat → Int64))}, f_Md_go_L49 n l1 l2 I L = some q → FR S [48, 49, 50, 51, 52, 57, 4424, 4425, 4426, 4427, 4428, 4429, 4430, 4431, 4440, 4442, 4445, 4446, 4447] [58, 59, 4432, 4451, 4452] I q.2.1 L q.2.2 := by
  intro n
  induction n with
  | zero =>
    intro l1 l2 I L q hf
    exact absurd (show none = some q from hf) (by simp)
  | succ n ih =>
    intro l1 l2 I L q hf
    replace hf := (f_Md_go_L49.eq_2 _ _ _ _ _).symm.trans hf
    by_cases c10 : (I 34 0) ≤ l2
    · replace hf := (if_pos c10).symm.trans hf
      cases hf
      exact FR.rf
    · replace hf := (if_neg c10).symm.trans hf
      obtain ⟨c11, hf⟩ := gd_some hf
      by_cases c12 : (I 57 (l2.toNatClampNeg)) = (0 : Int32)
      · replace hf := (if_pos c12).symm.trans hf
        obtain ⟨x13, ex13, hf⟩ := bnd_e hf
        exact FR.tr FR.rf (ih hf) (by decide) (by decide)
      · replace hf := (if_neg c12).symm.trans hf
        obtain ⟨x14, ex14, hf⟩ := bnd_e hf
        exact FR.tr FR.rf (ih hf) (by decide) (by decide)
def f_Md_go (I : Nat → Nat → Int32) (L : Nat → Nat → Int64) : Option (Int32 × (Nat → Nat → Int32) × (Nat → Nat → Int64)) := (if (I 34 24) = (0 : Int32) then (if (0 : Int32) ≤ (I 34 8) then ((f_Md_speeds I L).bind fun q3 => ((f_Md_isLocked q3.1 q3.2).bind fun q5 => (if q5.1 = (0 : Int32) then ((f_Md_renew (uI (uI q5.2.1 34 24 (1 : Int32)) 34 42 (0 : Int32)) q5.2.2).bind fun q8 => (f_Md_go_L49 xF (0 : Int32) (0 : Int32) q8.1 q8.2)) else (some ((-2 : Int32), q5.2.1, q5.2.2))))) else (some ((-2 : Int32), I, L))) else (some ((-2 : Int32), I, L)))
set_option maxRecDepth 100000 in
set_option maxHeartbeats 4000000 in
theorem c_Md_go {G : xG} {S : List xSh} {Rf : Nat → Nat → Option Nat} (hT : xTM S Rf) {I : Nat → Nat → Int32} {L : Nat → Nat → Int64} {q : (Int32 × (Nat → Nat → Int32) × (Nat → Nat → Int64))} (hf : f_Md_go I L = some q) : CT G 6 m_Md_go [.ref (xB G + 34)] (S, I, L, Rf) (some (.int q.1), (S, q.2.1, q.2.2, Rf)) := by
  refine CT.of (by decide +kernel) (Nat.le_of_ble_eq_true rfl) ?_
  show X G 6 m_Md_go 0 [(0, .ref (xB G + 34))] [] (S, I, L, Rf) (some (.int q.1), (S, q.2.1, q.2.2, Rf))
  replace hf := (f_Md_go.eq_1 _ _).symm.trans hf
  refine X_aload_n (pc := 0) (i := 0) 0 dX12_go_0 rfl rfl ?_
  refine X_get (pc := 1) (a := 34) (ci := 11) (j := 24) (.int (I 34 24)) (sh_34 hT) (by decide) k_1221 rfl dX12_go_1 ?_
  by_cases c1 : (I 34 24) = (0 : Int32)
  · replace hf := (if_pos c1).symm.trans hf
    refine X_if_ne_f (pc := 4) 14 dX12_go_4 (by decide) c1 ?_
    refine X_aload_n (pc := 7) (i := 0) 0 dX12_go_7 rfl rfl ?_
    refine X_get (pc := 8) (a := 34) (ci := 11) (j := 8) (.int (I 34 8)) (sh_34 hT) (by decide) k_1205 rfl dX12_go_8 ?_
    by_cases c2 : (0 : Int32) ≤ (I 34 8)
    · replace hf := (if_pos c2).symm.trans hf
      refine X_if_ge_t (pc := 11) 17 dX12_go_11 (by decide) c2 ?_
      refine X_aload_n (pc := 17) (i := 0) 0 dX12_go_17 rfl rfl ?_
      obtain ⟨q3, c4, hf⟩ := bd_some hf
      refine X_invV_v (pc := 18) (c_Md_speeds hT c4) ok_Md_speeds (ci := 11) (sh_34 hT) k_1517 k_1519 k_45 nd_1 (by decide) rfl (Nat.le_of_ble_eq_true rfl) dX12_go_18 ?_
      refine X_aload_n (pc := 21) (i := 0) 0 dX12_go_21 rfl rfl ?_
      obtain ⟨q5, c6, hf⟩ := bd_some hf
      refine X_invV_i (pc := 22) (c_Md_isLocked hT c6) ok_Md_isLocked (ci := 11) (sh_34 hT) k_1538 k_1540 k_49 nd_11 (by decide) rfl (Nat.le_of_ble_eq_true rfl) dX12_go_22 ?_
      by_cases c7 : q5.1 = (0 : Int32)
      · replace hf := (if_pos c7).symm.trans hf
        refine X_if_eq_t (pc := 25) 31 dX12_go_25 (by decide) c7 ?_
        refine X_aload_n (pc := 31) (i := 0) 0 dX12_go_31 rfl rfl ?_
        refine X_iconst (pc := 32) (1 : Int32) dX12_go_32 (by decide) ?_
        refine X_putz (pc := 33) (a := 34) (ci := 11) (j := 24) false (sh_34 hT) (by decide) k_1221 rfl (fun h => by cases h) rfl (by decide) dX12_go_33 ?_
        refine X_aload_n (pc := 36) (i := 0) 0 dX12_go_36 rfl rfl ?_
        refine X_iconst (pc := 37) (0 : Int32) dX12_go_37 (by decide) ?_
        refine X_puti (pc := 38) (a := 34) (ci := 11) (j := 42) false (sh_34 hT) (by decide) k_1239 rfl (fun h => by cases h) rfl dX12_go_38 ?_
        refine X_aload_n (pc := 41) (i := 0) 0 dX12_go_41 rfl rfl ?_
        obtain ⟨q8, c9, hf⟩ := bd_some hf
        refine X_invV_v (pc := 42) (c_Md_renew hT c9) ok_Md_renew (ci := 11) (sh_34 hT) k_1176 k_1178 k_39 nd_1 (by decide) rfl (Nat.le_of_ble_eq_true rfl) dX12_go_42 ?_
        refine X_iconst (pc := 45) (0 : Int32) dX12_go_45 (by decide) ?_
        refine X_istore_n (pc := 46) (i := 1) [(1, .int (0 : Int32)), (0, .ref (xB G + 34))] dX12_go_46 rfl (by decide) rfl ?_
        refine X_iconst (pc := 47) (0 : Int32) dX12_go_47 (by decide) ?_
        refine X_istore_n (pc := 48) (i := 2) [(2, .int (0 : Int32)), (1, .int (0 : Int32)), (0, .ref (xB G + 34))] dX12_go_48 rfl (by decide) rfl ?_
        exact X_lvs [2, 1, 0] rfl (x_Md_go_L49 hT xF hf)
      · replace hf := (if_neg c7).symm.trans hf
        refine X_if_eq_f (pc := 25) 31 dX12_go_25 (by decide) c7 ?_
        refine X_bipush (pc := 28) (-2 : Int32) dX12_go_28 (by decide) ?_
        cases hf
        exact X_ireturn (pc := 30) rfl dX12_go_30
    · replace hf := (if_neg c2).symm.trans hf
      refine X_if_ge_f (pc := 11) 17 dX12_go_11 (by decide) c2 ?_
      refine X_bipush (pc := 14) (-2 : Int32) dX12_go_14 (by decide) ?_
      cases hf
      exact X_ireturn (pc := 16) rfl dX12_go_16
  · replace hf := (if_neg c1).symm.trans hf
    refine X_if_ne_t (pc := 4) 14 dX12_go_4 (by decide) c1 ?_
    refine X_bipush (pc := 14) (-2 : Int32) dX12_go_14 (by decide) ?_
    cases hf
    exact X_ireturn (pc := 16) rfl dX12_go_16
theorem u_Md_go {S : List xSh} {I : Nat → Nat → Int32} {L : Nat → Nat → Int64} {q : (Int32 × (Nat → Nat → Int32) × (Nat → Nat → Int64))} (hf : f_Md_go I L = some q) : FR S [48, 49, 50, 51, 52, 57, 4424, 4425, 4426, 4427, 4428, 4429, 4430, 4431, 4440, 4442, 4445, 4446, 4447] [58, 59, 4432, 4451, 4452] I q.2.1 L q.2.2 := by
  replace hf := (f_Md_go.eq_1 _ _).symm.trans hf
  by_cases c1 : (I 34 24) = (0 : Int32)
  · replace hf := (if_pos c1).symm.trans hf
    by_cases c2 : (0 : Int32) ≤ (I 34 8)
    · replace hf := (if_pos c2).symm.trans hf
      obtain ⟨q3, c4, hf⟩ := bd_some hf
      obtain ⟨q5, c6, hf⟩ := bd_some hf
      by_cases c7 : q5.1 = (0 : Int32)
      · replace hf := (if_pos c7).symm.trans hf
        obtain ⟨q8, c9, hf⟩ := bd_some hf
        exact FR.tr (FR.tr (FR.fi (FR.fi (FR.tr (FR.tr FR.rf (u_Md_speeds (q := q3) c4) (by decide) (by decide)) (u_Md_isLocked (q := q5) c6) (by decide) (by decide)) (by decide)) (by decide)) (u_Md_renew (q := q8) c9) (by decide) (by decide)) (u_Md_go_L49 xF hf) (by decide) (by decide)
      · replace hf := (if_neg c7).symm.trans hf
        cases hf
        exact (FR.tr (FR.tr FR.rf (u_Md_speeds (q := q3) c4) (by decide) (by decide)) (u_Md_isLocked (q := q5) c6) (by decide) (by decide))
    · replace hf := (if_neg c2).symm.trans hf
      cases hf
      exact FR.rf
  · replace hf := (if_neg c1).symm.trans hf
    cases hf
    exact FR.rf
theorem dX12_isBookFull_0 : decode cX12_isBookFull 0 = .ok (.aload_n 0, 1) := by decide +kernel
theorem dX12_isBookFull_1 : decode cX12_isBookFull 1 = .ok (.getfield 144, 3) := by decide +kernel
theorem dX12_isBookFull_4 : decode cX12_isBookFull 4 = .ok (.sipush 2000, 3) := by decide +kernel
theorem dX12_isBookFull_7 : decode cX12_isBookFull 7 = .ok (.if_icmp .ne 14, 3) := by decide +kernel
theorem dX12_isBookFull_10 : decode cX12_isBookFull 10 = .ok (.aload_n 0, 1) := by decide +kernel
theorem dX12_isBookFull_11 : decode cX12_isBookFull 11 = .ok (.getfield 373, 3) := by decide +kernel
theorem dX12_isBookFull_14 : decode cX12_isBookFull 14 = .ok (.ifCond .ne 7, 3) := by decide +kernel
theorem dX12_isBookFull_17 : decode cX12_isBookFull 17 = .ok (.iconst 1, 1) := by decide +kernel
theorem dX12_isBookFull_18 : decode cX12_isBookFull 18 = .ok (.goto 4, 3) := by decide +kernel
theorem dX12_isBookFull_21 : decode cX12_isBookFull 21 = .ok (.iconst 0, 1) := by decide +kernel
theorem dX12_isBookFull_22 : decode cX12_isBookFull 22 = .ok (.ireturn, 1) := by decide +kernel
def f_Md_isBookFull (I : Nat → Nat → Int32) (L : Nat → Nat → Int64) : Int32 := (if (I 34 42) = (2000 : Int32) then (if (I 34 43) = (0 : Int32) then (1 : Int32) else (0 : Int32)) else (0 : Int32))
set_option maxRecDepth 100000 in
set_option maxHeartbeats 4000000 in
theorem c_Md_isBookFull {G : xG} {S : List xSh} {Rf : Nat → Nat → Option Nat} (hT : xTM S Rf) {I : Nat → Nat → Int32} {L : Nat → Nat → Int64} {q : Int32} (hf : f_Md_isBookFull I L = q) : CT G 1 m_Md_isBookFull [.ref (xB G + 34)] (S, I, L, Rf) (some (.int q), (S, I, L, Rf)) := by
  refine CT.of (by decide +kernel) (Nat.le_of_ble_eq_true rfl) ?_
  show X G 1 m_Md_isBookFull 0 [(0, .ref (xB G + 34))] [] (S, I, L, Rf) (some (.int q), (S, I, L, Rf))
  replace hf := (f_Md_isBookFull.eq_1 _ _).symm.trans hf
  refine X_aload_n (pc := 0) (i := 0) 0 dX12_isBookFull_0 rfl rfl ?_
  refine X_get (pc := 1) (a := 34) (ci := 11) (j := 42) (.int (I 34 42)) (sh_34 hT) (by decide) k_1239 rfl dX12_isBookFull_1 ?_
  refine X_sipush (pc := 4) (2000 : Int32) dX12_isBookFull_4 (by decide) ?_
  by_cases c1 : (I 34 42) = (2000 : Int32)
  · replace hf := (if_pos c1).symm.trans hf
    refine X_icmp_ne_f (pc := 7) 21 dX12_isBookFull_7 (by decide) c1 ?_
    refine X_aload_n (pc := 10) (i := 0) 0 dX12_isBookFull_10 rfl rfl ?_
    refine X_get (pc := 11) (a := 34) (ci := 11) (j := 43) (.int (I 34 43)) (sh_34 hT) (by decide) k_1240 rfl dX12_isBookFull_11 ?_
    by_cases c2 : (I 34 43) = (0 : Int32)
    · replace hf := (if_pos c2).symm.trans hf
      refine X_if_ne_f (pc := 14) 21 dX12_isBookFull_14 (by decide) c2 ?_
      refine X_iconst (pc := 17) (1 : Int32) dX12_isBookFull_17 (by decide) ?_
      refine X_goto (pc := 18) 22 dX12_isBookFull_18 (by decide) ?_
      subst hf
      exact X_zreturn (pc := 22) rfl (nar_b (by decide)) dX12_isBookFull_22
    · replace hf := (if_neg c2).symm.trans hf
      refine X_if_ne_t (pc := 14) 21 dX12_isBookFull_14 (by decide) c2 ?_
      refine X_iconst (pc := 21) (0 : Int32) dX12_isBookFull_21 (by decide) ?_
      subst hf
      exact X_zreturn (pc := 22) rfl (nar_b (by decide)) dX12_isBookFull_22
  · replace hf := (if_neg c1).symm.trans hf
    refine X_icmp_ne_t (pc := 7) 21 dX12_isBookFull_7 (by decide) c1 ?_
    refine X_iconst (pc := 21) (0 : Int32) dX12_isBookFull_21 (by decide) ?_
    subst hf
    exact X_zreturn (pc := 22) rfl (nar_b (by decide)) dX12_isBookFull_22
theorem dX12_write_0 : decode cX12_write 0 = .ok (.aload_n 0, 1) := by decide +kernel
theorem dX12_write_1 : decode cX12_write 1 = .ok (.getfield 373, 3) := by decide +kernel
theorem dX12_write_4 : decode cX12_write 4 = .ok (.ifCond .eq 4, 3) := by decide +kernel
theorem dX12_write_7 : decode cX12_write 7 = .ok (.return_, 1) := by decide +kernel
theorem dX12_write_8 : decode cX12_write 8 = .ok (.aload_n 0, 1) := by decide +kernel
theorem dX12_write_9 : decode cX12_write 9 = .ok (.getfield 71, 3) := by decide +kernel
theorem dX12_write_12 : decode cX12_write 12 = .ok (.iconst 4, 1) := by decide +kernel
theorem dX12_write_13 : decode cX12_write 13 = .ok (.aload_n 0, 1) := by decide +kernel
theorem dX12_write_14 : decode cX12_write 14 = .ok (.getfield 144, 3) := by decide +kernel
theorem dX12_write_17 : decode cX12_write 17 = .ok (.imul, 1) := by decide +kernel
theorem dX12_write_18 : decode cX12_write 18 = .ok (.iload_n 1, 1) := by decide +kernel
theorem dX12_write_19 : decode cX12_write 19 = .ok (.iastore, 1) := by decide +kernel
theorem dX12_write_20 : decode cX12_write 20 = .ok (.aload_n 0, 1) := by decide +kernel
theorem dX12_write_21 : decode cX12_write 21 = .ok (.getfield 71, 3) := by decide +kernel
theorem dX12_write_24 : decode cX12_write 24 = .ok (.iconst 4, 1) := by decide +kernel
theorem dX12_write_25 : decode cX12_write 25 = .ok (.aload_n 0, 1) := by decide +kernel
theorem dX12_write_26 : decode cX12_write 26 = .ok (.getfield 144, 3) := by decide +kernel
theorem dX12_write_29 : decode cX12_write 29 = .ok (.imul, 1) := by decide +kernel
theorem dX12_write_30 : decode cX12_write 30 = .ok (.iconst 1, 1) := by decide +kernel
theorem dX12_write_31 : decode cX12_write 31 = .ok (.iadd, 1) := by decide +kernel
theorem dX12_write_32 : decode cX12_write 32 = .ok (.iload_n 2, 1) := by decide +kernel
theorem dX12_write_33 : decode cX12_write 33 = .ok (.iastore, 1) := by decide +kernel
theorem dX12_write_34 : decode cX12_write 34 = .ok (.aload_n 0, 1) := by decide +kernel
theorem dX12_write_35 : decode cX12_write 35 = .ok (.getfield 71, 3) := by decide +kernel
theorem dX12_write_38 : decode cX12_write 38 = .ok (.iconst 4, 1) := by decide +kernel
theorem dX12_write_39 : decode cX12_write 39 = .ok (.aload_n 0, 1) := by decide +kernel
theorem dX12_write_40 : decode cX12_write 40 = .ok (.getfield 144, 3) := by decide +kernel
theorem dX12_write_43 : decode cX12_write 43 = .ok (.imul, 1) := by decide +kernel
theorem dX12_write_44 : decode cX12_write 44 = .ok (.iconst 2, 1) := by decide +kernel
theorem dX12_write_45 : decode cX12_write 45 = .ok (.iadd, 1) := by decide +kernel
theorem dX12_write_46 : decode cX12_write 46 = .ok (.iload_n 3, 1) := by decide +kernel
theorem dX12_write_47 : decode cX12_write 47 = .ok (.iastore, 1) := by decide +kernel
theorem dX12_write_48 : decode cX12_write 48 = .ok (.aload_n 0, 1) := by decide +kernel
theorem dX12_write_49 : decode cX12_write 49 = .ok (.getfield 71, 3) := by decide +kernel
theorem dX12_write_52 : decode cX12_write 52 = .ok (.iconst 4, 1) := by decide +kernel
theorem dX12_write_53 : decode cX12_write 53 = .ok (.aload_n 0, 1) := by decide +kernel
theorem dX12_write_54 : decode cX12_write 54 = .ok (.getfield 144, 3) := by decide +kernel
theorem dX12_write_57 : decode cX12_write 57 = .ok (.imul, 1) := by decide +kernel
theorem dX12_write_58 : decode cX12_write 58 = .ok (.iconst 3, 1) := by decide +kernel
theorem dX12_write_59 : decode cX12_write 59 = .ok (.iadd, 1) := by decide +kernel
theorem dX12_write_60 : decode cX12_write 60 = .ok (.iload 4, 2) := by decide +kernel
theorem dX12_write_62 : decode cX12_write 62 = .ok (.iastore, 1) := by decide +kernel
theorem dX12_write_63 : decode cX12_write 63 = .ok (.aload_n 0, 1) := by decide +kernel
theorem dX12_write_64 : decode cX12_write 64 = .ok (.dup, 1) := by decide +kernel
theorem dX12_write_65 : decode cX12_write 65 = .ok (.getfield 144, 3) := by decide +kernel
theorem dX12_write_68 : decode cX12_write 68 = .ok (.iconst 1, 1) := by decide +kernel
theorem dX12_write_69 : decode cX12_write 69 = .ok (.iadd, 1) := by decide +kernel
theorem dX12_write_70 : decode cX12_write 70 = .ok (.putfield 144, 3) := by decide +kernel
theorem dX12_write_73 : decode cX12_write 73 = .ok (.return_, 1) := by decide +kernel
def f_Md_write (a0 : Int32) (a1 : Int32) (a2 : Int32) (a3 : Int32) (I : Nat → Nat → Int32) (L : Nat → Nat → Int64) : Option ((Nat → Nat → Int32) × (Nat → Nat → Int64)) := (if (I 34 43) = (0 : Int32) then (if (0 ≤ ((4 : Int32) * (I 34 42)) ∧ ((4 : Int32) * (I 34 42)) < (8000 : Int32)) then (if (0 ≤ (((4 : Int32) * (I 34 42)) + (1 : Int32)) ∧ (((4 : Int32) * (I 34 42)) + (1 : Int32)) < (8000 : Int32)) then (if (0 ≤ (((4 : Int32) * (I 34 42)) + (2 : Int32)) ∧ (((4 : Int32) * (I 34 42)) + (2 : Int32)) < (8000 : Int32)) then (if (0 ≤ (((4 : Int32) * (I 34 42)) + (3 : Int32)) ∧ (((4 : Int32) * (I 34 42)) + (3 : Int32)) < (8000 : Int32)) then (bnd ((I 34 42) + (1 : Int32)) fun x6 => (some ((uI (uI (uI (uI (uI I 55 (((4 : Int32) * (I 34 42)).toNatClampNeg) a0) 55 ((((4 : Int32) * (I 34 42)) + (1 : Int32)).toNatClampNeg) a1) 55 ((((4 : Int32) * (I 34 42)) + (2 : Int32)).toNatClampNeg) a2) 55 ((((4 : Int32) * (I 34 42)) + (3 : Int32)).toNatClampNeg) a3) 34 42 x6), L))) else none) else none) else none) else none) else (some (I, L)))
set_option maxRecDepth 100000 in
set_option maxHeartbeats 4000000 in
theorem c_Md_write {G : xG} {S : List xSh} {Rf : Nat → Nat → Option Nat} (hT : xTM S Rf) {a0 : Int32} {a1 : Int32} {a2 : Int32} {a3 : Int32} {I : Nat → Nat → Int32} {L : Nat → Nat → Int64} {q : ((Nat → Nat → Int32) × (Nat → Nat → Int64))} (hf : f_Md_write a0 a1 a2 a3 I L = some q) : CT G 1 m_Md_write [.ref (xB G + 34), .int a0, .int a1, .int a2, .int a3] (S, I, L, Rf) (none, (S, q.1, q.2, Rf)) := by
  refine CT.of (by decide +kernel) (Nat.le_of_ble_eq_true rfl) ?_
  show X G 1 m_Md_write 0 [(0, .ref (xB G + 34)), (1, .int a0), (2, .int a1), (3, .int a2), (4, .int a3)] [] (S, I, L, Rf) (none, (S, q.1, q.2, Rf))
  replace hf := (f_Md_write.eq_1 _ _ _ _ _ _).symm.trans hf
  refine X_aload_n (pc := 0) (i := 0) 0 dX12_write_0 rfl rfl ?_
  refine X_get (pc := 1) (a := 34) (ci := 11) (j := 43) (.int (I 34 43)) (sh_34 hT) (by decide) k_1240 rfl dX12_write_1 ?_
  by_cases c1 : (I 34 43) = (0 : Int32)
  · replace hf := (if_pos c1).symm.trans hf
    refine X_if_eq_t (pc := 4) 8 dX12_write_4 (by decide) c1 ?_
    refine X_aload_n (pc := 8) (i := 0) 0 dX12_write_8 rfl rfl ?_
    refine X_getr (pc := 9) (a := 34) (ci := 11) (j := 41) (c := 55) (sh_34 hT) (by decide) k_1238 (rf_34_41 hT) (fun _ h => h) dX12_write_9 ?_
    refine X_iconst (pc := 12) (4 : Int32) dX12_write_12 (by decide) ?_
    refine X_aload_n (pc := 13) (i := 0) 0 dX12_write_13 rfl rfl ?_
    refine X_get (pc := 14) (a := 34) (ci := 11) (j := 42) (.int (I 34 42)) (sh_34 hT) (by decide) k_1239 rfl dX12_write_14 ?_
    refine X_imul (pc := 17) dX12_write_17 ?_
    refine X_iload_n (pc := 18) (i := 1) 1 dX12_write_18 rfl rfl ?_
    obtain ⟨c2, hf⟩ := gd_some hf
    refine X_iastj (pc := 19) (j := (((4 : Int32) * (I 34 42)).toNatClampNeg)) (sh_55 hT) (vp_in_lit (N := 8000) c2 (by decide)) rfl dX12_write_19 ?_
    refine X_aload_n (pc := 20) (i := 0) 0 dX12_write_20 rfl rfl ?_
    refine X_getr (pc := 21) (a := 34) (ci := 11) (j := 41) (c := 55) (sh_34 hT) (by decide) k_1238 (rf_34_41 hT) (fun _ h => h) dX12_write_21 ?_
    refine X_iconst (pc := 24) (4 : Int32) dX12_write_24 (by decide) ?_
    refine X_aload_n (pc := 25) (i := 0) 0 dX12_write_25 rfl rfl ?_
    refine X_get (pc := 26) (a := 34) (ci := 11) (j := 42) (.int (I 34 42)) (sh_34 hT) (by decide) k_1239 rfl dX12_write_26 ?_
    refine X_imul (pc := 29) dX12_write_29 ?_
    refine X_iconst (pc := 30) (1 : Int32) dX12_write_30 (by decide) ?_
    refine X_iadd (pc := 31) dX12_write_31 ?_
    refine X_iload_n (pc := 32) (i := 2) 2 dX12_write_32 rfl rfl ?_
    obtain ⟨c3, hf⟩ := gd_some hf
    refine X_iastj (pc := 33) (j := ((((4 : Int32) * (I 34 42)) + (1 : Int32)).toNatClampNeg)) (sh_55 hT) (vp_in_lit (N := 8000) c3 (by decide)) rfl dX12_write_33 ?_
    refine X_aload_n (pc := 34) (i := 0) 0 dX12_write_34 rfl rfl ?_
    refine X_getr (pc := 35) (a := 34) (ci := 11) (j := 41) (c := 55) (sh_34 hT) (by decide) k_1238 (rf_34_41 hT) (fun _ h => h) dX12_write_35 ?_
    refine X_iconst (pc := 38) (4 : Int32) dX12_write_38 (by decide) ?_
    refine X_aload_n (pc := 39) (i := 0) 0 dX12_write_39 rfl rfl ?_
    refine X_get (pc := 40) (a := 34) (ci := 11) (j := 42) (.int (I 34 42)) (sh_34 hT) (by decide) k_1239 rfl dX12_write_40 ?_
    refine X_imul (pc := 43) dX12_write_43 ?_
    refine X_iconst (pc := 44) (2 : Int32) dX12_write_44 (by decide) ?_
    refine X_iadd (pc := 45) dX12_write_45 ?_
    refine X_iload_n (pc := 46) (i := 3) 3 dX12_write_46 rfl rfl ?_
    obtain ⟨c4, hf⟩ := gd_some hf
    refine X_iastj (pc := 47) (j := ((((4 : Int32) * (I 34 42)) + (2 : Int32)).toNatClampNeg)) (sh_55 hT) (vp_in_lit (N := 8000) c4 (by decide)) rfl dX12_write_47 ?_
    refine X_aload_n (pc := 48) (i := 0) 0 dX12_write_48 rfl rfl ?_
    refine X_getr (pc := 49) (a := 34) (ci := 11) (j := 41) (c := 55) (sh_34 hT) (by decide) k_1238 (rf_34_41 hT) (fun _ h => h) dX12_write_49 ?_
    refine X_iconst (pc := 52) (4 : Int32) dX12_write_52 (by decide) ?_
    refine X_aload_n (pc := 53) (i := 0) 0 dX12_write_53 rfl rfl ?_
    refine X_get (pc := 54) (a := 34) (ci := 11) (j := 42) (.int (I 34 42)) (sh_34 hT) (by decide) k_1239 rfl dX12_write_54 ?_
    refine X_imul (pc := 57) dX12_write_57 ?_
    refine X_iconst (pc := 58) (3 : Int32) dX12_write_58 (by decide) ?_
    refine X_iadd (pc := 59) dX12_write_59 ?_
    refine X_iload (pc := 60) 4 dX12_write_60 rfl ?_
    obtain ⟨c5, hf⟩ := gd_some hf
    refine X_iastj (pc := 62) (j := ((((4 : Int32) * (I 34 42)) + (3 : Int32)).toNatClampNeg)) (sh_55 hT) (vp_in_lit (N := 8000) c5 (by decide)) rfl dX12_write_62 ?_
    refine X_aload_n (pc := 63) (i := 0) 0 dX12_write_63 rfl rfl ?_
    refine X_dup (pc := 64) dX12_write_64 rfl ?_
    refine X_get (pc := 65) (a := 34) (ci := 11) (j := 42) (.int (I 34 42)) (sh_34 hT) (by decide) k_1239 rfl dX12_write_65 ?_
    refine X_iconst (pc := 68) (1 : Int32) dX12_write_68 (by decide) ?_
    refine X_iadd (pc := 69) dX12_write_69 ?_
    obtain ⟨x6, ex6, hf⟩ := bnd_e hf
    refine X_tope ex6 ?_
    refine X_puti (pc := 70) (a := 34) (ci := 11) (j := 42) false (sh_34 hT) (by decide) k_1239 rfl (fun h => by cases h) rfl dX12_write_70 ?_
    cases hf
    exact X_return (pc := 73) rfl dX12_write_73
  · replace hf := (if_neg c1).symm.trans hf
    refine X_if_eq_f (pc := 4) 8 dX12_write_4 (by decide) c1 ?_
    cases hf
    exact X_return (pc := 7) rfl dX12_write_7
theorem u_Md_write {S : List xSh} {a0 : Int32} {a1 : Int32} {a2 : Int32} {a3 : Int32} {I : Nat → Nat → Int32} {L : Nat → Nat → Int64} {q : ((Nat → Nat → Int32) × (Nat → Nat → Int64))} (hf : f_Md_write a0 a1 a2 a3 I L = some q) : FR S [55, 4442] [] I q.1 L q.2 := by
  replace hf := (f_Md_write.eq_1 _ _ _ _ _ _).symm.trans hf
  by_cases c1 : (I 34 43) = (0 : Int32)
  · replace hf := (if_pos c1).symm.trans hf
    obtain ⟨c2, hf⟩ := gd_some hf
    obtain ⟨c3, hf⟩ := gd_some hf
    obtain ⟨c4, hf⟩ := gd_some hf
    obtain ⟨c5, hf⟩ := gd_some hf
    obtain ⟨x6, ex6, hf⟩ := bnd_e hf
    cases hf
    exact (FR.fi (FR.ai (FR.ai (FR.ai (FR.ai FR.rf (by decide)) (by decide)) (by decide)) (by decide)) (by decide))
  · replace hf := (if_neg c1).symm.trans hf
    cases hf
    exact FR.rf
theorem dX12_setV_0 : decode cX12_setV 0 = .ok (.aload_n 0, 1) := by decide +kernel
theorem dX12_setV_1 : decode cX12_setV 1 = .ok (.ldc2_w 334, 3) := by decide +kernel
theorem dX12_setV_4 : decode cX12_setV 4 = .ok (.ldc2_w 251, 3) := by decide +kernel
theorem dX12_setV_7 : decode cX12_setV 7 = .ok (.lload_n 1, 1) := by decide +kernel
theorem dX12_setV_8 : decode cX12_setV 8 = .ok (.invokestatic 336, 3) := by decide +kernel
theorem dX12_setV_11 : decode cX12_setV 11 = .ok (.invokestatic 339, 3) := by decide +kernel
theorem dX12_setV_14 : decode cX12_setV 14 = .ok (.l2i, 1) := by decide +kernel
theorem dX12_setV_15 : decode cX12_setV 15 = .ok (.putfield 194, 3) := by decide +kernel
theorem dX12_setV_18 : decode cX12_setV 18 = .ok (.return_, 1) := by decide +kernel
def f_Md_setV (a0 : Int64) (I : Nat → Nat → Int32) (L : Nat → Nat → Int64) : Option ((Nat → Nat → Int32) × (Nat → Nat → Int64)) := (bnd (Jmax (-1000000 : Int64) (Jmin (1000000 : Int64) a0)) fun x1 => (bnd (Int64.toInt32 x1) fun x2 => (some ((uI I 34 28 x2), L))))
set_option maxRecDepth 100000 in
set_option maxHeartbeats 4000000 in
theorem c_Md_setV {G : xG} {S : List xSh} {Rf : Nat → Nat → Option Nat} (hT : xTM S Rf) {a0 : Int64} {I : Nat → Nat → Int32} {L : Nat → Nat → Int64} {q : ((Nat → Nat → Int32) × (Nat → Nat → Int64))} (hf : f_Md_setV a0 I L = some q) : CT G 1 m_Md_setV [.ref (xB G + 34), .long a0] (S, I, L, Rf) (none, (S, q.1, q.2, Rf)) := by
  refine CT.of (by decide +kernel) (Nat.le_of_ble_eq_true rfl) ?_
  show X G 1 m_Md_setV 0 [(0, .ref (xB G + 34)), (1, .long a0)] [] (S, I, L, Rf) (none, (S, q.1, q.2, Rf))
  replace hf := (f_Md_setV.eq_1 _ _ _).symm.trans hf
  refine X_aload_n (pc := 0) (i := 0) 0 dX12_setV_0 rfl rfl ?_
  refine X_ldc2 (pc := 1) (-1000000 : Int64) k_1560 dX12_setV_1 ?_
  refine X_ldc2 (pc := 4) (1000000 : Int64) k_1485 dX12_setV_4 ?_
  refine X_lload_n (pc := 7) (i := 1) 1 dX12_setV_7 rfl rfl ?_
  refine X_Jmin (pc := 8) k_1561 (by decide) (Nat.le_of_ble_eq_true rfl) dX12_setV_8 ?_
  refine X_Jmax (pc := 11) k_1562 (by decide) (Nat.le_of_ble_eq_true rfl) dX12_setV_11 ?_
  obtain ⟨x1, ex1, hf⟩ := bnd_e hf
  refine X_tople ex1 ?_
  refine X_l2i (pc := 14) dX12_setV_14 ?_
  obtain ⟨x2, ex2, hf⟩ := bnd_e hf
  refine X_tope ex2 ?_
  refine X_puti (pc := 15) (a := 34) (ci := 11) (j := 28) false (sh_34 hT) (by decide) k_1225 rfl (fun h => by cases h) rfl dX12_setV_15 ?_
  cases hf
  exact X_return (pc := 18) rfl dX12_setV_18
theorem u_Md_setV {S : List xSh} {a0 : Int64} {I : Nat → Nat → Int32} {L : Nat → Nat → Int64} {q : ((Nat → Nat → Int32) × (Nat → Nat → Int64))} (hf : f_Md_setV a0 I L = some q) : FR S [4428] [] I q.1 L q.2 := by
  replace hf := (f_Md_setV.eq_1 _ _ _).symm.trans hf
  obtain ⟨x1, ex1, hf⟩ := bnd_e hf
  obtain ⟨x2, ex2, hf⟩ := bnd_e hf
  cases hf
  exact (FR.fi FR.rf (by decide))
theorem dX12_isKnown_0 : decode cX12_isKnown 0 = .ok (.iload_n 1, 1) := by decide +kernel
theorem dX12_isKnown_1 : decode cX12_isKnown 1 = .ok (.ifCond .lt 16, 3) := by decide +kernel
theorem dX12_isKnown_4 : decode cX12_isKnown 4 = .ok (.aload_n 0, 1) := by decide +kernel
theorem dX12_isKnown_5 : decode cX12_isKnown 5 = .ok (.getfield 77, 3) := by decide +kernel
theorem dX12_isKnown_8 : decode cX12_isKnown 8 = .ok (.iload_n 1, 1) := by decide +kernel
theorem dX12_isKnown_9 : decode cX12_isKnown 9 = .ok (.baload, 1) := by decide +kernel
theorem dX12_isKnown_10 : decode cX12_isKnown 10 = .ok (.ifCond .eq 7, 3) := by decide +kernel
theorem dX12_isKnown_13 : decode cX12_isKnown 13 = .ok (.iconst 1, 1) := by decide +kernel
theorem dX12_isKnown_14 : decode cX12_isKnown 14 = .ok (.goto 4, 3) := by decide +kernel
theorem dX12_isKnown_17 : decode cX12_isKnown 17 = .ok (.iconst 0, 1) := by decide +kernel
theorem dX12_isKnown_18 : decode cX12_isKnown 18 = .ok (.ireturn, 1) := by decide +kernel
def f_Md_isKnown (a0 : Int32) (I : Nat → Nat → Int32) (L : Nat → Nat → Int64) : Option Int32 := (if a0 < (0 : Int32) then (some (0 : Int32)) else (if (0 ≤ a0 ∧ a0 < (24 : Int32)) then (if (I 57 (a0.toNatClampNeg)) = (0 : Int32) then (some (0 : Int32)) else (some (1 : Int32))) else none))
set_option maxRecDepth 100000 in
set_option maxHeartbeats 4000000 in
theorem c_Md_isKnown {G : xG} {S : List xSh} {Rf : Nat → Nat → Option Nat} (hT : xTM S Rf) {a0 : Int32} {I : Nat → Nat → Int32} {L : Nat → Nat → Int64} {q : Int32} (hf : f_Md_isKnown a0 I L = some q) : CT G 1 m_Md_isKnown [.ref (xB G + 34), .int a0] (S, I, L, Rf) (some (.int q), (S, I, L, Rf)) := by
  refine CT.of (by decide +kernel) (Nat.le_of_ble_eq_true rfl) ?_
  show X G 1 m_Md_isKnown 0 [(0, .ref (xB G + 34)), (1, .int a0)] [] (S, I, L, Rf) (some (.int q), (S, I, L, Rf))
  replace hf := (f_Md_isKnown.eq_1 _ _ _).symm.trans hf
  refine X_iload_n (pc := 0) (i := 1) 1 dX12_isKnown_0 rfl rfl ?_
  by_cases c1 : a0 < (0 : Int32)
  · replace hf := (if_pos c1).symm.trans hf
    refine X_if_lt_t (pc := 1) 17 dX12_isKnown_1 (by decide) c1 ?_
    refine X_iconst (pc := 17) (0 : Int32) dX12_isKnown_17 (by decide) ?_
    cases hf
    exact X_zreturn (pc := 18) rfl (nar_b (by decide)) dX12_isKnown_18
  · replace hf := (if_neg c1).symm.trans hf
    refine X_if_lt_f (pc := 1) 17 dX12_isKnown_1 (by decide) c1 ?_
    refine X_aload_n (pc := 4) (i := 0) 0 dX12_isKnown_4 rfl rfl ?_
    refine X_getr (pc := 5) (a := 34) (ci := 11) (j := 48) (c := 57) (sh_34 hT) (by decide) k_1245 (rf_34_48 hT) (fun _ h => h) dX12_isKnown_5 ?_
    refine X_iload_n (pc := 8) (i := 1) 1 dX12_isKnown_8 rfl rfl ?_
    obtain ⟨c2, hf⟩ := gd_some hf
    refine X_zaldj (pc := 9) (j := a0.toNatClampNeg) (I 57 (a0.toNatClampNeg)) (sh_57 hT) (vp_in_lit (N := 24) c2 (by decide)) rfl rfl dX12_isKnown_9 ?_
    by_cases c3 : (I 57 (a0.toNatClampNeg)) = (0 : Int32)
    · replace hf := (if_pos c3).symm.trans hf
      refine X_if_eq_t (pc := 10) 17 dX12_isKnown_10 (by decide) c3 ?_
      refine X_iconst (pc := 17) (0 : Int32) dX12_isKnown_17 (by decide) ?_
      cases hf
      exact X_zreturn (pc := 18) rfl (nar_b (by decide)) dX12_isKnown_18
    · replace hf := (if_neg c3).symm.trans hf
      refine X_if_eq_f (pc := 10) 17 dX12_isKnown_10 (by decide) c3 ?_
      refine X_iconst (pc := 13) (1 : Int32) dX12_isKnown_13 (by decide) ?_
      refine X_goto (pc := 14) 18 dX12_isKnown_14 (by decide) ?_
      cases hf
      exact X_zreturn (pc := 18) rfl (nar_b (by decide)) dX12_isKnown_18
theorem dX12_hasBarrel_0 : decode cX12_hasBarrel 0 = .ok (.aload_n 0, 1) := by decide +kernel
theorem dX12_hasBarrel_1 : decode cX12_hasBarrel 1 = .ok (.aload_n 0, 1) := by decide +kernel
theorem dX12_hasBarrel_2 : decode cX12_hasBarrel 2 = .ok (.getfield 169, 3) := by decide +kernel
theorem dX12_hasBarrel_5 : decode cX12_hasBarrel 5 = .ok (.invokevirtual 316, 3) := by decide +kernel
theorem dX12_hasBarrel_8 : decode cX12_hasBarrel 8 = .ok (.ireturn, 1) := by decide +kernel
def f_Md_hasBarrel (I : Nat → Nat → Int32) (L : Nat → Nat → Int64) : Option Int32 := ((f_Md_isKnown (I 34 14) I L).bind fun q1 => (if (q1 = (0 : Int32) ∨ q1 = (1 : Int32)) then (some q1) else none))
set_option maxRecDepth 100000 in
set_option maxHeartbeats 4000000 in
theorem c_Md_hasBarrel {G : xG} {S : List xSh} {Rf : Nat → Nat → Option Nat} (hT : xTM S Rf) {I : Nat → Nat → Int32} {L : Nat → Nat → Int64} {q : Int32} (hf : f_Md_hasBarrel I L = some q) : CT G 2 m_Md_hasBarrel [.ref (xB G + 34)] (S, I, L, Rf) (some (.int q), (S, I, L, Rf)) := by
  refine CT.of (by decide +kernel) (Nat.le_of_ble_eq_true rfl) ?_
  show X G 2 m_Md_hasBarrel 0 [(0, .ref (xB G + 34))] [] (S, I, L, Rf) (some (.int q), (S, I, L, Rf))
  replace hf := (f_Md_hasBarrel.eq_1 _ _).symm.trans hf
  refine X_aload_n (pc := 0) (i := 0) 0 dX12_hasBarrel_0 rfl rfl ?_
  refine X_aload_n (pc := 1) (i := 0) 0 dX12_hasBarrel_1 rfl rfl ?_
  refine X_get (pc := 2) (a := 34) (ci := 11) (j := 14) (.int (I 34 14)) (sh_34 hT) (by decide) k_1211 rfl dX12_hasBarrel_2 ?_
  obtain ⟨q1, c2, hf⟩ := bd_some hf
  refine X_invV_i (pc := 5) (c_Md_isKnown hT c2) ok_Md_isKnown (ci := 11) (sh_34 hT) k_1574 k_1576 k_55 nd_5 (by decide) rfl (Nat.le_of_ble_eq_true rfl) dX12_hasBarrel_5 ?_
  obtain ⟨c3, hf⟩ := gd_some hf
  cases hf
  exact X_zreturn (pc := 8) rfl (nar_b c3) dX12_hasBarrel_8
theorem dX12_letDown_0 : decode cX12_letDown 0 = .ok (.aload_n 0, 1) := by decide +kernel
theorem dX12_letDown_1 : decode cX12_letDown 1 = .ok (.invokevirtual 321, 3) := by decide +kernel
theorem dX12_letDown_4 : decode cX12_letDown 4 = .ok (.ifCond .eq 53, 3) := by decide +kernel
theorem dX12_letDown_7 : decode cX12_letDown 7 = .ok (.ldc2_w 324, 3) := by decide +kernel
theorem dX12_letDown_10 : decode cX12_letDown 10 = .ok (.aload_n 0, 1) := by decide +kernel
theorem dX12_letDown_11 : decode cX12_letDown 11 = .ok (.getfield 80, 3) := by decide +kernel
theorem dX12_letDown_14 : decode cX12_letDown 14 = .ok (.aload_n 0, 1) := by decide +kernel
theorem dX12_letDown_15 : decode cX12_letDown 15 = .ok (.getfield 169, 3) := by decide +kernel
theorem dX12_letDown_18 : decode cX12_letDown 18 = .ok (.laload, 1) := by decide +kernel
theorem dX12_letDown_19 : decode cX12_letDown 19 = .ok (.invokestatic 287, 3) := by decide +kernel
theorem dX12_letDown_22 : decode cX12_letDown 22 = .ok (.lmul, 1) := by decide +kernel
theorem dX12_letDown_23 : decode cX12_letDown 23 = .ok (.aload_n 0, 1) := by decide +kernel
theorem dX12_letDown_24 : decode cX12_letDown 24 = .ok (.getfield 185, 3) := by decide +kernel
theorem dX12_letDown_27 : decode cX12_letDown 27 = .ok (.i2l, 1) := by decide +kernel
theorem dX12_letDown_28 : decode cX12_letDown 28 = .ok (.lmul, 1) := by decide +kernel
theorem dX12_letDown_29 : decode cX12_letDown 29 = .ok (.aload_n 0, 1) := by decide +kernel
theorem dX12_letDown_30 : decode cX12_letDown 30 = .ok (.getfield 84, 3) := by decide +kernel
theorem dX12_letDown_33 : decode cX12_letDown 33 = .ok (.aload_n 0, 1) := by decide +kernel
theorem dX12_letDown_34 : decode cX12_letDown 34 = .ok (.getfield 169, 3) := by decide +kernel
theorem dX12_letDown_37 : decode cX12_letDown 37 = .ok (.laload, 1) := by decide +kernel
theorem dX12_letDown_38 : decode cX12_letDown 38 = .ok (.ldc2_w 253, 3) := by decide +kernel
theorem dX12_letDown_41 : decode cX12_letDown 41 = .ok (.lmul, 1) := by decide +kernel
theorem dX12_letDown_42 : decode cX12_letDown 42 = .ok (.aload_n 0, 1) := by decide +kernel
theorem dX12_letDown_43 : decode cX12_letDown 43 = .ok (.getfield 153, 3) := by decide +kernel
theorem dX12_letDown_46 : decode cX12_letDown 46 = .ok (.i2l, 1) := by decide +kernel
theorem dX12_letDown_47 : decode cX12_letDown 47 = .ok (.lmul, 1) := by decide +kernel
theorem dX12_letDown_48 : decode cX12_letDown 48 = .ok (.ldiv, 1) := by decide +kernel
theorem dX12_letDown_49 : decode cX12_letDown 49 = .ok (.aload_n 0, 1) := by decide +kernel
theorem dX12_letDown_50 : decode cX12_letDown 50 = .ok (.getfield 206, 3) := by decide +kernel
theorem dX12_letDown_53 : decode cX12_letDown 53 = .ok (.lsub, 1) := by decide +kernel
theorem dX12_letDown_54 : decode cX12_letDown 54 = .ok (.goto 4, 3) := by decide +kernel
theorem dX12_letDown_57 : decode cX12_letDown 57 = .ok (.lconst 0, 1) := by decide +kernel
theorem dX12_letDown_58 : decode cX12_letDown 58 = .ok (.lreturn, 1) := by decide +kernel
def f_Md_letDown (I : Nat → Nat → Int32) (L : Nat → Nat → Int64) : Option Int64 := ((f_Md_hasBarrel I L).bind fun q1 => (if q1 = (0 : Int32) then (some (0 : Int64)) else (if (0 ≤ (I 34 14) ∧ (I 34 14) < (24 : Int32)) then (bnd (((256 : Int64) * (Jabs (L 58 ((I 34 14).toNatClampNeg)))) * (Int32.toInt64 (I 34 25))) fun x5 => (if (0 ≤ (I 34 14) ∧ (I 34 14) < (24 : Int32)) then (if ¬ (((L 59 ((I 34 14).toNatClampNeg)) * (2 : Int64)) * (Int32.toInt64 (I 34 9))) = (0 : Int64) then (bnd ((x5 / (((L 59 ((I 34 14).toNatClampNeg)) * (2 : Int64)) * (Int32.toInt64 (I 34 9)))) - (L 34 32)) fun x8 => (some x8)) else none) else none)) else none)))
set_option maxRecDepth 100000 in
set_option maxHeartbeats 4000000 in
theorem c_Md_letDown {G : xG} {S : List xSh} {Rf : Nat → Nat → Option Nat} (hT : xTM S Rf) {I : Nat → Nat → Int32} {L : Nat → Nat → Int64} {q : Int64} (hf : f_Md_letDown I L = some q) : CT G 3 m_Md_letDown [.ref (xB G + 34)] (S, I, L, Rf) (some (.long q), (S, I, L, Rf)) := by
  refine CT.of (by decide +kernel) (Nat.le_of_ble_eq_true rfl) ?_
  show X G 3 m_Md_letDown 0 [(0, .ref (xB G + 34))] [] (S, I, L, Rf) (some (.long q), (S, I, L, Rf))
  replace hf := (f_Md_letDown.eq_1 _ _).symm.trans hf
  refine X_aload_n (pc := 0) (i := 0) 0 dX12_letDown_0 rfl rfl ?_
  obtain ⟨q1, c2, hf⟩ := bd_some hf
  refine X_invV_i (pc := 1) (c_Md_hasBarrel hT c2) ok_Md_hasBarrel (ci := 11) (sh_34 hT) k_1570 k_1572 k_54 nd_11 (by decide) rfl (Nat.le_of_ble_eq_true rfl) dX12_letDown_1 ?_
  by_cases c3 : q1 = (0 : Int32)
  · replace hf := (if_pos c3).symm.trans hf
    refine X_if_eq_t (pc := 4) 57 dX12_letDown_4 (by decide) c3 ?_
    refine X_lconst (pc := 57) (0 : Int64) dX12_letDown_57 (by decide) ?_
    cases hf
    exact X_lreturn (pc := 58) rfl dX12_letDown_58
  · replace hf := (if_neg c3).symm.trans hf
    refine X_if_eq_f (pc := 4) 57 dX12_letDown_4 (by decide) c3 ?_
    refine X_ldc2 (pc := 7) (256 : Int64) k_1582 dX12_letDown_7 ?_
    refine X_aload_n (pc := 10) (i := 0) 0 dX12_letDown_10 rfl rfl ?_
    refine X_getr (pc := 11) (a := 34) (ci := 11) (j := 49) (c := 58) (sh_34 hT) (by decide) k_1246 (rf_34_49 hT) (fun _ h => h) dX12_letDown_11 ?_
    refine X_aload_n (pc := 14) (i := 0) 0 dX12_letDown_14 rfl rfl ?_
    refine X_get (pc := 15) (a := 34) (ci := 11) (j := 14) (.int (I 34 14)) (sh_34 hT) (by decide) k_1211 rfl dX12_letDown_15 ?_
    obtain ⟨c4, hf⟩ := gd_some hf
    refine X_laldj (pc := 18) (j := (I 34 14).toNatClampNeg) (L 58 ((I 34 14).toNatClampNeg)) (sh_58 hT) (vp_in_lit (N := 24) c4 (by decide)) rfl rfl dX12_letDown_18 ?_
    refine X_Jabs (pc := 19) k_1537 (by decide) (Nat.le_of_ble_eq_true rfl) dX12_letDown_19 ?_
    refine X_lmul (pc := 22) dX12_letDown_22 ?_
    refine X_aload_n (pc := 23) (i := 0) 0 dX12_letDown_23 rfl rfl ?_
    refine X_get (pc := 24) (a := 34) (ci := 11) (j := 25) (.int (I 34 25)) (sh_34 hT) (by decide) k_1222 rfl dX12_letDown_24 ?_
    refine X_i2l (pc := 27) dX12_letDown_27 ?_
    refine X_lmul (pc := 28) dX12_letDown_28 ?_
    obtain ⟨x5, ex5, hf⟩ := bnd_e hf
    refine X_tople ex5 ?_
    refine X_aload_n (pc := 29) (i := 0) 0 dX12_letDown_29 rfl rfl ?_
    refine X_getr (pc := 30) (a := 34) (ci := 11) (j := 50) (c := 59) (sh_34 hT) (by decide) k_1247 (rf_34_50 hT) (fun _ h => h) dX12_letDown_30 ?_
    refine X_aload_n (pc := 33) (i := 0) 0 dX12_letDown_33 rfl rfl ?_
    refine X_get (pc := 34) (a := 34) (ci := 11) (j := 14) (.int (I 34 14)) (sh_34 hT) (by decide) k_1211 rfl dX12_letDown_34 ?_
    obtain ⟨c6, hf⟩ := gd_some hf
    refine X_laldj (pc := 37) (j := (I 34 14).toNatClampNeg) (L 59 ((I 34 14).toNatClampNeg)) (sh_59 hT) (vp_in_lit (N := 24) c6 (by decide)) rfl rfl dX12_letDown_37 ?_
    refine X_ldc2 (pc := 38) (2 : Int64) k_1490 dX12_letDown_38 ?_
    refine X_lmul (pc := 41) dX12_letDown_41 ?_
    refine X_aload_n (pc := 42) (i := 0) 0 dX12_letDown_42 rfl rfl ?_
    refine X_get (pc := 43) (a := 34) (ci := 11) (j := 9) (.int (I 34 9)) (sh_34 hT) (by decide) k_1206 rfl dX12_letDown_43 ?_
    refine X_i2l (pc := 46) dX12_letDown_46 ?_
    refine X_lmul (pc := 47) dX12_letDown_47 ?_
    obtain ⟨c7, hf⟩ := gd_some hf
    refine X_ldiv (pc := 48) dX12_letDown_48 c7 ?_
    refine X_aload_n (pc := 49) (i := 0) 0 dX12_letDown_49 rfl rfl ?_
    refine X_get (pc := 50) (a := 34) (ci := 11) (j := 32) (.long (L 34 32)) (sh_34 hT) (by decide) k_1229 rfl dX12_letDown_50 ?_
    refine X_lsub (pc := 53) dX12_letDown_53 ?_
    obtain ⟨x8, ex8, hf⟩ := bnd_e hf
    refine X_tople ex8 ?_
    refine X_goto (pc := 54) 58 dX12_letDown_54 (by decide) ?_
    cases hf
    exact X_lreturn (pc := 58) rfl dX12_letDown_58
theorem dX12_torqueNow_0 : decode cX12_torqueNow 0 = .ok (.aload_n 0, 1) := by decide +kernel
theorem dX12_torqueNow_1 : decode cX12_torqueNow 1 = .ok (.invokevirtual 321, 3) := by decide +kernel
theorem dX12_torqueNow_4 : decode cX12_torqueNow 4 = .ok (.ifCond .ne 10, 3) := by decide +kernel
theorem dX12_torqueNow_7 : decode cX12_torqueNow 7 = .ok (.aload_n 0, 1) := by decide +kernel
theorem dX12_torqueNow_8 : decode cX12_torqueNow 8 = .ok (.getfield 28, 3) := by decide +kernel
theorem dX12_torqueNow_11 : decode cX12_torqueNow 11 = .ok (.iconst 0, 1) := by decide +kernel
theorem dX12_torqueNow_12 : decode cX12_torqueNow 12 = .ok (.iaload, 1) := by decide +kernel
theorem dX12_torqueNow_13 : decode cX12_torqueNow 13 = .ok (.ireturn, 1) := by decide +kernel
theorem dX12_torqueNow_14 : decode cX12_torqueNow 14 = .ok (.aload_n 0, 1) := by decide +kernel
theorem dX12_torqueNow_15 : decode cX12_torqueNow 15 = .ok (.invokevirtual 326, 3) := by decide +kernel
theorem dX12_torqueNow_18 : decode cX12_torqueNow 18 = .ok (.lstore_n 1, 1) := by decide +kernel
theorem dX12_torqueNow_19 : decode cX12_torqueNow 19 = .ok (.lload_n 1, 1) := by decide +kernel
theorem dX12_torqueNow_20 : decode cX12_torqueNow 20 = .ok (.bipush 8, 2) := by decide +kernel
theorem dX12_torqueNow_22 : decode cX12_torqueNow 22 = .ok (.lshr, 1) := by decide +kernel
theorem dX12_torqueNow_23 : decode cX12_torqueNow 23 = .ok (.lstore_n 3, 1) := by decide +kernel
theorem dX12_torqueNow_24 : decode cX12_torqueNow 24 = .ok (.lload_n 1, 1) := by decide +kernel
theorem dX12_torqueNow_25 : decode cX12_torqueNow 25 = .ok (.ldc2_w 330, 3) := by decide +kernel
theorem dX12_torqueNow_28 : decode cX12_torqueNow 28 = .ok (.land, 1) := by decide +kernel
theorem dX12_torqueNow_29 : decode cX12_torqueNow 29 = .ok (.l2i, 1) := by decide +kernel
theorem dX12_torqueNow_30 : decode cX12_torqueNow 30 = .ok (.istore 5, 2) := by decide +kernel
theorem dX12_torqueNow_32 : decode cX12_torqueNow 32 = .ok (.lload_n 3, 1) := by decide +kernel
theorem dX12_torqueNow_33 : decode cX12_torqueNow 33 = .ok (.ldc2_w 332, 3) := by decide +kernel
theorem dX12_torqueNow_36 : decode cX12_torqueNow 36 = .ok (.lcmp, 1) := by decide +kernel
theorem dX12_torqueNow_37 : decode cX12_torqueNow 37 = .ok (.ifCond .le 5, 3) := by decide +kernel
theorem dX12_torqueNow_40 : decode cX12_torqueNow 40 = .ok (.iconst 0, 1) := by decide +kernel
theorem dX12_torqueNow_41 : decode cX12_torqueNow 41 = .ok (.ireturn, 1) := by decide +kernel
theorem dX12_torqueNow_42 : decode cX12_torqueNow 42 = .ok (.lload_n 3, 1) := by decide +kernel
theorem dX12_torqueNow_43 : decode cX12_torqueNow 43 = .ok (.l2i, 1) := by decide +kernel
theorem dX12_torqueNow_44 : decode cX12_torqueNow 44 = .ok (.istore 6, 2) := by decide +kernel
theorem dX12_torqueNow_46 : decode cX12_torqueNow 46 = .ok (.aload_n 0, 1) := by decide +kernel
theorem dX12_torqueNow_47 : decode cX12_torqueNow 47 = .ok (.getfield 28, 3) := by decide +kernel
theorem dX12_torqueNow_50 : decode cX12_torqueNow 50 = .ok (.iload 6, 2) := by decide +kernel
theorem dX12_torqueNow_52 : decode cX12_torqueNow 52 = .ok (.iaload, 1) := by decide +kernel
theorem dX12_torqueNow_53 : decode cX12_torqueNow 53 = .ok (.aload_n 0, 1) := by decide +kernel
theorem dX12_torqueNow_54 : decode cX12_torqueNow 54 = .ok (.getfield 28, 3) := by decide +kernel
theorem dX12_torqueNow_57 : decode cX12_torqueNow 57 = .ok (.iload 6, 2) := by decide +kernel
theorem dX12_torqueNow_59 : decode cX12_torqueNow 59 = .ok (.iconst 1, 1) := by decide +kernel
theorem dX12_torqueNow_60 : decode cX12_torqueNow 60 = .ok (.iadd, 1) := by decide +kernel
theorem dX12_torqueNow_61 : decode cX12_torqueNow 61 = .ok (.iaload, 1) := by decide +kernel
theorem dX12_torqueNow_62 : decode cX12_torqueNow 62 = .ok (.aload_n 0, 1) := by decide +kernel
theorem dX12_torqueNow_63 : decode cX12_torqueNow 63 = .ok (.getfield 28, 3) := by decide +kernel
theorem dX12_torqueNow_66 : decode cX12_torqueNow 66 = .ok (.iload 6, 2) := by decide +kernel
theorem dX12_torqueNow_68 : decode cX12_torqueNow 68 = .ok (.iaload, 1) := by decide +kernel
theorem dX12_torqueNow_69 : decode cX12_torqueNow 69 = .ok (.isub, 1) := by decide +kernel
theorem dX12_torqueNow_70 : decode cX12_torqueNow 70 = .ok (.iload 5, 2) := by decide +kernel
theorem dX12_torqueNow_72 : decode cX12_torqueNow 72 = .ok (.imul, 1) := by decide +kernel
theorem dX12_torqueNow_73 : decode cX12_torqueNow 73 = .ok (.bipush 8, 2) := by decide +kernel
theorem dX12_torqueNow_75 : decode cX12_torqueNow 75 = .ok (.ishr, 1) := by decide +kernel
theorem dX12_torqueNow_76 : decode cX12_torqueNow 76 = .ok (.iadd, 1) := by decide +kernel
theorem dX12_torqueNow_77 : decode cX12_torqueNow 77 = .ok (.ireturn, 1) := by decide +kernel
def f_Md_torqueNow (I : Nat → Nat → Int32) (L : Nat → Nat → Int64) : Option Int32 := ((f_Md_hasBarrel I L).bind fun q1 => (if q1 = (0 : Int32) then (some (I 41 0)) else ((f_Md_letDown I L).bind fun q4 => (bnd (q4 >>> (Int32.toInt64 (8 : Int32) &&& 63)) fun x6 => (bnd (Int64.toInt32 (q4 &&& (255 : Int64))) fun x7 => (if x6 ≤ (7 : Int64) then (bnd (Int64.toInt32 x6) fun x9 => (if (0 ≤ x9 ∧ x9 < (9 : Int32)) then (if (0 ≤ (x9 + (1 : Int32)) ∧ (x9 + (1 : Int32)) < (9 : Int32)) then (if (0 ≤ x9 ∧ x9 < (9 : Int32)) then (bnd ((I 41 (x9.toNatClampNeg)) + ((((I 41 ((x9 + (1 : Int32)).toNatClampNeg)) - (I 41 (x9.toNatClampNeg))) * x7) >>> ((8 : Int32) &&& 31))) fun x13 => (some x13)) else none) else none) else none)) else (some (0 : Int32))))))))
set_option maxRecDepth 100000 in
set_option maxHeartbeats 4000000 in
theorem c_Md_torqueNow {G : xG} {S : List xSh} {Rf : Nat → Nat → Option Nat} (hT : xTM S Rf) {I : Nat → Nat → Int32} {L : Nat → Nat → Int64} {q : Int32} (hf : f_Md_torqueNow I L = some q) : CT G 4 m_Md_torqueNow [.ref (xB G + 34)] (S, I, L, Rf) (some (.int q), (S, I, L, Rf)) := by
  refine CT.of (by decide +kernel) (Nat.le_of_ble_eq_true rfl) ?_
  show X G 4 m_Md_torqueNow 0 [(0, .ref (xB G + 34))] [] (S, I, L, Rf) (some (.int q), (S, I, L, Rf))
  replace hf := (f_Md_torqueNow.eq_1 _ _).symm.trans hf
  refine X_aload_n (pc := 0) (i := 0) 0 dX12_torqueNow_0 rfl rfl ?_
  obtain ⟨q1, c2, hf⟩ := bd_some hf
  refine X_invV_i (pc := 1) (c_Md_hasBarrel hT c2) ok_Md_hasBarrel (ci := 11) (sh_34 hT) k_1570 k_1572 k_54 nd_11 (by decide) rfl (Nat.le_of_ble_eq_true rfl) dX12_torqueNow_1 ?_
  by_cases c3 : q1 = (0 : Int32)
  · replace hf := (if_pos c3).symm.trans hf
    refine X_if_ne_f (pc := 4) 14 dX12_torqueNow_4 (by decide) c3 ?_
    refine X_aload_n (pc := 7) (i := 0) 0 dX12_torqueNow_7 rfl rfl ?_
    refine X_getr (pc := 8) (a := 34) (ci := 11) (j := 15) (c := 41) (sh_34 hT) (by decide) k_1212 (rf_34_15 hT) (fun _ h => h) dX12_torqueNow_8 ?_
    refine X_iconst (pc := 11) (0 : Int32) dX12_torqueNow_11 (by decide) ?_
    refine X_ialdj (pc := 12) (j := 0) (I 41 0) (sh_41 hT) (vp_in_lit (N := 9) (by decide) (by decide)) (by decide) rfl dX12_torqueNow_12 ?_
    cases hf
    exact X_ireturn (pc := 13) rfl dX12_torqueNow_13
  · replace hf := (if_neg c3).symm.trans hf
    refine X_if_ne_t (pc := 4) 14 dX12_torqueNow_4 (by decide) c3 ?_
    refine X_aload_n (pc := 14) (i := 0) 0 dX12_torqueNow_14 rfl rfl ?_
    obtain ⟨q4, c5, hf⟩ := bd_some hf
    refine X_invV_l (pc := 15) (c_Md_letDown hT c5) ok_Md_letDown (ci := 11) (sh_34 hT) k_1578 k_1580 k_56 nd_21 (by decide) rfl (Nat.le_of_ble_eq_true rfl) dX12_torqueNow_15 ?_
    refine X_lstore_n (pc := 18) (i := 1) [(1, .long q4), (0, .ref (xB G + 34))] dX12_torqueNow_18 rfl (by decide) rfl ?_
    refine X_lload_n (pc := 19) (i := 1) 0 dX12_torqueNow_19 rfl rfl ?_
    refine X_bipush (pc := 20) (8 : Int32) dX12_torqueNow_20 (by decide) ?_
    refine X_lshr (pc := 22) dX12_torqueNow_22 ?_
    obtain ⟨x6, ex6, hf⟩ := bnd_e hf
    refine X_tople ex6 ?_
    refine X_lstore_n (pc := 23) (i := 3) [(3, .long x6), (1, .long q4), (0, .ref (xB G + 34))] dX12_torqueNow_23 rfl (by decide) rfl ?_
    refine X_lload_n (pc := 24) (i := 1) 1 dX12_torqueNow_24 rfl rfl ?_
    refine X_ldc2 (pc := 25) (255 : Int64) k_1583 dX12_torqueNow_25 ?_
    refine X_land (pc := 28) dX12_torqueNow_28 ?_
    refine X_l2i (pc := 29) dX12_torqueNow_29 ?_
    obtain ⟨x7, ex7, hf⟩ := bnd_e hf
    refine X_tope ex7 ?_
    refine X_istore (pc := 30) [(5, .int x7), (3, .long x6), (1, .long q4), (0, .ref (xB G + 34))] dX12_torqueNow_30 (by decide) rfl ?_
    refine X_lload_n (pc := 32) (i := 3) 1 dX12_torqueNow_32 rfl rfl ?_
    refine X_ldc2 (pc := 33) (7 : Int64) k_1584 dX12_torqueNow_33 ?_
    refine X_lcmp (pc := 36) dX12_torqueNow_36 ?_
    by_cases c8 : x6 ≤ (7 : Int64)
    · replace hf := (if_pos c8).symm.trans hf
      refine X_if_le_t (pc := 37) 42 dX12_torqueNow_37 (by decide) ((lg_cmp_le _ _).mpr c8) ?_
      refine X_lload_n (pc := 42) (i := 3) 1 dX12_torqueNow_42 rfl rfl ?_
      refine X_l2i (pc := 43) dX12_torqueNow_43 ?_
      obtain ⟨x9, ex9, hf⟩ := bnd_e hf
      refine X_tope ex9 ?_
      refine X_istore (pc := 44) [(6, .int x9), (5, .int x7), (3, .long x6), (1, .long q4), (0, .ref (xB G + 34))] dX12_torqueNow_44 (by decide) rfl ?_
      refine X_aload_n (pc := 46) (i := 0) 4 dX12_torqueNow_46 rfl rfl ?_
      refine X_getr (pc := 47) (a := 34) (ci := 11) (j := 15) (c := 41) (sh_34 hT) (by decide) k_1212 (rf_34_15 hT) (fun _ h => h) dX12_torqueNow_47 ?_
      refine X_iload (pc := 50) 0 dX12_torqueNow_50 rfl ?_
      obtain ⟨c10, hf⟩ := gd_some hf
      refine X_ialdj (pc := 52) (j := x9.toNatClampNeg) (I 41 (x9.toNatClampNeg)) (sh_41 hT) (vp_in_lit (N := 9) c10 (by decide)) rfl rfl dX12_torqueNow_52 ?_
      refine X_aload_n (pc := 53) (i := 0) 4 dX12_torqueNow_53 rfl rfl ?_
      refine X_getr (pc := 54) (a := 34) (ci := 11) (j := 15) (c := 41) (sh_34 hT) (by decide) k_1212 (rf_34_15 hT) (fun _ h => h) dX12_torqueNow_54 ?_
      refine X_iload (pc := 57) 0 dX12_torqueNow_57 rfl ?_
      refine X_iconst (pc := 59) (1 : Int32) dX12_torqueNow_59 (by decide) ?_
      refine X_iadd (pc := 60) dX12_torqueNow_60 ?_
      obtain ⟨c11, hf⟩ := gd_some hf
      refine X_ialdj (pc := 61) (j := (x9 + (1 : Int32)).toNatClampNeg) (I 41 ((x9 + (1 : Int32)).toNatClampNeg)) (sh_41 hT) (vp_in_lit (N := 9) c11 (by decide)) rfl rfl dX12_torqueNow_61 ?_
      refine X_aload_n (pc := 62) (i := 0) 4 dX12_torqueNow_62 rfl rfl ?_
      refine X_getr (pc := 63) (a := 34) (ci := 11) (j := 15) (c := 41) (sh_34 hT) (by decide) k_1212 (rf_34_15 hT) (fun _ h => h) dX12_torqueNow_63 ?_
      refine X_iload (pc := 66) 0 dX12_torqueNow_66 rfl ?_
      obtain ⟨c12, hf⟩ := gd_some hf
      refine X_ialdj (pc := 68) (j := x9.toNatClampNeg) (I 41 (x9.toNatClampNeg)) (sh_41 hT) (vp_in_lit (N := 9) c12 (by decide)) rfl rfl dX12_torqueNow_68 ?_
      refine X_isub (pc := 69) dX12_torqueNow_69 ?_
      refine X_iload (pc := 70) 1 dX12_torqueNow_70 rfl ?_
      refine X_imul (pc := 72) dX12_torqueNow_72 ?_
      refine X_bipush (pc := 73) (8 : Int32) dX12_torqueNow_73 (by decide) ?_
      refine X_ishr (pc := 75) dX12_torqueNow_75 ?_
      refine X_iadd (pc := 76) dX12_torqueNow_76 ?_
      obtain ⟨x13, ex13, hf⟩ := bnd_e hf
      refine X_tope ex13 ?_
      cases hf
      exact X_ireturn (pc := 77) rfl dX12_torqueNow_77
    · replace hf := (if_neg c8).symm.trans hf
      refine X_if_le_f (pc := 37) 42 dX12_torqueNow_37 (by decide) (fun h => c8 ((lg_cmp_le _ _).mp h)) ?_
      refine X_iconst (pc := 40) (0 : Int32) dX12_torqueNow_40 (by decide) ?_
      cases hf
      exact X_ireturn (pc := 41) rfl dX12_torqueNow_41
theorem dX12_turnsAt_0 : decode cX12_turnsAt 0 = .ok (.aload_n 0, 1) := by decide +kernel
theorem dX12_turnsAt_1 : decode cX12_turnsAt 1 = .ok (.getfield 80, 3) := by decide +kernel
theorem dX12_turnsAt_4 : decode cX12_turnsAt 4 = .ok (.iload_n 1, 1) := by decide +kernel
theorem dX12_turnsAt_5 : decode cX12_turnsAt 5 = .ok (.laload, 1) := by decide +kernel
theorem dX12_turnsAt_6 : decode cX12_turnsAt 6 = .ok (.invokestatic 287, 3) := by decide +kernel
theorem dX12_turnsAt_9 : decode cX12_turnsAt 9 = .ok (.lload_n 2, 1) := by decide +kernel
theorem dX12_turnsAt_10 : decode cX12_turnsAt 10 = .ok (.lmul, 1) := by decide +kernel
theorem dX12_turnsAt_11 : decode cX12_turnsAt 11 = .ok (.aload_n 0, 1) := by decide +kernel
theorem dX12_turnsAt_12 : decode cX12_turnsAt 12 = .ok (.getfield 84, 3) := by decide +kernel
theorem dX12_turnsAt_15 : decode cX12_turnsAt 15 = .ok (.iload_n 1, 1) := by decide +kernel
theorem dX12_turnsAt_16 : decode cX12_turnsAt 16 = .ok (.laload, 1) := by decide +kernel
theorem dX12_turnsAt_17 : decode cX12_turnsAt 17 = .ok (.ldc2_w 253, 3) := by decide +kernel
theorem dX12_turnsAt_20 : decode cX12_turnsAt 20 = .ok (.lmul, 1) := by decide +kernel
theorem dX12_turnsAt_21 : decode cX12_turnsAt 21 = .ok (.aload_n 0, 1) := by decide +kernel
theorem dX12_turnsAt_22 : decode cX12_turnsAt 22 = .ok (.getfield 153, 3) := by decide +kernel
theorem dX12_turnsAt_25 : decode cX12_turnsAt 25 = .ok (.i2l, 1) := by decide +kernel
theorem dX12_turnsAt_26 : decode cX12_turnsAt 26 = .ok (.lmul, 1) := by decide +kernel
theorem dX12_turnsAt_27 : decode cX12_turnsAt 27 = .ok (.ldiv, 1) := by decide +kernel
theorem dX12_turnsAt_28 : decode cX12_turnsAt 28 = .ok (.lreturn, 1) := by decide +kernel
def f_Md_turnsAt (a0 : Int32) (a1 : Int64) (I : Nat → Nat → Int32) (L : Nat → Nat → Int64) : Option Int64 := (if (0 ≤ a0 ∧ a0 < (24 : Int32)) then (if (0 ≤ a0 ∧ a0 < (24 : Int32)) then (if ¬ (((L 59 (a0.toNatClampNeg)) * (2 : Int64)) * (Int32.toInt64 (I 34 9))) = (0 : Int64) then (some (((Jabs (L 58 (a0.toNatClampNeg))) * a1) / (((L 59 (a0.toNatClampNeg)) * (2 : Int64)) * (Int32.toInt64 (I 34 9))))) else none) else none) else none)
set_option maxRecDepth 100000 in
set_option maxHeartbeats 4000000 in
theorem c_Md_turnsAt {G : xG} {S : List xSh} {Rf : Nat → Nat → Option Nat} (hT : xTM S Rf) {a0 : Int32} {a1 : Int64} {I : Nat → Nat → Int32} {L : Nat → Nat → Int64} {q : Int64} (hf : f_Md_turnsAt a0 a1 I L = some q) : CT G 1 m_Md_turnsAt [.ref (xB G + 34), .int a0, .long a1] (S, I, L, Rf) (some (.long q), (S, I, L, Rf)) := by
  refine CT.of (by decide +kernel) (Nat.le_of_ble_eq_true rfl) ?_
  show X G 1 m_Md_turnsAt 0 [(0, .ref (xB G + 34)), (1, .int a0), (2, .long a1)] [] (S, I, L, Rf) (some (.long q), (S, I, L, Rf))
  replace hf := (f_Md_turnsAt.eq_1 _ _ _ _).symm.trans hf
  refine X_aload_n (pc := 0) (i := 0) 0 dX12_turnsAt_0 rfl rfl ?_
  refine X_getr (pc := 1) (a := 34) (ci := 11) (j := 49) (c := 58) (sh_34 hT) (by decide) k_1246 (rf_34_49 hT) (fun _ h => h) dX12_turnsAt_1 ?_
  refine X_iload_n (pc := 4) (i := 1) 1 dX12_turnsAt_4 rfl rfl ?_
  obtain ⟨c1, hf⟩ := gd_some hf
  refine X_laldj (pc := 5) (j := a0.toNatClampNeg) (L 58 (a0.toNatClampNeg)) (sh_58 hT) (vp_in_lit (N := 24) c1 (by decide)) rfl rfl dX12_turnsAt_5 ?_
  refine X_Jabs (pc := 6) k_1537 (by decide) (Nat.le_of_ble_eq_true rfl) dX12_turnsAt_6 ?_
  refine X_lload_n (pc := 9) (i := 2) 2 dX12_turnsAt_9 rfl rfl ?_
  refine X_lmul (pc := 10) dX12_turnsAt_10 ?_
  refine X_aload_n (pc := 11) (i := 0) 0 dX12_turnsAt_11 rfl rfl ?_
  refine X_getr (pc := 12) (a := 34) (ci := 11) (j := 50) (c := 59) (sh_34 hT) (by decide) k_1247 (rf_34_50 hT) (fun _ h => h) dX12_turnsAt_12 ?_
  refine X_iload_n (pc := 15) (i := 1) 1 dX12_turnsAt_15 rfl rfl ?_
  obtain ⟨c2, hf⟩ := gd_some hf
  refine X_laldj (pc := 16) (j := a0.toNatClampNeg) (L 59 (a0.toNatClampNeg)) (sh_59 hT) (vp_in_lit (N := 24) c2 (by decide)) rfl rfl dX12_turnsAt_16 ?_
  refine X_ldc2 (pc := 17) (2 : Int64) k_1490 dX12_turnsAt_17 ?_
  refine X_lmul (pc := 20) dX12_turnsAt_20 ?_
  refine X_aload_n (pc := 21) (i := 0) 0 dX12_turnsAt_21 rfl rfl ?_
  refine X_get (pc := 22) (a := 34) (ci := 11) (j := 9) (.int (I 34 9)) (sh_34 hT) (by decide) k_1206 rfl dX12_turnsAt_22 ?_
  refine X_i2l (pc := 25) dX12_turnsAt_25 ?_
  refine X_lmul (pc := 26) dX12_turnsAt_26 ?_
  obtain ⟨c3, hf⟩ := gd_some hf
  refine X_ldiv (pc := 27) dX12_turnsAt_27 c3 ?_
  cases hf
  exact X_lreturn (pc := 28) rfl dX12_turnsAt_28

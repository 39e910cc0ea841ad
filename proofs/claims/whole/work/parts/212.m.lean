theorem dX11_trialNumber_0 : decode cX11_trialNumber 0 = .ok (.iload_n 1, 1) := by decide +kernel
theorem dX11_trialNumber_1 : decode cX11_trialNumber 1 = .ok (.tableswitch 133 0 6 #[43, 48, 53, 58, 88, 93, 109], 43) := by decide +kernel
theorem dX11_trialNumber_44 : decode cX11_trialNumber 44 = .ok (.aload_n 0, 1) := by decide +kernel
theorem dX11_trialNumber_45 : decode cX11_trialNumber 45 = .ok (.invokevirtual 399, 3) := by decide +kernel
theorem dX11_trialNumber_48 : decode cX11_trialNumber 48 = .ok (.ireturn, 1) := by decide +kernel
theorem dX11_trialNumber_49 : decode cX11_trialNumber 49 = .ok (.aload_n 0, 1) := by decide +kernel
theorem dX11_trialNumber_50 : decode cX11_trialNumber 50 = .ok (.invokevirtual 402, 3) := by decide +kernel
theorem dX11_trialNumber_53 : decode cX11_trialNumber 53 = .ok (.ireturn, 1) := by decide +kernel
theorem dX11_trialNumber_54 : decode cX11_trialNumber 54 = .ok (.aload_n 0, 1) := by decide +kernel
theorem dX11_trialNumber_55 : decode cX11_trialNumber 55 = .ok (.invokevirtual 405, 3) := by decide +kernel
theorem dX11_trialNumber_58 : decode cX11_trialNumber 58 = .ok (.ireturn, 1) := by decide +kernel
theorem dX11_trialNumber_59 : decode cX11_trialNumber 59 = .ok (.aload_n 0, 1) := by decide +kernel
theorem dX11_trialNumber_60 : decode cX11_trialNumber 60 = .ok (.getfield 59, 3) := by decide +kernel
theorem dX11_trialNumber_63 : decode cX11_trialNumber 63 = .ok (.iconst 0, 1) := by decide +kernel
theorem dX11_trialNumber_64 : decode cX11_trialNumber 64 = .ok (.iaload, 1) := by decide +kernel
theorem dX11_trialNumber_65 : decode cX11_trialNumber 65 = .ok (.aload_n 0, 1) := by decide +kernel
theorem dX11_trialNumber_66 : decode cX11_trialNumber 66 = .ok (.getfield 59, 3) := by decide +kernel
theorem dX11_trialNumber_69 : decode cX11_trialNumber 69 = .ok (.iconst 1, 1) := by decide +kernel
theorem dX11_trialNumber_70 : decode cX11_trialNumber 70 = .ok (.iaload, 1) := by decide +kernel
theorem dX11_trialNumber_71 : decode cX11_trialNumber 71 = .ok (.iadd, 1) := by decide +kernel
theorem dX11_trialNumber_72 : decode cX11_trialNumber 72 = .ok (.aload_n 0, 1) := by decide +kernel
theorem dX11_trialNumber_73 : decode cX11_trialNumber 73 = .ok (.getfield 59, 3) := by decide +kernel
theorem dX11_trialNumber_76 : decode cX11_trialNumber 76 = .ok (.bipush 8, 2) := by decide +kernel
theorem dX11_trialNumber_78 : decode cX11_trialNumber 78 = .ok (.iaload, 1) := by decide +kernel
theorem dX11_trialNumber_79 : decode cX11_trialNumber 79 = .ok (.isub, 1) := by decide +kernel
theorem dX11_trialNumber_80 : decode cX11_trialNumber 80 = .ok (.aload_n 0, 1) := by decide +kernel
theorem dX11_trialNumber_81 : decode cX11_trialNumber 81 = .ok (.getfield 59, 3) := by decide +kernel
theorem dX11_trialNumber_84 : decode cX11_trialNumber 84 = .ok (.bipush 9, 2) := by decide +kernel
theorem dX11_trialNumber_86 : decode cX11_trialNumber 86 = .ok (.iaload, 1) := by decide +kernel
theorem dX11_trialNumber_87 : decode cX11_trialNumber 87 = .ok (.isub, 1) := by decide +kernel
theorem dX11_trialNumber_88 : decode cX11_trialNumber 88 = .ok (.ireturn, 1) := by decide +kernel
theorem dX11_trialNumber_89 : decode cX11_trialNumber 89 = .ok (.aload_n 0, 1) := by decide +kernel
theorem dX11_trialNumber_90 : decode cX11_trialNumber 90 = .ok (.invokevirtual 408, 3) := by decide +kernel
theorem dX11_trialNumber_93 : decode cX11_trialNumber 93 = .ok (.ireturn, 1) := by decide +kernel
theorem dX11_trialNumber_94 : decode cX11_trialNumber 94 = .ok (.aload_n 0, 1) := by decide +kernel
theorem dX11_trialNumber_95 : decode cX11_trialNumber 95 = .ok (.getfield 59, 3) := by decide +kernel
theorem dX11_trialNumber_98 : decode cX11_trialNumber 98 = .ok (.bipush 12, 2) := by decide +kernel
theorem dX11_trialNumber_100 : decode cX11_trialNumber 100 = .ok (.iaload, 1) := by decide +kernel
theorem dX11_trialNumber_101 : decode cX11_trialNumber 101 = .ok (.aload_n 0, 1) := by decide +kernel
theorem dX11_trialNumber_102 : decode cX11_trialNumber 102 = .ok (.getfield 59, 3) := by decide +kernel
theorem dX11_trialNumber_105 : decode cX11_trialNumber 105 = .ok (.bipush 10, 2) := by decide +kernel
theorem dX11_trialNumber_107 : decode cX11_trialNumber 107 = .ok (.iaload, 1) := by decide +kernel
theorem dX11_trialNumber_108 : decode cX11_trialNumber 108 = .ok (.isub, 1) := by decide +kernel
theorem dX11_trialNumber_109 : decode cX11_trialNumber 109 = .ok (.ireturn, 1) := by decide +kernel
theorem dX11_trialNumber_110 : decode cX11_trialNumber 110 = .ok (.iconst 2, 1) := by decide +kernel
theorem dX11_trialNumber_111 : decode cX11_trialNumber 111 = .ok (.aload_n 0, 1) := by decide +kernel
theorem dX11_trialNumber_112 : decode cX11_trialNumber 112 = .ok (.getfield 59, 3) := by decide +kernel
theorem dX11_trialNumber_115 : decode cX11_trialNumber 115 = .ok (.bipush 14, 2) := by decide +kernel
theorem dX11_trialNumber_117 : decode cX11_trialNumber 117 = .ok (.iaload, 1) := by decide +kernel
theorem dX11_trialNumber_118 : decode cX11_trialNumber 118 = .ok (.imul, 1) := by decide +kernel
theorem dX11_trialNumber_119 : decode cX11_trialNumber 119 = .ok (.aload_n 0, 1) := by decide +kernel
theorem dX11_trialNumber_120 : decode cX11_trialNumber 120 = .ok (.getfield 59, 3) := by decide +kernel
theorem dX11_trialNumber_123 : decode cX11_trialNumber 123 = .ok (.iconst 0, 1) := by decide +kernel
theorem dX11_trialNumber_124 : decode cX11_trialNumber 124 = .ok (.iaload, 1) := by decide +kernel
theorem dX11_trialNumber_125 : decode cX11_trialNumber 125 = .ok (.isub, 1) := by decide +kernel
theorem dX11_trialNumber_126 : decode cX11_trialNumber 126 = .ok (.aload_n 0, 1) := by decide +kernel
theorem dX11_trialNumber_127 : decode cX11_trialNumber 127 = .ok (.getfield 59, 3) := by decide +kernel
theorem dX11_trialNumber_130 : decode cX11_trialNumber 130 = .ok (.iconst 1, 1) := by decide +kernel
theorem dX11_trialNumber_131 : decode cX11_trialNumber 131 = .ok (.iaload, 1) := by decide +kernel
theorem dX11_trialNumber_132 : decode cX11_trialNumber 132 = .ok (.isub, 1) := by decide +kernel
theorem dX11_trialNumber_133 : decode cX11_trialNumber 133 = .ok (.ireturn, 1) := by decide +kernel
theorem dX11_trialNumber_134 : decode cX11_trialNumber 134 = .ok (.ldc_w 314, 3) := by decide +kernel
theorem dX11_trialNumber_137 : decode cX11_trialNumber 137 = .ok (.ireturn, 1) := by decide +kernel
def f_H_trialNumber (a0 : Int32) (I : Nat → Nat → Int32) (L : Nat → Nat → Int64) : Option Int32 := (if a0 = (0 : Int32) then ((f_H_sumOfTen I L).bind fun q8 => (some q8)) else (if a0 = (1 : Int32) then ((f_H_sumOfPairs I L).bind fun q10 => (some q10)) else (if a0 = (2 : Int32) then ((f_H_greatestOfPairs I L).bind fun q12 => (some q12)) else (if a0 = (3 : Int32) then (some ((((I 28 0) + (I 28 1)) - (I 28 8)) - (I 28 9))) else (if a0 = (4 : Int32) then ((f_H_farthestFromMean I L).bind fun q14 => (some q14)) else (if a0 = (5 : Int32) then (some ((I 28 12) - (I 28 10))) else (if a0 = (6 : Int32) then (some ((((2 : Int32) * (I 28 14)) - (I 28 0)) - (I 28 1))) else (some (-9999999 : Int32)))))))))
set_option maxRecDepth 100000 in
set_option maxHeartbeats 4000000 in
theorem c_H_trialNumber {G : xG} {S : List xSh} {Rf : Nat → Nat → Option Nat} (hT : xTH S Rf) {a0 : Int32} {I : Nat → Nat → Int32} {L : Nat → Nat → Int64} {q : Int32} (hf : f_H_trialNumber a0 I L = some q) : CT G 3 m_H_trialNumber [.ref (xB G + 0), .int a0] (S, I, L, Rf) (some (.int q), (S, I, L, Rf)) := by
  refine CT.of (by decide +kernel) (Nat.le_of_ble_eq_true rfl) ?_
  show X G 3 m_H_trialNumber 0 [(0, .ref (xB G + 0)), (1, .int a0)] [] (S, I, L, Rf) (some (.int q), (S, I, L, Rf))
  replace hf := (f_H_trialNumber.eq_1 _ _ _).symm.trans hf
  refine X_iload_n (pc := 0) (i := 1) 1 dX11_trialNumber_0 rfl rfl ?_
  by_cases c1 : a0 = (0 : Int32)
  · replace hf := (if_pos c1).symm.trans hf
    refine X_tabIn (pc := 1) (off := 43) (0) 44 dX11_trialNumber_1 (by rw [c1]; rfl) (by decide) ?_
    refine X_aload_n (pc := 44) (i := 0) 0 dX11_trialNumber_44 rfl rfl ?_
    obtain ⟨q8, c9, hf⟩ := bd_some hf
    refine X_invV_i (pc := 45) (c_H_sumOfTen hT c9) ok_H_sumOfTen (ci := 10) (sh_0 hT) k_1071 k_1073 k_32 nd_4 (by decide) rfl (Nat.le_of_ble_eq_true rfl) dX11_trialNumber_45 ?_
    cases hf
    exact X_ireturn (pc := 48) rfl dX11_trialNumber_48
  · replace hf := (if_neg c1).symm.trans hf
    by_cases c2 : a0 = (1 : Int32)
    · replace hf := (if_pos c2).symm.trans hf
      refine X_tabIn (pc := 1) (off := 48) (1) 49 dX11_trialNumber_1 (by rw [c2]; rfl) (by decide) ?_
      refine X_aload_n (pc := 49) (i := 0) 0 dX11_trialNumber_49 rfl rfl ?_
      obtain ⟨q10, c11, hf⟩ := bd_some hf
      refine X_invV_i (pc := 50) (c_H_sumOfPairs hT c11) ok_H_sumOfPairs (ci := 10) (sh_0 hT) k_1075 k_1077 k_33 nd_4 (by decide) rfl (Nat.le_of_ble_eq_true rfl) dX11_trialNumber_50 ?_
      cases hf
      exact X_ireturn (pc := 53) rfl dX11_trialNumber_53
    · replace hf := (if_neg c2).symm.trans hf
      by_cases c3 : a0 = (2 : Int32)
      · replace hf := (if_pos c3).symm.trans hf
        refine X_tabIn (pc := 1) (off := 53) (2) 54 dX11_trialNumber_1 (by rw [c3]; rfl) (by decide) ?_
        refine X_aload_n (pc := 54) (i := 0) 0 dX11_trialNumber_54 rfl rfl ?_
        obtain ⟨q12, c13, hf⟩ := bd_some hf
        refine X_invV_i (pc := 55) (c_H_greatestOfPairs hT c13) ok_H_greatestOfPairs (ci := 10) (sh_0 hT) k_1080 k_1082 k_34 nd_4 (by decide) rfl (Nat.le_of_ble_eq_true rfl) dX11_trialNumber_55 ?_
        cases hf
        exact X_ireturn (pc := 58) rfl dX11_trialNumber_58
      · replace hf := (if_neg c3).symm.trans hf
        by_cases c4 : a0 = (3 : Int32)
        · replace hf := (if_pos c4).symm.trans hf
          refine X_tabIn (pc := 1) (off := 58) (3) 59 dX11_trialNumber_1 (by rw [c4]; rfl) (by decide) ?_
          refine X_aload_n (pc := 59) (i := 0) 0 dX11_trialNumber_59 rfl rfl ?_
          refine X_getr (pc := 60) (a := 0) (ci := 10) (j := 11) (c := 28) (sh_0 hT) (by decide) k_388 (rf_0_11 hT) (fun _ h => h) dX11_trialNumber_60 ?_
          refine X_iconst (pc := 63) (0 : Int32) dX11_trialNumber_63 (by decide) ?_
          refine X_ialdj (pc := 64) (j := 0) (I 28 0) (sh_28 hT) (vp_in_lit (N := 15) (by decide) (by decide)) (by decide) rfl dX11_trialNumber_64 ?_
          refine X_aload_n (pc := 65) (i := 0) 0 dX11_trialNumber_65 rfl rfl ?_
          refine X_getr (pc := 66) (a := 0) (ci := 10) (j := 11) (c := 28) (sh_0 hT) (by decide) k_388 (rf_0_11 hT) (fun _ h => h) dX11_trialNumber_66 ?_
          refine X_iconst (pc := 69) (1 : Int32) dX11_trialNumber_69 (by decide) ?_
          refine X_ialdj (pc := 70) (j := 1) (I 28 1) (sh_28 hT) (vp_in_lit (N := 15) (by decide) (by decide)) (by decide) rfl dX11_trialNumber_70 ?_
          refine X_iadd (pc := 71) dX11_trialNumber_71 ?_
          refine X_aload_n (pc := 72) (i := 0) 0 dX11_trialNumber_72 rfl rfl ?_
          refine X_getr (pc := 73) (a := 0) (ci := 10) (j := 11) (c := 28) (sh_0 hT) (by decide) k_388 (rf_0_11 hT) (fun _ h => h) dX11_trialNumber_73 ?_
          refine X_bipush (pc := 76) (8 : Int32) dX11_trialNumber_76 (by decide) ?_
          refine X_ialdj (pc := 78) (j := 8) (I 28 8) (sh_28 hT) (vp_in_lit (N := 15) (by decide) (by decide)) (by decide) rfl dX11_trialNumber_78 ?_
          refine X_isub (pc := 79) dX11_trialNumber_79 ?_
          refine X_aload_n (pc := 80) (i := 0) 0 dX11_trialNumber_80 rfl rfl ?_
          refine X_getr (pc := 81) (a := 0) (ci := 10) (j := 11) (c := 28) (sh_0 hT) (by decide) k_388 (rf_0_11 hT) (fun _ h => h) dX11_trialNumber_81 ?_
          refine X_bipush (pc := 84) (9 : Int32) dX11_trialNumber_84 (by decide) ?_
          refine X_ialdj (pc := 86) (j := 9) (I 28 9) (sh_28 hT) (vp_in_lit (N := 15) (by decide) (by decide)) (by decide) rfl dX11_trialNumber_86 ?_
          refine X_isub (pc := 87) dX11_trialNumber_87 ?_
          cases hf
          exact X_ireturn (pc := 88) rfl dX11_trialNumber_88
        · replace hf := (if_neg c4).symm.trans hf
          by_cases c5 : a0 = (4 : Int32)
          · replace hf := (if_pos c5).symm.trans hf
            refine X_tabIn (pc := 1) (off := 88) (4) 89 dX11_trialNumber_1 (by rw [c5]; rfl) (by decide) ?_
            refine X_aload_n (pc := 89) (i := 0) 0 dX11_trialNumber_89 rfl rfl ?_
            obtain ⟨q14, c15, hf⟩ := bd_some hf
            refine X_invV_i (pc := 90) (c_H_farthestFromMean hT c15) ok_H_farthestFromMean (ci := 10) (sh_0 hT) k_1085 k_1087 k_35 nd_4 (by decide) rfl (Nat.le_of_ble_eq_true rfl) dX11_trialNumber_90 ?_
            cases hf
            exact X_ireturn (pc := 93) rfl dX11_trialNumber_93
          · replace hf := (if_neg c5).symm.trans hf
            by_cases c6 : a0 = (5 : Int32)
            · replace hf := (if_pos c6).symm.trans hf
              refine X_tabIn (pc := 1) (off := 93) (5) 94 dX11_trialNumber_1 (by rw [c6]; rfl) (by decide) ?_
              refine X_aload_n (pc := 94) (i := 0) 0 dX11_trialNumber_94 rfl rfl ?_
              refine X_getr (pc := 95) (a := 0) (ci := 10) (j := 11) (c := 28) (sh_0 hT) (by decide) k_388 (rf_0_11 hT) (fun _ h => h) dX11_trialNumber_95 ?_
              refine X_bipush (pc := 98) (12 : Int32) dX11_trialNumber_98 (by decide) ?_
              refine X_ialdj (pc := 100) (j := 12) (I 28 12) (sh_28 hT) (vp_in_lit (N := 15) (by decide) (by decide)) (by decide) rfl dX11_trialNumber_100 ?_
              refine X_aload_n (pc := 101) (i := 0) 0 dX11_trialNumber_101 rfl rfl ?_
              refine X_getr (pc := 102) (a := 0) (ci := 10) (j := 11) (c := 28) (sh_0 hT) (by decide) k_388 (rf_0_11 hT) (fun _ h => h) dX11_trialNumber_102 ?_
              refine X_bipush (pc := 105) (10 : Int32) dX11_trialNumber_105 (by decide) ?_
              refine X_ialdj (pc := 107) (j := 10) (I 28 10) (sh_28 hT) (vp_in_lit (N := 15) (by decide) (by decide)) (by decide) rfl dX11_trialNumber_107 ?_
              refine X_isub (pc := 108) dX11_trialNumber_108 ?_
              cases hf
              exact X_ireturn (pc := 109) rfl dX11_trialNumber_109
            · replace hf := (if_neg c6).symm.trans hf
              by_cases c7 : a0 = (6 : Int32)
              · replace hf := (if_pos c7).symm.trans hf
                refine X_tabIn (pc := 1) (off := 109) (6) 110 dX11_trialNumber_1 (by rw [c7]; rfl) (by decide) ?_
                refine X_iconst (pc := 110) (2 : Int32) dX11_trialNumber_110 (by decide) ?_
                refine X_aload_n (pc := 111) (i := 0) 0 dX11_trialNumber_111 rfl rfl ?_
                refine X_getr (pc := 112) (a := 0) (ci := 10) (j := 11) (c := 28) (sh_0 hT) (by decide) k_388 (rf_0_11 hT) (fun _ h => h) dX11_trialNumber_112 ?_
                refine X_bipush (pc := 115) (14 : Int32) dX11_trialNumber_115 (by decide) ?_
                refine X_ialdj (pc := 117) (j := 14) (I 28 14) (sh_28 hT) (vp_in_lit (N := 15) (by decide) (by decide)) (by decide) rfl dX11_trialNumber_117 ?_
                refine X_imul (pc := 118) dX11_trialNumber_118 ?_
                refine X_aload_n (pc := 119) (i := 0) 0 dX11_trialNumber_119 rfl rfl ?_
                refine X_getr (pc := 120) (a := 0) (ci := 10) (j := 11) (c := 28) (sh_0 hT) (by decide) k_388 (rf_0_11 hT) (fun _ h => h) dX11_trialNumber_120 ?_
                refine X_iconst (pc := 123) (0 : Int32) dX11_trialNumber_123 (by decide) ?_
                refine X_ialdj (pc := 124) (j := 0) (I 28 0) (sh_28 hT) (vp_in_lit (N := 15) (by decide) (by decide)) (by decide) rfl dX11_trialNumber_124 ?_
                refine X_isub (pc := 125) dX11_trialNumber_125 ?_
                refine X_aload_n (pc := 126) (i := 0) 0 dX11_trialNumber_126 rfl rfl ?_
                refine X_getr (pc := 127) (a := 0) (ci := 10) (j := 11) (c := 28) (sh_0 hT) (by decide) k_388 (rf_0_11 hT) (fun _ h => h) dX11_trialNumber_127 ?_
                refine X_iconst (pc := 130) (1 : Int32) dX11_trialNumber_130 (by decide) ?_
                refine X_ialdj (pc := 131) (j := 1) (I 28 1) (sh_28 hT) (vp_in_lit (N := 15) (by decide) (by decide)) (by decide) rfl dX11_trialNumber_131 ?_
                refine X_isub (pc := 132) dX11_trialNumber_132 ?_
                cases hf
                exact X_ireturn (pc := 133) rfl dX11_trialNumber_133
              · replace hf := (if_neg c7).symm.trans hf
                refine X_tabOut (pc := 1) 134 dX11_trialNumber_1 (by have zc1 := lv_neT (a := 0) c1 rfl; have zc2 := lv_neT (a := 1) c2 rfl; have zc3 := lv_neT (a := 2) c3 rfl; have zc4 := lv_neT (a := 3) c4 rfl; have zc5 := lv_neT (a := 4) c5 rfl; have zc6 := lv_neT (a := 5) c6 rfl; have zc7 := lv_neT (a := 6) c7 rfl; omega) (by decide) ?_
                refine X_ldcw (pc := 134) (-9999999 : Int32) k_1044 dX11_trialNumber_134 ?_
                cases hf
                exact X_ireturn (pc := 137) rfl dX11_trialNumber_137
theorem dX11_verdict_0 : decode cX11_verdict 0 = .ok (.iload_n 1, 1) := by decide +kernel
theorem dX11_verdict_1 : decode cX11_verdict 1 = .ok (.bipush 7, 2) := by decide +kernel
theorem dX11_verdict_3 : decode cX11_verdict 3 = .ok (.if_icmp .eq 9, 3) := by decide +kernel
theorem dX11_verdict_6 : decode cX11_verdict 6 = .ok (.aload_n 0, 1) := by decide +kernel
theorem dX11_verdict_7 : decode cX11_verdict 7 = .ok (.iload_n 1, 1) := by decide +kernel
theorem dX11_verdict_8 : decode cX11_verdict 8 = .ok (.invokevirtual 319, 3) := by decide +kernel
theorem dX11_verdict_11 : decode cX11_verdict 11 = .ok (.ireturn, 1) := by decide +kernel
theorem dX11_verdict_12 : decode cX11_verdict 12 = .ok (.iconst 0, 1) := by decide +kernel
theorem dX11_verdict_13 : decode cX11_verdict 13 = .ok (.istore_n 2, 1) := by decide +kernel
theorem dX11_verdict_14 : decode cX11_verdict 14 = .ok (.iconst 0, 1) := by decide +kernel
theorem dX11_verdict_15 : decode cX11_verdict 15 = .ok (.istore_n 3, 1) := by decide +kernel
theorem dX11_verdict_16 : decode cX11_verdict 16 = .ok (.iload_n 3, 1) := by decide +kernel
theorem dX11_verdict_17 : decode cX11_verdict 17 = .ok (.getstatic 322, 3) := by decide +kernel
theorem dX11_verdict_20 : decode cX11_verdict 20 = .ok (.arraylength, 1) := by decide +kernel
theorem dX11_verdict_21 : decode cX11_verdict 21 = .ok (.if_icmp .ge 36, 3) := by decide +kernel
theorem dX11_verdict_24 : decode cX11_verdict 24 = .ok (.aload_n 0, 1) := by decide +kernel
theorem dX11_verdict_25 : decode cX11_verdict 25 = .ok (.iload_n 3, 1) := by decide +kernel
theorem dX11_verdict_26 : decode cX11_verdict 26 = .ok (.invokevirtual 319, 3) := by decide +kernel
theorem dX11_verdict_29 : decode cX11_verdict 29 = .ok (.getstatic 322, 3) := by decide +kernel
theorem dX11_verdict_32 : decode cX11_verdict 32 = .ok (.iload_n 3, 1) := by decide +kernel
theorem dX11_verdict_33 : decode cX11_verdict 33 = .ok (.iaload, 1) := by decide +kernel
theorem dX11_verdict_34 : decode cX11_verdict 34 = .ok (.getstatic 325, 3) := by decide +kernel
theorem dX11_verdict_37 : decode cX11_verdict 37 = .ok (.iload_n 3, 1) := by decide +kernel
theorem dX11_verdict_38 : decode cX11_verdict 38 = .ok (.iaload, 1) := by decide +kernel
theorem dX11_verdict_39 : decode cX11_verdict 39 = .ok (.invokestatic 91, 3) := by decide +kernel
theorem dX11_verdict_42 : decode cX11_verdict 42 = .ok (.ifCond .ne 9, 3) := by decide +kernel
theorem dX11_verdict_45 : decode cX11_verdict 45 = .ok (.iload_n 2, 1) := by decide +kernel
theorem dX11_verdict_46 : decode cX11_verdict 46 = .ok (.iconst 1, 1) := by decide +kernel
theorem dX11_verdict_47 : decode cX11_verdict 47 = .ok (.iload_n 3, 1) := by decide +kernel
theorem dX11_verdict_48 : decode cX11_verdict 48 = .ok (.ishl, 1) := by decide +kernel
theorem dX11_verdict_49 : decode cX11_verdict 49 = .ok (.ior, 1) := by decide +kernel
theorem dX11_verdict_50 : decode cX11_verdict 50 = .ok (.istore_n 2, 1) := by decide +kernel
theorem dX11_verdict_51 : decode cX11_verdict 51 = .ok (.iinc 3 1, 3) := by decide +kernel
theorem dX11_verdict_54 : decode cX11_verdict 54 = .ok (.goto (-38), 3) := by decide +kernel
theorem dX11_verdict_57 : decode cX11_verdict 57 = .ok (.iload_n 2, 1) := by decide +kernel
theorem dX11_verdict_58 : decode cX11_verdict 58 = .ok (.ireturn, 1) := by decide +kernel
def f_H_verdict_L16 : Nat → Int32 → Int32 → (Nat → Nat → Int32) → (Nat → Nat → Int64) → Option Int32
  | 0, _, _, _, _ => none
  | n + 1, l2, l3, I, L => (if (7 : Int32) ≤ l3 then (some l2) else ((f_H_trialNumber l3 I L).bind fun q3 => (if (0 ≤ l3 ∧ l3 < (7 : Int32)) then (if (0 ≤ l3 ∧ l3 < (7 : Int32)) then (bnd (f_H_isWithin q3 (xsv false (l3.toNatClampNeg)) (xsv true (l3.toNatClampNeg))) fun x7 => (if x7 = (0 : Int32) then (bnd (l2 ||| ((1 : Int32) <<< (l3 &&& 31))) fun x9 => (f_H_verdict_L16 n x9 (l3 + (1 : Int32)) I L)) else (f_H_verdict_L16 n l2 (l3 + (1 : Int32)) I L))) else none) else none)))
set_option maxRecDepth 100000 in
set_option maxHeartbeats 4000000 in
theorem x_H_verdict_L16 {G : xG} {S : List xSh} {Rf : Nat → Nat → Option Nat} (hT : xTH S Rf) : ∀ (n : Nat) {l2 : Int32} {l3 : Int32} {I : Nat → Nat → Int32} {L : Nat → Nat → Int64} {q : Int32}, f_H_verdict_L16 n l2 l3 I L = some q → X G 4 m_H_verdict 16 [(0, .ref (xB G + 0)), (2, .int l2), (3, .int l3)] [] (S, I, L, Rf) (some (.int q), (S, I, L, Rf)) := by
  intro n
  induction n with
  | zero =>
    intro l2 l3 I L q hf
    exact absurd (show none = some q from hf) (by simp)
  | succ n ih =>
    intro l2 l3 I L q hf
    replace hf := (f_H_verdict_L16.eq_2 _ _ _ _ _).symm.trans hf
    refine X_iload_n (pc := 16) (i := 3) 2 dX11_verdict_16 rfl rfl ?_
    refine X_gets (pc := 17) false k_1089 dX11_verdict_17 ?_
    refine X_salen (pc := 20) dX11_verdict_20 ?_
    by_cases c2 : (7 : Int32) ≤ l3
    · replace hf := (if_pos c2).symm.trans hf
      refine X_icmp_ge_t (pc := 21) 57 dX11_verdict_21 (by decide) c2 ?_
      refine X_iload_n (pc := 57) (i := 2) 1 dX11_verdict_57 rfl rfl ?_
      cases hf
      exact X_ireturn (pc := 58) rfl dX11_verdict_58
    · replace hf := (if_neg c2).symm.trans hf
      refine X_icmp_ge_f (pc := 21) 57 dX11_verdict_21 (by decide) c2 ?_
      refine X_aload_n (pc := 24) (i := 0) 0 dX11_verdict_24 rfl rfl ?_
      refine X_iload_n (pc := 25) (i := 3) 2 dX11_verdict_25 rfl rfl ?_
      obtain ⟨q3, c4, hf⟩ := bd_some hf
      refine X_invV_i (pc := 26) (c_H_trialNumber hT c4) ok_H_trialNumber (ci := 10) (sh_0 hT) k_1067 k_1069 k_31 nd_8 (by decide) rfl (Nat.le_of_ble_eq_true rfl) dX11_verdict_26 ?_
      refine X_gets (pc := 29) false k_1089 dX11_verdict_29 ?_
      refine X_iload_n (pc := 32) (i := 3) 2 dX11_verdict_32 rfl rfl ?_
      obtain ⟨c5, hf⟩ := gd_some hf
      refine X_saldj (pc := 33) (vp_in_lit (N := 7) c5 (by decide)) rfl dX11_verdict_33 ?_
      refine X_gets (pc := 34) true k_1091 dX11_verdict_34 ?_
      refine X_iload_n (pc := 37) (i := 3) 2 dX11_verdict_37 rfl rfl ?_
      obtain ⟨c6, hf⟩ := gd_some hf
      refine X_saldj (pc := 38) (vp_in_lit (N := 7) c6 (by decide)) rfl dX11_verdict_38 ?_
      refine X_invS_i (pc := 39) (c_H_isWithin hT rfl) ok_H_isWithin k_437 k_438 nd_6 (by decide) rfl (Nat.le_of_ble_eq_true rfl) dX11_verdict_39 ?_
      obtain ⟨x7, ex7, hf⟩ := bnd_e hf
      refine X_tope ex7 ?_
      by_cases c8 : x7 = (0 : Int32)
      · replace hf := (if_pos c8).symm.trans hf
        refine X_if_ne_f (pc := 42) 51 dX11_verdict_42 (by decide) c8 ?_
        refine X_iload_n (pc := 45) (i := 2) 1 dX11_verdict_45 rfl rfl ?_
        refine X_iconst (pc := 46) (1 : Int32) dX11_verdict_46 (by decide) ?_
        refine X_iload_n (pc := 47) (i := 3) 2 dX11_verdict_47 rfl rfl ?_
        refine X_ishl (pc := 48) dX11_verdict_48 ?_
        refine X_ior (pc := 49) dX11_verdict_49 ?_
        obtain ⟨x9, ex9, hf⟩ := bnd_e hf
        refine X_tope ex9 ?_
        refine X_istore_n (pc := 50) (i := 2) [(2, .int x9), (0, .ref (xB G + 0)), (3, .int l3)] dX11_verdict_50 rfl (by decide) rfl ?_
        refine X_iinc (pc := 51) (i := 3) (q := 2) (v := (l3 + (1 : Int32))) [(3, .int (l3 + (1 : Int32))), (2, .int x9), (0, .ref (xB G + 0))] dX11_verdict_51 rfl rfl (by decide) rfl ?_
        refine X_goto (pc := 54) 16 dX11_verdict_54 (by decide) ?_
        exact X_lvs [2, 1, 0] rfl (ih hf)
      · replace hf := (if_neg c8).symm.trans hf
        refine X_if_ne_t (pc := 42) 51 dX11_verdict_42 (by decide) c8 ?_
        refine X_iinc (pc := 51) (i := 3) (q := 2) (v := (l3 + (1 : Int32))) [(3, .int (l3 + (1 : Int32))), (0, .ref (xB G + 0)), (2, .int l2)] dX11_verdict_51 rfl rfl (by decide) rfl ?_
        refine X_goto (pc := 54) 16 dX11_verdict_54 (by decide) ?_
        exact X_lvs [1, 2, 0] rfl (ih hf)
def f_H_verdict (a0 : Int32) (I : Nat → Nat → Int32) (L : Nat → Nat → Int64) : Option Int32 := (if a0 = (7 : Int32) then (f_H_verdict_L16 xF (0 : Int32) (0 : Int32) I L) else ((f_H_trialNumber a0 I L).bind fun q10 => (some q10)))
set_option maxRecDepth 100000 in
set_option maxHeartbeats 4000000 in
theorem c_H_verdict {G : xG} {S : List xSh} {Rf : Nat → Nat → Option Nat} (hT : xTH S Rf) {a0 : Int32} {I : Nat → Nat → Int32} {L : Nat → Nat → Int64} {q : Int32} (hf : f_H_verdict a0 I L = some q) : CT G 4 m_H_verdict [.ref (xB G + 0), .int a0] (S, I, L, Rf) (some (.int q), (S, I, L, Rf)) := by
  refine CT.of (by decide +kernel) (Nat.le_of_ble_eq_true rfl) ?_
  show X G 4 m_H_verdict 0 [(0, .ref (xB G + 0)), (1, .int a0)] [] (S, I, L, Rf) (some (.int q), (S, I, L, Rf))
  replace hf := (f_H_verdict.eq_1 _ _ _).symm.trans hf
  refine X_iload_n (pc := 0) (i := 1) 1 dX11_verdict_0 rfl rfl ?_
  refine X_bipush (pc := 1) (7 : Int32) dX11_verdict_1 (by decide) ?_
  by_cases c1 : a0 = (7 : Int32)
  · replace hf := (if_pos c1).symm.trans hf
    refine X_icmp_eq_t (pc := 3) 12 dX11_verdict_3 (by decide) c1 ?_
    refine X_iconst (pc := 12) (0 : Int32) dX11_verdict_12 (by decide) ?_
    refine X_istore_n (pc := 13) (i := 2) [(2, .int (0 : Int32)), (0, .ref (xB G + 0)), (1, .int a0)] dX11_verdict_13 rfl (by decide) rfl ?_
    refine X_iconst (pc := 14) (0 : Int32) dX11_verdict_14 (by decide) ?_
    refine X_istore_n (pc := 15) (i := 3) [(3, .int (0 : Int32)), (2, .int (0 : Int32)), (0, .ref (xB G + 0)), (1, .int a0)] dX11_verdict_15 rfl (by decide) rfl ?_
    exact X_lvs [2, 1, 0] rfl (x_H_verdict_L16 hT xF hf)
  · replace hf := (if_neg c1).symm.trans hf
    refine X_icmp_eq_f (pc := 3) 12 dX11_verdict_3 (by decide) c1 ?_
    refine X_aload_n (pc := 6) (i := 0) 0 dX11_verdict_6 rfl rfl ?_
    refine X_iload_n (pc := 7) (i := 1) 1 dX11_verdict_7 rfl rfl ?_
    obtain ⟨q10, c11, hf⟩ := bd_some hf
    refine X_invV_i (pc := 8) (c_H_trialNumber hT c11) ok_H_trialNumber (ci := 10) (sh_0 hT) k_1067 k_1069 k_31 nd_8 (by decide) rfl (Nat.le_of_ble_eq_true rfl) dX11_verdict_8 ?_
    cases hf
    exact X_ireturn (pc := 11) rfl dX11_verdict_11
theorem dX0_has_0 : decode cX0_has 0 = .ok (.iload_n 0, 1) := by decide +kernel
theorem dX0_has_1 : decode cX0_has 1 = .ok (.iconst 0, 1) := by decide +kernel
theorem dX0_has_2 : decode cX0_has 2 = .ok (.iconst 3, 1) := by decide +kernel
theorem dX0_has_3 : decode cX0_has 3 = .ok (.invokestatic 25, 3) := by decide +kernel
theorem dX0_has_6 : decode cX0_has 6 = .ok (.ifCond .eq 17, 3) := by decide +kernel
theorem dX0_has_9 : decode cX0_has 9 = .ok (.iload_n 1, 1) := by decide +kernel
theorem dX0_has_10 : decode cX0_has 10 = .ok (.iconst 0, 1) := by decide +kernel
theorem dX0_has_11 : decode cX0_has 11 = .ok (.bipush 31, 2) := by decide +kernel
theorem dX0_has_13 : decode cX0_has 13 = .ok (.invokestatic 25, 3) := by decide +kernel
theorem dX0_has_16 : decode cX0_has 16 = .ok (.ifCond .eq 7, 3) := by decide +kernel
theorem dX0_has_19 : decode cX0_has 19 = .ok (.iconst 1, 1) := by decide +kernel
theorem dX0_has_20 : decode cX0_has 20 = .ok (.goto 4, 3) := by decide +kernel
theorem dX0_has_23 : decode cX0_has 23 = .ok (.iconst 0, 1) := by decide +kernel
theorem dX0_has_24 : decode cX0_has 24 = .ok (.ireturn, 1) := by decide +kernel
def f_Be_has (a0 : Int32) (a1 : Int32) : Int32 := (bnd (f_H_isWithin a0 (0 : Int32) (3 : Int32)) fun x1 => (if x1 = (0 : Int32) then (0 : Int32) else (bnd (f_H_isWithin a1 (0 : Int32) (31 : Int32)) fun x3 => (if x3 = (0 : Int32) then (0 : Int32) else (1 : Int32)))))
set_option maxRecDepth 100000 in
set_option maxHeartbeats 4000000 in
theorem c_Be_has {G : xG} {S : List xSh} {Rf : Nat → Nat → Option Nat} (hT : xTH S Rf) {a0 : Int32} {a1 : Int32} {I : Nat → Nat → Int32} {L : Nat → Nat → Int64} {q : Int32} (hf : f_Be_has a0 a1 = q) : CT G 2 m_Be_has [.int a0, .int a1] (S, I, L, Rf) (some (.int q), (S, I, L, Rf)) := by
  refine CT.of (by decide +kernel) (Nat.le_of_ble_eq_true rfl) ?_
  show X G 2 m_Be_has 0 [(0, .int a0), (1, .int a1)] [] (S, I, L, Rf) (some (.int q), (S, I, L, Rf))
  replace hf := (f_Be_has.eq_1 _ _).symm.trans hf
  refine X_iload_n (pc := 0) (i := 0) 0 dX0_has_0 rfl rfl ?_
  refine X_iconst (pc := 1) (0 : Int32) dX0_has_1 (by decide) ?_
  refine X_iconst (pc := 2) (3 : Int32) dX0_has_2 (by decide) ?_
  refine X_invSN_i (pc := 3) (c_H_isWithin hT rfl) ok_H_isWithin k_1100 k_438 nd_6 (by decide) rfl (Nat.le_of_ble_eq_true rfl) dX0_has_3 ?_
  obtain ⟨x1, ex1, hf⟩ := bnd_e hf
  refine X_tope ex1 ?_
  by_cases c2 : x1 = (0 : Int32)
  · replace hf := (if_pos c2).symm.trans hf
    refine X_if_eq_t (pc := 6) 23 dX0_has_6 (by decide) c2 ?_
    refine X_iconst (pc := 23) (0 : Int32) dX0_has_23 (by decide) ?_
    subst hf
    exact X_zreturn (pc := 24) rfl (nar_b (by decide)) dX0_has_24
  · replace hf := (if_neg c2).symm.trans hf
    refine X_if_eq_f (pc := 6) 23 dX0_has_6 (by decide) c2 ?_
    refine X_iload_n (pc := 9) (i := 1) 1 dX0_has_9 rfl rfl ?_
    refine X_iconst (pc := 10) (0 : Int32) dX0_has_10 (by decide) ?_
    refine X_bipush (pc := 11) (31 : Int32) dX0_has_11 (by decide) ?_
    refine X_invSN_i (pc := 13) (c_H_isWithin hT rfl) ok_H_isWithin k_1100 k_438 nd_6 (by decide) rfl (Nat.le_of_ble_eq_true rfl) dX0_has_13 ?_
    obtain ⟨x3, ex3, hf⟩ := bnd_e hf
    refine X_tope ex3 ?_
    by_cases c4 : x3 = (0 : Int32)
    · replace hf := (if_pos c4).symm.trans hf
      refine X_if_eq_t (pc := 16) 23 dX0_has_16 (by decide) c4 ?_
      refine X_iconst (pc := 23) (0 : Int32) dX0_has_23 (by decide) ?_
      subst hf
      exact X_zreturn (pc := 24) rfl (nar_b (by decide)) dX0_has_24
    · replace hf := (if_neg c4).symm.trans hf
      refine X_if_eq_f (pc := 16) 23 dX0_has_16 (by decide) c4 ?_
      refine X_iconst (pc := 19) (1 : Int32) dX0_has_19 (by decide) ?_
      refine X_goto (pc := 20) 24 dX0_has_20 (by decide) ?_
      subst hf
      exact X_zreturn (pc := 24) rfl (nar_b (by decide)) dX0_has_24
theorem dX0_put_0 : decode cX0_put 0 = .ok (.iload_n 1, 1) := by decide +kernel
theorem dX0_put_1 : decode cX0_put 1 = .ok (.bipush 32, 2) := by decide +kernel
theorem dX0_put_3 : decode cX0_put 3 = .ok (.imul, 1) := by decide +kernel
theorem dX0_put_4 : decode cX0_put 4 = .ok (.iload_n 2, 1) := by decide +kernel
theorem dX0_put_5 : decode cX0_put 5 = .ok (.iadd, 1) := by decide +kernel
theorem dX0_put_6 : decode cX0_put 6 = .ok (.istore 4, 2) := by decide +kernel
theorem dX0_put_8 : decode cX0_put 8 = .ok (.aload_n 0, 1) := by decide +kernel
theorem dX0_put_9 : decode cX0_put 9 = .ok (.getfield 18, 3) := by decide +kernel
theorem dX0_put_12 : decode cX0_put 12 = .ok (.iload 4, 2) := by decide +kernel
theorem dX0_put_14 : decode cX0_put 14 = .ok (.iaload, 1) := by decide +kernel
theorem dX0_put_15 : decode cX0_put 15 = .ok (.istore 5, 2) := by decide +kernel
theorem dX0_put_17 : decode cX0_put 17 = .ok (.aload_n 0, 1) := by decide +kernel
theorem dX0_put_18 : decode cX0_put 18 = .ok (.getfield 18, 3) := by decide +kernel
theorem dX0_put_21 : decode cX0_put 21 = .ok (.iload 4, 2) := by decide +kernel
theorem dX0_put_23 : decode cX0_put 23 = .ok (.iload_n 3, 1) := by decide +kernel
theorem dX0_put_24 : decode cX0_put 24 = .ok (.iastore, 1) := by decide +kernel
theorem dX0_put_25 : decode cX0_put 25 = .ok (.aload_n 0, 1) := by decide +kernel
theorem dX0_put_26 : decode cX0_put 26 = .ok (.getfield 21, 3) := by decide +kernel
theorem dX0_put_29 : decode cX0_put 29 = .ok (.iload 4, 2) := by decide +kernel
theorem dX0_put_31 : decode cX0_put 31 = .ok (.iconst 0, 1) := by decide +kernel
theorem dX0_put_32 : decode cX0_put 32 = .ok (.bastore, 1) := by decide +kernel
theorem dX0_put_33 : decode cX0_put 33 = .ok (.iload 5, 2) := by decide +kernel
theorem dX0_put_35 : decode cX0_put 35 = .ok (.ireturn, 1) := by decide +kernel
def f_Be_put (a0 : Int32) (a1 : Int32) (a2 : Int32) (I : Nat → Nat → Int32) (L : Nat → Nat → Int64) : Option (Int32 × (Nat → Nat → Int32) × (Nat → Nat → Int64)) := (bnd ((a0 * (32 : Int32)) + a1) fun x1 => (if (0 ≤ x1 ∧ x1 < (128 : Int32)) then (bnd (I 32 (x1.toNatClampNeg)) fun x3 => (if (0 ≤ x1 ∧ x1 < (128 : Int32)) then (if (0 ≤ x1 ∧ x1 < (128 : Int32)) then (some (x3, (uI (uI I 32 (x1.toNatClampNeg) a2) 33 (x1.toNatClampNeg) (0 : Int32)), L)) else none) else none)) else none))
set_option maxRecDepth 100000 in
set_option maxHeartbeats 4000000 in
theorem c_Be_put {G : xG} {S : List xSh} {Rf : Nat → Nat → Option Nat} (hT : xTH S Rf) {a0 : Int32} {a1 : Int32} {a2 : Int32} {I : Nat → Nat → Int32} {L : Nat → Nat → Int64} {q : (Int32 × (Nat → Nat → Int32) × (Nat → Nat → Int64))} (hf : f_Be_put a0 a1 a2 I L = some q) : CT G 1 m_Be_put [.ref (xB G + 29), .int a0, .int a1, .int a2] (S, I, L, Rf) (some (.int q.1), (S, q.2.1, q.2.2, Rf)) := by
  refine CT.of (by decide +kernel) (Nat.le_of_ble_eq_true rfl) ?_
  show X G 1 m_Be_put 0 [(0, .ref (xB G + 29)), (1, .int a0), (2, .int a1), (3, .int a2)] [] (S, I, L, Rf) (some (.int q.1), (S, q.2.1, q.2.2, Rf))
  replace hf := (f_Be_put.eq_1 _ _ _ _ _).symm.trans hf
  refine X_iload_n (pc := 0) (i := 1) 1 dX0_put_0 rfl rfl ?_
  refine X_bipush (pc := 1) (32 : Int32) dX0_put_1 (by decide) ?_
  refine X_imul (pc := 3) dX0_put_3 ?_
  refine X_iload_n (pc := 4) (i := 2) 2 dX0_put_4 rfl rfl ?_
  refine X_iadd (pc := 5) dX0_put_5 ?_
  obtain ⟨x1, ex1, hf⟩ := bnd_e hf
  refine X_tope ex1 ?_
  refine X_istore (pc := 6) [(4, .int x1), (0, .ref (xB G + 29)), (1, .int a0), (2, .int a1), (3, .int a2)] dX0_put_6 (by decide) rfl ?_
  refine X_aload_n (pc := 8) (i := 0) 1 dX0_put_8 rfl rfl ?_
  refine X_getr (pc := 9) (a := 29) (ci := 0) (j := 3) (c := 32) (sh_29 hT) (by decide) k_332 (rf_29_3 hT) (fun _ h => h) dX0_put_9 ?_
  refine X_iload (pc := 12) 0 dX0_put_12 rfl ?_
  obtain ⟨c2, hf⟩ := gd_some hf
  refine X_ialdj (pc := 14) (j := x1.toNatClampNeg) (I 32 (x1.toNatClampNeg)) (sh_32 hT) (vp_in_lit (N := 128) c2 (by decide)) rfl rfl dX0_put_14 ?_
  obtain ⟨x3, ex3, hf⟩ := bnd_e hf
  refine X_tope ex3 ?_
  refine X_istore (pc := 15) [(5, .int x3), (4, .int x1), (0, .ref (xB G + 29)), (1, .int a0), (2, .int a1), (3, .int a2)] dX0_put_15 (by decide) rfl ?_
  refine X_aload_n (pc := 17) (i := 0) 2 dX0_put_17 rfl rfl ?_
  refine X_getr (pc := 18) (a := 29) (ci := 0) (j := 3) (c := 32) (sh_29 hT) (by decide) k_332 (rf_29_3 hT) (fun _ h => h) dX0_put_18 ?_
  refine X_iload (pc := 21) 1 dX0_put_21 rfl ?_
  refine X_iload_n (pc := 23) (i := 3) 5 dX0_put_23 rfl rfl ?_
  obtain ⟨c4, hf⟩ := gd_some hf
  refine X_iastj (pc := 24) (j := (x1.toNatClampNeg)) (sh_32 hT) (vp_in_lit (N := 128) c4 (by decide)) rfl dX0_put_24 ?_
  refine X_aload_n (pc := 25) (i := 0) 2 dX0_put_25 rfl rfl ?_
  refine X_getr (pc := 26) (a := 29) (ci := 0) (j := 4) (c := 33) (sh_29 hT) (by decide) k_333 (rf_29_4 hT) (fun _ h => h) dX0_put_26 ?_
  refine X_iload (pc := 29) 1 dX0_put_29 rfl ?_
  refine X_iconst (pc := 31) (0 : Int32) dX0_put_31 (by decide) ?_
  obtain ⟨c5, hf⟩ := gd_some hf
  refine X_zastj (pc := 32) (j := (x1.toNatClampNeg)) (by decide) (sh_33 hT) (vp_in_lit (N := 128) c5 (by decide)) rfl dX0_put_32 ?_
  refine X_iload (pc := 33) 0 dX0_put_33 rfl ?_
  cases hf
  exact X_ireturn (pc := 35) rfl dX0_put_35
theorem dX11_change_0 : decode cX11_change 0 = .ok (.iload_n 1, 1) := by decide +kernel
theorem dX11_change_1 : decode cX11_change 1 = .ok (.iload_n 2, 1) := by decide +kernel
theorem dX11_change_2 : decode cX11_change 2 = .ok (.invokestatic 328, 3) := by decide +kernel
theorem dX11_change_5 : decode cX11_change 5 = .ok (.ifCond .eq 14, 3) := by decide +kernel
theorem dX11_change_8 : decode cX11_change 8 = .ok (.iload_n 3, 1) := by decide +kernel
theorem dX11_change_9 : decode cX11_change 9 = .ok (.ldc 165, 2) := by decide +kernel
theorem dX11_change_11 : decode cX11_change 11 = .ok (.ldc 111, 2) := by decide +kernel
theorem dX11_change_13 : decode cX11_change 13 = .ok (.invokestatic 91, 3) := by decide +kernel
theorem dX11_change_16 : decode cX11_change 16 = .ok (.ifCond .ne 5, 3) := by decide +kernel
theorem dX11_change_19 : decode cX11_change 19 = .ok (.iconst (-1), 1) := by decide +kernel
theorem dX11_change_20 : decode cX11_change 20 = .ok (.ireturn, 1) := by decide +kernel
theorem dX11_change_21 : decode cX11_change 21 = .ok (.aload_n 0, 1) := by decide +kernel
theorem dX11_change_22 : decode cX11_change 22 = .ok (.getfield 66, 3) := by decide +kernel
theorem dX11_change_25 : decode cX11_change 25 = .ok (.iload_n 1, 1) := by decide +kernel
theorem dX11_change_26 : decode cX11_change 26 = .ok (.iload_n 2, 1) := by decide +kernel
theorem dX11_change_27 : decode cX11_change 27 = .ok (.iload_n 3, 1) := by decide +kernel
theorem dX11_change_28 : decode cX11_change 28 = .ok (.invokevirtual 329, 3) := by decide +kernel
theorem dX11_change_31 : decode cX11_change 31 = .ok (.ireturn, 1) := by decide +kernel
def f_H_change (a0 : Int32) (a1 : Int32) (a2 : Int32) (I : Nat → Nat → Int32) (L : Nat → Nat → Int64) : Option (Int32 × (Nat → Nat → Int32) × (Nat → Nat → Int64)) := (if (f_Be_has a0 a1) = (0 : Int32) then (some ((-1 : Int32), I, L)) else (bnd (f_H_isWithin a2 (-1000000 : Int32) (1000000 : Int32)) fun x2 => (if x2 = (0 : Int32) then (some ((-1 : Int32), I, L)) else ((f_Be_put a0 a1 a2 I L).bind fun q4 => (some (q4.1, q4.2.1, q4.2.2))))))
set_option maxRecDepth 100000 in
set_option maxHeartbeats 4000000 in
theorem c_H_change {G : xG} {S : List xSh} {Rf : Nat → Nat → Option Nat} (hT : xTH S Rf) {a0 : Int32} {a1 : Int32} {a2 : Int32} {I : Nat → Nat → Int32} {L : Nat → Nat → Int64} {q : (Int32 × (Nat → Nat → Int32) × (Nat → Nat → Int64))} (hf : f_H_change a0 a1 a2 I L = some q) : CT G 3 m_H_change [.ref (xB G + 0), .int a0, .int a1, .int a2] (S, I, L, Rf) (some (.int q.1), (S, q.2.1, q.2.2, Rf)) := by
  refine CT.of (by decide +kernel) (Nat.le_of_ble_eq_true rfl) ?_
  show X G 3 m_H_change 0 [(0, .ref (xB G + 0)), (1, .int a0), (2, .int a1), (3, .int a2)] [] (S, I, L, Rf) (some (.int q.1), (S, q.2.1, q.2.2, Rf))
  replace hf := (f_H_change.eq_1 _ _ _ _ _).symm.trans hf
  refine X_iload_n (pc := 0) (i := 1) 1 dX11_change_0 rfl rfl ?_
  refine X_iload_n (pc := 1) (i := 2) 2 dX11_change_1 rfl rfl ?_
  refine X_invS_i (pc := 2) (c_Be_has hT rfl) ok_Be_has k_1097 k_1098 nd_25 (by decide) rfl (Nat.le_of_ble_eq_true rfl) dX11_change_2 ?_
  by_cases c1 : (f_Be_has a0 a1) = (0 : Int32)
  · replace hf := (if_pos c1).symm.trans hf
    refine X_if_eq_t (pc := 5) 19 dX11_change_5 (by decide) c1 ?_
    refine X_iconst (pc := 19) (-1 : Int32) dX11_change_19 (by decide) ?_
    cases hf
    exact X_ireturn (pc := 20) rfl dX11_change_20
  · replace hf := (if_neg c1).symm.trans hf
    refine X_if_eq_f (pc := 5) 19 dX11_change_5 (by decide) c1 ?_
    refine X_iload_n (pc := 8) (i := 3) 3 dX11_change_8 rfl rfl ?_
    refine X_ldc (pc := 9) (-1000000 : Int32) k_802 dX11_change_9 ?_
    refine X_ldc (pc := 11) (1000000 : Int32) k_510 dX11_change_11 ?_
    refine X_invS_i (pc := 13) (c_H_isWithin hT rfl) ok_H_isWithin k_437 k_438 nd_6 (by decide) rfl (Nat.le_of_ble_eq_true rfl) dX11_change_13 ?_
    obtain ⟨x2, ex2, hf⟩ := bnd_e hf
    refine X_tope ex2 ?_
    by_cases c3 : x2 = (0 : Int32)
    · replace hf := (if_pos c3).symm.trans hf
      refine X_if_ne_f (pc := 16) 21 dX11_change_16 (by decide) c3 ?_
      refine X_iconst (pc := 19) (-1 : Int32) dX11_change_19 (by decide) ?_
      cases hf
      exact X_ireturn (pc := 20) rfl dX11_change_20
    · replace hf := (if_neg c3).symm.trans hf
      refine X_if_ne_t (pc := 16) 21 dX11_change_16 (by decide) c3 ?_
      refine X_aload_n (pc := 21) (i := 0) 0 dX11_change_21 rfl rfl ?_
      refine X_getr (pc := 22) (a := 0) (ci := 10) (j := 12) (c := 29) (sh_0 hT) (by decide) k_389 (rf_0_12 hT) (fun _ h => h) dX11_change_22 ?_
      refine X_iload_n (pc := 25) (i := 1) 1 dX11_change_25 rfl rfl ?_
      refine X_iload_n (pc := 26) (i := 2) 2 dX11_change_26 rfl rfl ?_
      refine X_iload_n (pc := 27) (i := 3) 3 dX11_change_27 rfl rfl ?_
      obtain ⟨q4, c5, hf⟩ := bd_some hf
      refine X_invV_i (pc := 28) (c_Be_put hT c5) ok_Be_put (ci := 0) (sh_29 hT) k_1101 k_1102 k_1103 nd_15 (by decide) rfl (Nat.le_of_ble_eq_true rfl) dX11_change_28 ?_
      cases hf
      exact X_ireturn (pc := 31) rfl dX11_change_31
theorem dX0_ofVersion_0 : decode cX0_ofVersion 0 = .ok (.aload_n 0, 1) := by decide +kernel
theorem dX0_ofVersion_1 : decode cX0_ofVersion 1 = .ok (.getfield 15, 3) := by decide +kernel
theorem dX0_ofVersion_4 : decode cX0_ofVersion 4 = .ok (.iload_n 1, 1) := by decide +kernel
theorem dX0_ofVersion_5 : decode cX0_ofVersion 5 = .ok (.bipush 32, 2) := by decide +kernel
theorem dX0_ofVersion_7 : decode cX0_ofVersion 7 = .ok (.imul, 1) := by decide +kernel
theorem dX0_ofVersion_8 : decode cX0_ofVersion 8 = .ok (.iload_n 2, 1) := by decide +kernel
theorem dX0_ofVersion_9 : decode cX0_ofVersion 9 = .ok (.iadd, 1) := by decide +kernel
theorem dX0_ofVersion_10 : decode cX0_ofVersion 10 = .ok (.iaload, 1) := by decide +kernel
theorem dX0_ofVersion_11 : decode cX0_ofVersion 11 = .ok (.ireturn, 1) := by decide +kernel
def f_Be_ofVersion (a0 : Int32) (a1 : Int32) (I : Nat → Nat → Int32) (L : Nat → Nat → Int64) : Option Int32 := (if (0 ≤ ((a0 * (32 : Int32)) + a1) ∧ ((a0 * (32 : Int32)) + a1) < (16032 : Int32)) then (some (I 31 (((a0 * (32 : Int32)) + a1).toNatClampNeg))) else none)
set_option maxRecDepth 100000 in
set_option maxHeartbeats 4000000 in
theorem c_Be_ofVersion {G : xG} {S : List xSh} {Rf : Nat → Nat → Option Nat} (hT : xTH S Rf) {a0 : Int32} {a1 : Int32} {I : Nat → Nat → Int32} {L : Nat → Nat → Int64} {q : Int32} (hf : f_Be_ofVersion a0 a1 I L = some q) : CT G 1 m_Be_ofVersion [.ref (xB G + 29), .int a0, .int a1] (S, I, L, Rf) (some (.int q), (S, I, L, Rf)) := by
  refine CT.of (by decide +kernel) (Nat.le_of_ble_eq_true rfl) ?_
  show X G 1 m_Be_ofVersion 0 [(0, .ref (xB G + 29)), (1, .int a0), (2, .int a1)] [] (S, I, L, Rf) (some (.int q), (S, I, L, Rf))
  replace hf := (f_Be_ofVersion.eq_1 _ _ _ _).symm.trans hf
  refine X_aload_n (pc := 0) (i := 0) 0 dX0_ofVersion_0 rfl rfl ?_
  refine X_getr (pc := 1) (a := 29) (ci := 0) (j := 2) (c := 31) (sh_29 hT) (by decide) k_331 (rf_29_2 hT) (fun _ h => h) dX0_ofVersion_1 ?_
  refine X_iload_n (pc := 4) (i := 1) 1 dX0_ofVersion_4 rfl rfl ?_
  refine X_bipush (pc := 5) (32 : Int32) dX0_ofVersion_5 (by decide) ?_
  refine X_imul (pc := 7) dX0_ofVersion_7 ?_
  refine X_iload_n (pc := 8) (i := 2) 2 dX0_ofVersion_8 rfl rfl ?_
  refine X_iadd (pc := 9) dX0_ofVersion_9 ?_
  obtain ⟨c1, hf⟩ := gd_some hf
  refine X_ialdj (pc := 10) (j := ((a0 * (32 : Int32)) + a1).toNatClampNeg) (I 31 (((a0 * (32 : Int32)) + a1).toNatClampNeg)) (sh_31 hT) (vp_in_lit (N := 16032) c1 (by decide)) rfl rfl dX0_ofVersion_10 ?_
  cases hf
  exact X_ireturn (pc := 11) rfl dX0_ofVersion_11
theorem dX0_ofCopy_0 : decode cX0_ofCopy 0 = .ok (.aload_n 0, 1) := by decide +kernel
theorem dX0_ofCopy_1 : decode cX0_ofCopy 1 = .ok (.getfield 18, 3) := by decide +kernel
theorem dX0_ofCopy_4 : decode cX0_ofCopy 4 = .ok (.iload_n 1, 1) := by decide +kernel
theorem dX0_ofCopy_5 : decode cX0_ofCopy 5 = .ok (.bipush 32, 2) := by decide +kernel
theorem dX0_ofCopy_7 : decode cX0_ofCopy 7 = .ok (.imul, 1) := by decide +kernel
theorem dX0_ofCopy_8 : decode cX0_ofCopy 8 = .ok (.iload_n 2, 1) := by decide +kernel
theorem dX0_ofCopy_9 : decode cX0_ofCopy 9 = .ok (.iadd, 1) := by decide +kernel
theorem dX0_ofCopy_10 : decode cX0_ofCopy 10 = .ok (.iaload, 1) := by decide +kernel
theorem dX0_ofCopy_11 : decode cX0_ofCopy 11 = .ok (.ireturn, 1) := by decide +kernel
def f_Be_ofCopy (a0 : Int32) (a1 : Int32) (I : Nat → Nat → Int32) (L : Nat → Nat → Int64) : Option Int32 := (if (0 ≤ ((a0 * (32 : Int32)) + a1) ∧ ((a0 * (32 : Int32)) + a1) < (128 : Int32)) then (some (I 32 (((a0 * (32 : Int32)) + a1).toNatClampNeg))) else none)
set_option maxRecDepth 100000 in
set_option maxHeartbeats 4000000 in
theorem c_Be_ofCopy {G : xG} {S : List xSh} {Rf : Nat → Nat → Option Nat} (hT : xTH S Rf) {a0 : Int32} {a1 : Int32} {I : Nat → Nat → Int32} {L : Nat → Nat → Int64} {q : Int32} (hf : f_Be_ofCopy a0 a1 I L = some q) : CT G 1 m_Be_ofCopy [.ref (xB G + 29), .int a0, .int a1] (S, I, L, Rf) (some (.int q), (S, I, L, Rf)) := by
  refine CT.of (by decide +kernel) (Nat.le_of_ble_eq_true rfl) ?_
  show X G 1 m_Be_ofCopy 0 [(0, .ref (xB G + 29)), (1, .int a0), (2, .int a1)] [] (S, I, L, Rf) (some (.int q), (S, I, L, Rf))
  replace hf := (f_Be_ofCopy.eq_1 _ _ _ _).symm.trans hf
  refine X_aload_n (pc := 0) (i := 0) 0 dX0_ofCopy_0 rfl rfl ?_
  refine X_getr (pc := 1) (a := 29) (ci := 0) (j := 3) (c := 32) (sh_29 hT) (by decide) k_332 (rf_29_3 hT) (fun _ h => h) dX0_ofCopy_1 ?_
  refine X_iload_n (pc := 4) (i := 1) 1 dX0_ofCopy_4 rfl rfl ?_
  refine X_bipush (pc := 5) (32 : Int32) dX0_ofCopy_5 (by decide) ?_
  refine X_imul (pc := 7) dX0_ofCopy_7 ?_
  refine X_iload_n (pc := 8) (i := 2) 2 dX0_ofCopy_8 rfl rfl ?_
  refine X_iadd (pc := 9) dX0_ofCopy_9 ?_
  obtain ⟨c1, hf⟩ := gd_some hf
  refine X_ialdj (pc := 10) (j := ((a0 * (32 : Int32)) + a1).toNatClampNeg) (I 32 (((a0 * (32 : Int32)) + a1).toNatClampNeg)) (sh_32 hT) (vp_in_lit (N := 128) c1 (by decide)) rfl rfl dX0_ofCopy_10 ?_
  cases hf
  exact X_ireturn (pc := 11) rfl dX0_ofCopy_11
theorem dX0_isConflict_0 : decode cX0_isConflict 0 = .ok (.aload_n 0, 1) := by decide +kernel
theorem dX0_isConflict_1 : decode cX0_isConflict 1 = .ok (.aload_n 0, 1) := by decide +kernel
theorem dX0_isConflict_2 : decode cX0_isConflict 2 = .ok (.getfield 11, 3) := by decide +kernel
theorem dX0_isConflict_5 : decode cX0_isConflict 5 = .ok (.iload_n 1, 1) := by decide +kernel
theorem dX0_isConflict_6 : decode cX0_isConflict 6 = .ok (.iaload, 1) := by decide +kernel
theorem dX0_isConflict_7 : decode cX0_isConflict 7 = .ok (.iload_n 2, 1) := by decide +kernel
theorem dX0_isConflict_8 : decode cX0_isConflict 8 = .ok (.invokevirtual 29, 3) := by decide +kernel
theorem dX0_isConflict_11 : decode cX0_isConflict 11 = .ok (.istore_n 3, 1) := by decide +kernel
theorem dX0_isConflict_12 : decode cX0_isConflict 12 = .ok (.aload_n 0, 1) := by decide +kernel
theorem dX0_isConflict_13 : decode cX0_isConflict 13 = .ok (.iload_n 1, 1) := by decide +kernel
theorem dX0_isConflict_14 : decode cX0_isConflict 14 = .ok (.iload_n 2, 1) := by decide +kernel
theorem dX0_isConflict_15 : decode cX0_isConflict 15 = .ok (.invokevirtual 33, 3) := by decide +kernel
theorem dX0_isConflict_18 : decode cX0_isConflict 18 = .ok (.istore 4, 2) := by decide +kernel
theorem dX0_isConflict_20 : decode cX0_isConflict 20 = .ok (.aload_n 0, 1) := by decide +kernel
theorem dX0_isConflict_21 : decode cX0_isConflict 21 = .ok (.aload_n 0, 1) := by decide +kernel
theorem dX0_isConflict_22 : decode cX0_isConflict 22 = .ok (.getfield 36, 3) := by decide +kernel
theorem dX0_isConflict_25 : decode cX0_isConflict 25 = .ok (.iload_n 2, 1) := by decide +kernel
theorem dX0_isConflict_26 : decode cX0_isConflict 26 = .ok (.invokevirtual 29, 3) := by decide +kernel
theorem dX0_isConflict_29 : decode cX0_isConflict 29 = .ok (.istore 5, 2) := by decide +kernel
theorem dX0_isConflict_31 : decode cX0_isConflict 31 = .ok (.iload 4, 2) := by decide +kernel
theorem dX0_isConflict_33 : decode cX0_isConflict 33 = .ok (.iload_n 3, 1) := by decide +kernel
theorem dX0_isConflict_34 : decode cX0_isConflict 34 = .ok (.if_icmp .eq 34, 3) := by decide +kernel
theorem dX0_isConflict_37 : decode cX0_isConflict 37 = .ok (.iload 5, 2) := by decide +kernel
theorem dX0_isConflict_39 : decode cX0_isConflict 39 = .ok (.iload_n 3, 1) := by decide +kernel
theorem dX0_isConflict_40 : decode cX0_isConflict 40 = .ok (.if_icmp .eq 28, 3) := by decide +kernel
theorem dX0_isConflict_43 : decode cX0_isConflict 43 = .ok (.iload 4, 2) := by decide +kernel
theorem dX0_isConflict_45 : decode cX0_isConflict 45 = .ok (.iload 5, 2) := by decide +kernel
theorem dX0_isConflict_47 : decode cX0_isConflict 47 = .ok (.if_icmp .eq 21, 3) := by decide +kernel
theorem dX0_isConflict_50 : decode cX0_isConflict 50 = .ok (.aload_n 0, 1) := by decide +kernel
theorem dX0_isConflict_51 : decode cX0_isConflict 51 = .ok (.getfield 21, 3) := by decide +kernel
theorem dX0_isConflict_54 : decode cX0_isConflict 54 = .ok (.iload_n 1, 1) := by decide +kernel
theorem dX0_isConflict_55 : decode cX0_isConflict 55 = .ok (.bipush 32, 2) := by decide +kernel
theorem dX0_isConflict_57 : decode cX0_isConflict 57 = .ok (.imul, 1) := by decide +kernel
theorem dX0_isConflict_58 : decode cX0_isConflict 58 = .ok (.iload_n 2, 1) := by decide +kernel
theorem dX0_isConflict_59 : decode cX0_isConflict 59 = .ok (.iadd, 1) := by decide +kernel
theorem dX0_isConflict_60 : decode cX0_isConflict 60 = .ok (.baload, 1) := by decide +kernel
theorem dX0_isConflict_61 : decode cX0_isConflict 61 = .ok (.ifCond .ne 7, 3) := by decide +kernel
theorem dX0_isConflict_64 : decode cX0_isConflict 64 = .ok (.iconst 1, 1) := by decide +kernel
theorem dX0_isConflict_65 : decode cX0_isConflict 65 = .ok (.goto 4, 3) := by decide +kernel
theorem dX0_isConflict_68 : decode cX0_isConflict 68 = .ok (.iconst 0, 1) := by decide +kernel
theorem dX0_isConflict_69 : decode cX0_isConflict 69 = .ok (.ireturn, 1) := by decide +kernel
def f_Be_isConflict (a0 : Int32) (a1 : Int32) (I : Nat → Nat → Int32) (L : Nat → Nat → Int64) : Option Int32 := (if (0 ≤ a0 ∧ a0 < (4 : Int32)) then ((f_Be_ofVersion (I 30 (a0.toNatClampNeg)) a1 I L).bind fun q2 => ((f_Be_ofCopy a0 a1 I L).bind fun q4 => ((f_Be_ofVersion (I 29 0) a1 I L).bind fun q6 => (if q4 = q2 then (some (0 : Int32)) else (if q6 = q2 then (some (0 : Int32)) else (if q4 = q6 then (some (0 : Int32)) else (if (0 ≤ ((a0 * (32 : Int32)) + a1) ∧ ((a0 * (32 : Int32)) + a1) < (128 : Int32)) then (if (I 33 (((a0 * (32 : Int32)) + a1).toNatClampNeg)) = (0 : Int32) then (some (1 : Int32)) else (some (0 : Int32))) else none))))))) else none)
set_option maxRecDepth 100000 in
set_option maxHeartbeats 4000000 in
theorem c_Be_isConflict {G : xG} {S : List xSh} {Rf : Nat → Nat → Option Nat} (hT : xTH S Rf) {a0 : Int32} {a1 : Int32} {I : Nat → Nat → Int32} {L : Nat → Nat → Int64} {q : Int32} (hf : f_Be_isConflict a0 a1 I L = some q) : CT G 2 m_Be_isConflict [.ref (xB G + 29), .int a0, .int a1] (S, I, L, Rf) (some (.int q), (S, I, L, Rf)) := by
  refine CT.of (by decide +kernel) (Nat.le_of_ble_eq_true rfl) ?_
  show X G 2 m_Be_isConflict 0 [(0, .ref (xB G + 29)), (1, .int a0), (2, .int a1)] [] (S, I, L, Rf) (some (.int q), (S, I, L, Rf))
  replace hf := (f_Be_isConflict.eq_1 _ _ _ _).symm.trans hf
  refine X_aload_n (pc := 0) (i := 0) 0 dX0_isConflict_0 rfl rfl ?_
  refine X_aload_n (pc := 1) (i := 0) 0 dX0_isConflict_1 rfl rfl ?_
  refine X_getr (pc := 2) (a := 29) (ci := 0) (j := 1) (c := 30) (sh_29 hT) (by decide) k_329 (rf_29_1 hT) (fun _ h => h) dX0_isConflict_2 ?_
  refine X_iload_n (pc := 5) (i := 1) 1 dX0_isConflict_5 rfl rfl ?_
  obtain ⟨c1, hf⟩ := gd_some hf
  refine X_ialdj (pc := 6) (j := a0.toNatClampNeg) (I 30 (a0.toNatClampNeg)) (sh_30 hT) (vp_in_lit (N := 4) c1 (by decide)) rfl rfl dX0_isConflict_6 ?_
  refine X_iload_n (pc := 7) (i := 2) 2 dX0_isConflict_7 rfl rfl ?_
  obtain ⟨q2, c3, hf⟩ := bd_some hf
  refine X_invV_i (pc := 8) (c_Be_ofVersion hT c3) ok_Be_ofVersion (ci := 0) (sh_29 hT) k_1121 k_1122 k_1123 nd_22 (by decide) rfl (Nat.le_of_ble_eq_true rfl) dX0_isConflict_8 ?_
  refine X_istore_n (pc := 11) (i := 3) [(3, .int q2), (0, .ref (xB G + 29)), (1, .int a0), (2, .int a1)] dX0_isConflict_11 rfl (by decide) rfl ?_
  refine X_aload_n (pc := 12) (i := 0) 1 dX0_isConflict_12 rfl rfl ?_
  refine X_iload_n (pc := 13) (i := 1) 2 dX0_isConflict_13 rfl rfl ?_
  refine X_iload_n (pc := 14) (i := 2) 3 dX0_isConflict_14 rfl rfl ?_
  obtain ⟨q4, c5, hf⟩ := bd_some hf
  refine X_invV_i (pc := 15) (c_Be_ofCopy hT c5) ok_Be_ofCopy (ci := 0) (sh_29 hT) k_1125 k_1126 k_1127 nd_22 (by decide) rfl (Nat.le_of_ble_eq_true rfl) dX0_isConflict_15 ?_
  refine X_istore (pc := 18) [(4, .int q4), (3, .int q2), (0, .ref (xB G + 29)), (1, .int a0), (2, .int a1)] dX0_isConflict_18 (by decide) rfl ?_
  refine X_aload_n (pc := 20) (i := 0) 2 dX0_isConflict_20 rfl rfl ?_
  refine X_aload_n (pc := 21) (i := 0) 2 dX0_isConflict_21 rfl rfl ?_
  refine X_get (pc := 22) (a := 29) (ci := 0) (j := 0) (.int (I 29 0)) (sh_29 hT) (by decide) k_327 rfl dX0_isConflict_22 ?_
  refine X_iload_n (pc := 25) (i := 2) 4 dX0_isConflict_25 rfl rfl ?_
  obtain ⟨q6, c7, hf⟩ := bd_some hf
  refine X_invV_i (pc := 26) (c_Be_ofVersion hT c7) ok_Be_ofVersion (ci := 0) (sh_29 hT) k_1121 k_1122 k_1123 nd_22 (by decide) rfl (Nat.le_of_ble_eq_true rfl) dX0_isConflict_26 ?_
  refine X_istore (pc := 29) [(5, .int q6), (4, .int q4), (3, .int q2), (0, .ref (xB G + 29)), (1, .int a0), (2, .int a1)] dX0_isConflict_29 (by decide) rfl ?_
  refine X_iload (pc := 31) 1 dX0_isConflict_31 rfl ?_
  refine X_iload_n (pc := 33) (i := 3) 2 dX0_isConflict_33 rfl rfl ?_
  by_cases c8 : q4 = q2
  · replace hf := (if_pos c8).symm.trans hf
    refine X_icmp_eq_t (pc := 34) 68 dX0_isConflict_34 (by decide) c8 ?_
    refine X_iconst (pc := 68) (0 : Int32) dX0_isConflict_68 (by decide) ?_
    cases hf
    exact X_zreturn (pc := 69) rfl (nar_b (by decide)) dX0_isConflict_69
  · replace hf := (if_neg c8).symm.trans hf
    refine X_icmp_eq_f (pc := 34) 68 dX0_isConflict_34 (by decide) c8 ?_
    refine X_iload (pc := 37) 0 dX0_isConflict_37 rfl ?_
    refine X_iload_n (pc := 39) (i := 3) 2 dX0_isConflict_39 rfl rfl ?_
    by_cases c9 : q6 = q2
    · replace hf := (if_pos c9).symm.trans hf
      refine X_icmp_eq_t (pc := 40) 68 dX0_isConflict_40 (by decide) c9 ?_
      refine X_iconst (pc := 68) (0 : Int32) dX0_isConflict_68 (by decide) ?_
      cases hf
      exact X_zreturn (pc := 69) rfl (nar_b (by decide)) dX0_isConflict_69
    · replace hf := (if_neg c9).symm.trans hf
      refine X_icmp_eq_f (pc := 40) 68 dX0_isConflict_40 (by decide) c9 ?_
      refine X_iload (pc := 43) 1 dX0_isConflict_43 rfl ?_
      refine X_iload (pc := 45) 0 dX0_isConflict_45 rfl ?_
      by_cases c10 : q4 = q6
      · replace hf := (if_pos c10).symm.trans hf
        refine X_icmp_eq_t (pc := 47) 68 dX0_isConflict_47 (by decide) c10 ?_
        refine X_iconst (pc := 68) (0 : Int32) dX0_isConflict_68 (by decide) ?_
        cases hf
        exact X_zreturn (pc := 69) rfl (nar_b (by decide)) dX0_isConflict_69
      · replace hf := (if_neg c10).symm.trans hf
        refine X_icmp_eq_f (pc := 47) 68 dX0_isConflict_47 (by decide) c10 ?_
        refine X_aload_n (pc := 50) (i := 0) 3 dX0_isConflict_50 rfl rfl ?_
        refine X_getr (pc := 51) (a := 29) (ci := 0) (j := 4) (c := 33) (sh_29 hT) (by decide) k_333 (rf_29_4 hT) (fun _ h => h) dX0_isConflict_51 ?_
        refine X_iload_n (pc := 54) (i := 1) 4 dX0_isConflict_54 rfl rfl ?_
        refine X_bipush (pc := 55) (32 : Int32) dX0_isConflict_55 (by decide) ?_
        refine X_imul (pc := 57) dX0_isConflict_57 ?_
        refine X_iload_n (pc := 58) (i := 2) 5 dX0_isConflict_58 rfl rfl ?_
        refine X_iadd (pc := 59) dX0_isConflict_59 ?_
        obtain ⟨c11, hf⟩ := gd_some hf
        refine X_zaldj (pc := 60) (j := ((a0 * (32 : Int32)) + a1).toNatClampNeg) (I 33 (((a0 * (32 : Int32)) + a1).toNatClampNeg)) (sh_33 hT) (vp_in_lit (N := 128) c11 (by decide)) rfl rfl dX0_isConflict_60 ?_
        by_cases c12 : (I 33 (((a0 * (32 : Int32)) + a1).toNatClampNeg)) = (0 : Int32)
        · replace hf := (if_pos c12).symm.trans hf
          refine X_if_ne_f (pc := 61) 68 dX0_isConflict_61 (by decide) c12 ?_
          refine X_iconst (pc := 64) (1 : Int32) dX0_isConflict_64 (by decide) ?_
          refine X_goto (pc := 65) 69 dX0_isConflict_65 (by decide) ?_
          cases hf
          exact X_zreturn (pc := 69) rfl (nar_b (by decide)) dX0_isConflict_69
        · replace hf := (if_neg c12).symm.trans hf
          refine X_if_ne_t (pc := 61) 68 dX0_isConflict_61 (by decide) c12 ?_
          refine X_iconst (pc := 68) (0 : Int32) dX0_isConflict_68 (by decide) ?_
          cases hf
          exact X_zreturn (pc := 69) rfl (nar_b (by decide)) dX0_isConflict_69
theorem dX0_countConflicts_0 : decode cX0_countConflicts 0 = .ok (.iconst 0, 1) := by decide +kernel
theorem dX0_countConflicts_1 : decode cX0_countConflicts 1 = .ok (.istore_n 2, 1) := by decide +kernel
theorem dX0_countConflicts_2 : decode cX0_countConflicts 2 = .ok (.iconst 0, 1) := by decide +kernel
theorem dX0_countConflicts_3 : decode cX0_countConflicts 3 = .ok (.istore_n 3, 1) := by decide +kernel
theorem dX0_countConflicts_4 : decode cX0_countConflicts 4 = .ok (.iload_n 3, 1) := by decide +kernel
theorem dX0_countConflicts_5 : decode cX0_countConflicts 5 = .ok (.bipush 32, 2) := by decide +kernel
theorem dX0_countConflicts_7 : decode cX0_countConflicts 7 = .ok (.if_icmp .ge 21, 3) := by decide +kernel
theorem dX0_countConflicts_10 : decode cX0_countConflicts 10 = .ok (.aload_n 0, 1) := by decide +kernel
theorem dX0_countConflicts_11 : decode cX0_countConflicts 11 = .ok (.iload_n 1, 1) := by decide +kernel
theorem dX0_countConflicts_12 : decode cX0_countConflicts 12 = .ok (.iload_n 3, 1) := by decide +kernel
theorem dX0_countConflicts_13 : decode cX0_countConflicts 13 = .ok (.invokevirtual 58, 3) := by decide +kernel
theorem dX0_countConflicts_16 : decode cX0_countConflicts 16 = .ok (.ifCond .eq 6, 3) := by decide +kernel
theorem dX0_countConflicts_19 : decode cX0_countConflicts 19 = .ok (.iinc 2 1, 3) := by decide +kernel
theorem dX0_countConflicts_22 : decode cX0_countConflicts 22 = .ok (.iinc 3 1, 3) := by decide +kernel
theorem dX0_countConflicts_25 : decode cX0_countConflicts 25 = .ok (.goto (-21), 3) := by decide +kernel
theorem dX0_countConflicts_28 : decode cX0_countConflicts 28 = .ok (.iload_n 2, 1) := by decide +kernel
theorem dX0_countConflicts_29 : decode cX0_countConflicts 29 = .ok (.ireturn, 1) := by decide +kernel
def f_Be_countConflicts_L4 : Nat → Int32 → Int32 → Int32 → (Nat → Nat → Int32) → (Nat → Nat → Int64) → Option Int32
  | 0, _, _, _, _, _ => none
  | n + 1, l1, l2, l3, I, L => (if (32 : Int32) ≤ l3 then (some l2) else ((f_Be_isConflict l1 l3 I L).bind fun q2 => (if q2 = (0 : Int32) then (f_Be_countConflicts_L4 n l1 l2 (l3 + (1 : Int32)) I L) else (f_Be_countConflicts_L4 n l1 (l2 + (1 : Int32)) (l3 + (1 : Int32)) I L))))
set_option maxRecDepth 100000 in
set_option maxHeartbeats 4000000 in
theorem x_Be_countConflicts_L4 {G : xG} {S : List xSh} {Rf : Nat → Nat → Option Nat} (hT : xTH S Rf) : ∀ (n : Nat) {l1 : Int32} {l2 : Int32} {l3 : Int32} {I : Nat → Nat → Int32} {L : Nat → Nat → Int64} {q : Int32}, f_Be_countConflicts_L4 n l1 l2 l3 I L = some q → X G 3 m_Be_countConflicts 4 [(0, .ref (xB G + 29)), (1, .int l1), (2, .int l2), (3, .int l3)] [] (S, I, L, Rf) (some (.int q), (S, I, L, Rf)) := by
  intro n
  induction n with
  | zero =>
    intro l1 l2 l3 I L q hf
    exact absurd (show none = some q from hf) (by simp)
  | succ n ih =>
    intro l1 l2 l3 I L q hf
    replace hf := (f_Be_countConflicts_L4.eq_2 _ _ _ _ _ _).symm.trans hf
    refine X_iload_n (pc := 4) (i := 3) 3 dX0_countConflicts_4 rfl rfl ?_
    refine X_bipush (pc := 5) (32 : Int32) dX0_countConflicts_5 (by decide) ?_
    by_cases c1 : (32 : Int32) ≤ l3
    · replace hf := (if_pos c1).symm.trans hf
      refine X_icmp_ge_t (pc := 7) 28 dX0_countConflicts_7 (by decide) c1 ?_
      refine X_iload_n (pc := 28) (i := 2) 2 dX0_countConflicts_28 rfl rfl ?_
      cases hf
      exact X_ireturn (pc := 29) rfl dX0_countConflicts_29
    · replace hf := (if_neg c1).symm.trans hf
      refine X_icmp_ge_f (pc := 7) 28 dX0_countConflicts_7 (by decide) c1 ?_
      refine X_aload_n (pc := 10) (i := 0) 0 dX0_countConflicts_10 rfl rfl ?_
      refine X_iload_n (pc := 11) (i := 1) 1 dX0_countConflicts_11 rfl rfl ?_
      refine X_iload_n (pc := 12) (i := 3) 3 dX0_countConflicts_12 rfl rfl ?_
      obtain ⟨q2, c3, hf⟩ := bd_some hf
      refine X_invV_i (pc := 13) (c_Be_isConflict hT c3) ok_Be_isConflict (ci := 0) (sh_29 hT) k_1117 k_1118 k_1119 nd_25 (by decide) rfl (Nat.le_of_ble_eq_true rfl) dX0_countConflicts_13 ?_
      by_cases c4 : q2 = (0 : Int32)
      · replace hf := (if_pos c4).symm.trans hf
        refine X_if_eq_t (pc := 16) 22 dX0_countConflicts_16 (by decide) c4 ?_
        refine X_iinc (pc := 22) (i := 3) (q := 3) (v := (l3 + (1 : Int32))) [(3, .int (l3 + (1 : Int32))), (0, .ref (xB G + 29)), (1, .int l1), (2, .int l2)] dX0_countConflicts_22 rfl rfl (by decide) rfl ?_
        refine X_goto (pc := 25) 4 dX0_countConflicts_25 (by decide) ?_
        exact X_lvs [1, 2, 3, 0] rfl (ih hf)
      · replace hf := (if_neg c4).symm.trans hf
        refine X_if_eq_f (pc := 16) 22 dX0_countConflicts_16 (by decide) c4 ?_
        refine X_iinc (pc := 19) (i := 2) (q := 2) (v := (l2 + (1 : Int32))) [(2, .int (l2 + (1 : Int32))), (0, .ref (xB G + 29)), (1, .int l1), (3, .int l3)] dX0_countConflicts_19 rfl rfl (by decide) rfl ?_
        refine X_iinc (pc := 22) (i := 3) (q := 3) (v := (l3 + (1 : Int32))) [(3, .int (l3 + (1 : Int32))), (2, .int (l2 + (1 : Int32))), (0, .ref (xB G + 29)), (1, .int l1)] dX0_countConflicts_22 rfl rfl (by decide) rfl ?_
        refine X_goto (pc := 25) 4 dX0_countConflicts_25 (by decide) ?_
        exact X_lvs [2, 3, 1, 0] rfl (ih hf)
def f_Be_countConflicts (a0 : Int32) (I : Nat → Nat → Int32) (L : Nat → Nat → Int64) : Option Int32 := (f_Be_countConflicts_L4 xF a0 (0 : Int32) (0 : Int32) I L)
set_option maxRecDepth 100000 in
set_option maxHeartbeats 4000000 in
theorem c_Be_countConflicts {G : xG} {S : List xSh} {Rf : Nat → Nat → Option Nat} (hT : xTH S Rf) {a0 : Int32} {I : Nat → Nat → Int32} {L : Nat → Nat → Int64} {q : Int32} (hf : f_Be_countConflicts a0 I L = some q) : CT G 3 m_Be_countConflicts [.ref (xB G + 29), .int a0] (S, I, L, Rf) (some (.int q), (S, I, L, Rf)) := by
  refine CT.of (by decide +kernel) (Nat.le_of_ble_eq_true rfl) ?_
  show X G 3 m_Be_countConflicts 0 [(0, .ref (xB G + 29)), (1, .int a0)] [] (S, I, L, Rf) (some (.int q), (S, I, L, Rf))
  replace hf := (f_Be_countConflicts.eq_1 _ _ _).symm.trans hf
  refine X_iconst (pc := 0) (0 : Int32) dX0_countConflicts_0 (by decide) ?_
  refine X_istore_n (pc := 1) (i := 2) [(2, .int (0 : Int32)), (0, .ref (xB G + 29)), (1, .int a0)] dX0_countConflicts_1 rfl (by decide) rfl ?_
  refine X_iconst (pc := 2) (0 : Int32) dX0_countConflicts_2 (by decide) ?_
  refine X_istore_n (pc := 3) (i := 3) [(3, .int (0 : Int32)), (2, .int (0 : Int32)), (0, .ref (xB G + 29)), (1, .int a0)] dX0_countConflicts_3 rfl (by decide) rfl ?_
  exact X_lvs [2, 3, 1, 0] rfl (x_Be_countConflicts_L4 hT xF hf)
theorem dX0_keepsOwn_0 : decode cX0_keepsOwn 0 = .ok (.iconst 0, 1) := by decide +kernel
theorem dX0_keepsOwn_1 : decode cX0_keepsOwn 1 = .ok (.istore_n 2, 1) := by decide +kernel
theorem dX0_keepsOwn_2 : decode cX0_keepsOwn 2 = .ok (.iload_n 2, 1) := by decide +kernel
theorem dX0_keepsOwn_3 : decode cX0_keepsOwn 3 = .ok (.bipush 32, 2) := by decide +kernel
theorem dX0_keepsOwn_5 : decode cX0_keepsOwn 5 = .ok (.if_icmp .ge 46, 3) := by decide +kernel
theorem dX0_keepsOwn_8 : decode cX0_keepsOwn 8 = .ok (.aload_n 0, 1) := by decide +kernel
theorem dX0_keepsOwn_9 : decode cX0_keepsOwn 9 = .ok (.iload_n 1, 1) := by decide +kernel
theorem dX0_keepsOwn_10 : decode cX0_keepsOwn 10 = .ok (.iload_n 2, 1) := by decide +kernel
theorem dX0_keepsOwn_11 : decode cX0_keepsOwn 11 = .ok (.invokevirtual 33, 3) := by decide +kernel
theorem dX0_keepsOwn_14 : decode cX0_keepsOwn 14 = .ok (.istore_n 3, 1) := by decide +kernel
theorem dX0_keepsOwn_15 : decode cX0_keepsOwn 15 = .ok (.iload_n 3, 1) := by decide +kernel
theorem dX0_keepsOwn_16 : decode cX0_keepsOwn 16 = .ok (.aload_n 0, 1) := by decide +kernel
theorem dX0_keepsOwn_17 : decode cX0_keepsOwn 17 = .ok (.aload_n 0, 1) := by decide +kernel
theorem dX0_keepsOwn_18 : decode cX0_keepsOwn 18 = .ok (.getfield 11, 3) := by decide +kernel
theorem dX0_keepsOwn_21 : decode cX0_keepsOwn 21 = .ok (.iload_n 1, 1) := by decide +kernel
theorem dX0_keepsOwn_22 : decode cX0_keepsOwn 22 = .ok (.iaload, 1) := by decide +kernel
theorem dX0_keepsOwn_23 : decode cX0_keepsOwn 23 = .ok (.iload_n 2, 1) := by decide +kernel
theorem dX0_keepsOwn_24 : decode cX0_keepsOwn 24 = .ok (.invokevirtual 29, 3) := by decide +kernel
theorem dX0_keepsOwn_27 : decode cX0_keepsOwn 27 = .ok (.if_icmp .eq 18, 3) := by decide +kernel
theorem dX0_keepsOwn_30 : decode cX0_keepsOwn 30 = .ok (.iload_n 3, 1) := by decide +kernel
theorem dX0_keepsOwn_31 : decode cX0_keepsOwn 31 = .ok (.aload_n 0, 1) := by decide +kernel
theorem dX0_keepsOwn_32 : decode cX0_keepsOwn 32 = .ok (.aload_n 0, 1) := by decide +kernel
theorem dX0_keepsOwn_33 : decode cX0_keepsOwn 33 = .ok (.getfield 36, 3) := by decide +kernel
theorem dX0_keepsOwn_36 : decode cX0_keepsOwn 36 = .ok (.iload_n 2, 1) := by decide +kernel
theorem dX0_keepsOwn_37 : decode cX0_keepsOwn 37 = .ok (.invokevirtual 29, 3) := by decide +kernel
theorem dX0_keepsOwn_40 : decode cX0_keepsOwn 40 = .ok (.if_icmp .eq 5, 3) := by decide +kernel
theorem dX0_keepsOwn_43 : decode cX0_keepsOwn 43 = .ok (.iconst 1, 1) := by decide +kernel
theorem dX0_keepsOwn_44 : decode cX0_keepsOwn 44 = .ok (.ireturn, 1) := by decide +kernel
theorem dX0_keepsOwn_45 : decode cX0_keepsOwn 45 = .ok (.iinc 2 1, 3) := by decide +kernel
theorem dX0_keepsOwn_48 : decode cX0_keepsOwn 48 = .ok (.goto (-46), 3) := by decide +kernel
theorem dX0_keepsOwn_51 : decode cX0_keepsOwn 51 = .ok (.iconst 0, 1) := by decide +kernel
theorem dX0_keepsOwn_52 : decode cX0_keepsOwn 52 = .ok (.ireturn, 1) := by decide +kernel
def f_Be_keepsOwn_L2 : Nat → Int32 → Int32 → (Nat → Nat → Int32) → (Nat → Nat → Int64) → Option Int32
  | 0, _, _, _, _ => none
  | n + 1, l1, l2, I, L => (if (32 : Int32) ≤ l2 then (some (0 : Int32)) else ((f_Be_ofCopy l1 l2 I L).bind fun q2 => (if (0 ≤ l1 ∧ l1 < (4 : Int32)) then ((f_Be_ofVersion (I 30 (l1.toNatClampNeg)) l2 I L).bind fun q5 => (if q2 = q5 then (f_Be_keepsOwn_L2 n l1 (l2 + (1 : Int32)) I L) else ((f_Be_ofVersion (I 29 0) l2 I L).bind fun q8 => (if q2 = q8 then (f_Be_keepsOwn_L2 n l1 (l2 + (1 : Int32)) I L) else (some (1 : Int32)))))) else none)))
set_option maxRecDepth 100000 in
set_option maxHeartbeats 4000000 in
theorem x_Be_keepsOwn_L2 {G : xG} {S : List xSh} {Rf : Nat → Nat → Option Nat} (hT : xTH S Rf) : ∀ (n : Nat) {l1 : Int32} {l2 : Int32} {I : Nat → Nat → Int32} {L : Nat → Nat → Int64} {q : Int32}, f_Be_keepsOwn_L2 n l1 l2 I L = some q → X G 2 m_Be_keepsOwn 2 [(0, .ref (xB G + 29)), (1, .int l1), (2, .int l2)] [] (S, I, L, Rf) (some (.int q), (S, I, L, Rf)) := by
  intro n
  induction n with
  | zero =>
    intro l1 l2 I L q hf
    exact absurd (show none = some q from hf) (by simp)
  | succ n ih =>
    intro l1 l2 I L q hf
    replace hf := (f_Be_keepsOwn_L2.eq_2 _ _ _ _ _).symm.trans hf
    refine X_iload_n (pc := 2) (i := 2) 2 dX0_keepsOwn_2 rfl rfl ?_
    refine X_bipush (pc := 3) (32 : Int32) dX0_keepsOwn_3 (by decide) ?_
    by_cases c1 : (32 : Int32) ≤ l2
    · replace hf := (if_pos c1).symm.trans hf
      refine X_icmp_ge_t (pc := 5) 51 dX0_keepsOwn_5 (by decide) c1 ?_
      refine X_iconst (pc := 51) (0 : Int32) dX0_keepsOwn_51 (by decide) ?_
      cases hf
      exact X_zreturn (pc := 52) rfl (nar_b (by decide)) dX0_keepsOwn_52
    · replace hf := (if_neg c1).symm.trans hf
      refine X_icmp_ge_f (pc := 5) 51 dX0_keepsOwn_5 (by decide) c1 ?_
      refine X_aload_n (pc := 8) (i := 0) 0 dX0_keepsOwn_8 rfl rfl ?_
      refine X_iload_n (pc := 9) (i := 1) 1 dX0_keepsOwn_9 rfl rfl ?_
      refine X_iload_n (pc := 10) (i := 2) 2 dX0_keepsOwn_10 rfl rfl ?_
      obtain ⟨q2, c3, hf⟩ := bd_some hf
      refine X_invV_i (pc := 11) (c_Be_ofCopy hT c3) ok_Be_ofCopy (ci := 0) (sh_29 hT) k_1125 k_1126 k_1127 nd_22 (by decide) rfl (Nat.le_of_ble_eq_true rfl) dX0_keepsOwn_11 ?_
      refine X_istore_n (pc := 14) (i := 3) [(3, .int q2), (0, .ref (xB G + 29)), (1, .int l1), (2, .int l2)] dX0_keepsOwn_14 rfl (by decide) rfl ?_
      refine X_iload_n (pc := 15) (i := 3) 0 dX0_keepsOwn_15 rfl rfl ?_
      refine X_aload_n (pc := 16) (i := 0) 1 dX0_keepsOwn_16 rfl rfl ?_
      refine X_aload_n (pc := 17) (i := 0) 1 dX0_keepsOwn_17 rfl rfl ?_
      refine X_getr (pc := 18) (a := 29) (ci := 0) (j := 1) (c := 30) (sh_29 hT) (by decide) k_329 (rf_29_1 hT) (fun _ h => h) dX0_keepsOwn_18 ?_
      refine X_iload_n (pc := 21) (i := 1) 2 dX0_keepsOwn_21 rfl rfl ?_
      obtain ⟨c4, hf⟩ := gd_some hf
      refine X_ialdj (pc := 22) (j := l1.toNatClampNeg) (I 30 (l1.toNatClampNeg)) (sh_30 hT) (vp_in_lit (N := 4) c4 (by decide)) rfl rfl dX0_keepsOwn_22 ?_
      refine X_iload_n (pc := 23) (i := 2) 3 dX0_keepsOwn_23 rfl rfl ?_
      obtain ⟨q5, c6, hf⟩ := bd_some hf
      refine X_invV_i (pc := 24) (c_Be_ofVersion hT c6) ok_Be_ofVersion (ci := 0) (sh_29 hT) k_1121 k_1122 k_1123 nd_22 (by decide) rfl (Nat.le_of_ble_eq_true rfl) dX0_keepsOwn_24 ?_
      by_cases c7 : q2 = q5
      · replace hf := (if_pos c7).symm.trans hf
        refine X_icmp_eq_t (pc := 27) 45 dX0_keepsOwn_27 (by decide) c7 ?_
        refine X_iinc (pc := 45) (i := 2) (q := 3) (v := (l2 + (1 : Int32))) [(2, .int (l2 + (1 : Int32))), (3, .int q2), (0, .ref (xB G + 29)), (1, .int l1)] dX0_keepsOwn_45 rfl rfl (by decide) rfl ?_
        refine X_goto (pc := 48) 2 dX0_keepsOwn_48 (by decide) ?_
        exact X_lvs [2, 3, 0] rfl (ih hf)
      · replace hf := (if_neg c7).symm.trans hf
        refine X_icmp_eq_f (pc := 27) 45 dX0_keepsOwn_27 (by decide) c7 ?_
        refine X_iload_n (pc := 30) (i := 3) 0 dX0_keepsOwn_30 rfl rfl ?_
        refine X_aload_n (pc := 31) (i := 0) 1 dX0_keepsOwn_31 rfl rfl ?_
        refine X_aload_n (pc := 32) (i := 0) 1 dX0_keepsOwn_32 rfl rfl ?_
        refine X_get (pc := 33) (a := 29) (ci := 0) (j := 0) (.int (I 29 0)) (sh_29 hT) (by decide) k_327 rfl dX0_keepsOwn_33 ?_
        refine X_iload_n (pc := 36) (i := 2) 3 dX0_keepsOwn_36 rfl rfl ?_
        obtain ⟨q8, c9, hf⟩ := bd_some hf
        refine X_invV_i (pc := 37) (c_Be_ofVersion hT c9) ok_Be_ofVersion (ci := 0) (sh_29 hT) k_1121 k_1122 k_1123 nd_22 (by decide) rfl (Nat.le_of_ble_eq_true rfl) dX0_keepsOwn_37 ?_
        by_cases c10 : q2 = q8
        · replace hf := (if_pos c10).symm.trans hf
          refine X_icmp_eq_t (pc := 40) 45 dX0_keepsOwn_40 (by decide) c10 ?_
          refine X_iinc (pc := 45) (i := 2) (q := 3) (v := (l2 + (1 : Int32))) [(2, .int (l2 + (1 : Int32))), (3, .int q2), (0, .ref (xB G + 29)), (1, .int l1)] dX0_keepsOwn_45 rfl rfl (by decide) rfl ?_
          refine X_goto (pc := 48) 2 dX0_keepsOwn_48 (by decide) ?_
          exact X_lvs [2, 3, 0] rfl (ih hf)
        · replace hf := (if_neg c10).symm.trans hf
          refine X_icmp_eq_f (pc := 40) 45 dX0_keepsOwn_40 (by decide) c10 ?_
          refine X_iconst (pc := 43) (1 : Int32) dX0_keepsOwn_43 (by decide) ?_
          cases hf
          exact X_zreturn (pc := 44) rfl (nar_b (by decide)) dX0_keepsOwn_44
def f_Be_keepsOwn (a0 : Int32) (I : Nat → Nat → Int32) (L : Nat → Nat → Int64) : Option Int32 := (f_Be_keepsOwn_L2 xF a0 (0 : Int32) I L)
set_option maxRecDepth 100000 in
set_option maxHeartbeats 4000000 in
theorem c_Be_keepsOwn {G : xG} {S : List xSh} {Rf : Nat → Nat → Option Nat} (hT : xTH S Rf) {a0 : Int32} {I : Nat → Nat → Int32} {L : Nat → Nat → Int64} {q : Int32} (hf : f_Be_keepsOwn a0 I L = some q) : CT G 2 m_Be_keepsOwn [.ref (xB G + 29), .int a0] (S, I, L, Rf) (some (.int q), (S, I, L, Rf)) := by
  refine CT.of (by decide +kernel) (Nat.le_of_ble_eq_true rfl) ?_
  show X G 2 m_Be_keepsOwn 0 [(0, .ref (xB G + 29)), (1, .int a0)] [] (S, I, L, Rf) (some (.int q), (S, I, L, Rf))
  replace hf := (f_Be_keepsOwn.eq_1 _ _ _).symm.trans hf
  refine X_iconst (pc := 0) (0 : Int32) dX0_keepsOwn_0 (by decide) ?_
  refine X_istore_n (pc := 1) (i := 2) [(2, .int (0 : Int32)), (0, .ref (xB G + 29)), (1, .int a0)] dX0_keepsOwn_1 rfl (by decide) rfl ?_
  exact X_lvs [1, 2, 0] rfl (x_Be_keepsOwn_L2 hT xF hf)
theorem dX0_takeOthers_0 : decode cX0_takeOthers 0 = .ok (.iconst 0, 1) := by decide +kernel
theorem dX0_takeOthers_1 : decode cX0_takeOthers 1 = .ok (.istore_n 2, 1) := by decide +kernel
theorem dX0_takeOthers_2 : decode cX0_takeOthers 2 = .ok (.iload_n 2, 1) := by decide +kernel
theorem dX0_takeOthers_3 : decode cX0_takeOthers 3 = .ok (.bipush 32, 2) := by decide +kernel
theorem dX0_takeOthers_5 : decode cX0_takeOthers 5 = .ok (.if_icmp .ge 61, 3) := by decide +kernel
theorem dX0_takeOthers_8 : decode cX0_takeOthers 8 = .ok (.aload_n 0, 1) := by decide +kernel
theorem dX0_takeOthers_9 : decode cX0_takeOthers 9 = .ok (.iload_n 1, 1) := by decide +kernel
theorem dX0_takeOthers_10 : decode cX0_takeOthers 10 = .ok (.iload_n 2, 1) := by decide +kernel
theorem dX0_takeOthers_11 : decode cX0_takeOthers 11 = .ok (.invokevirtual 33, 3) := by decide +kernel
theorem dX0_takeOthers_14 : decode cX0_takeOthers 14 = .ok (.aload_n 0, 1) := by decide +kernel
theorem dX0_takeOthers_15 : decode cX0_takeOthers 15 = .ok (.aload_n 0, 1) := by decide +kernel
theorem dX0_takeOthers_16 : decode cX0_takeOthers 16 = .ok (.getfield 11, 3) := by decide +kernel
theorem dX0_takeOthers_19 : decode cX0_takeOthers 19 = .ok (.iload_n 1, 1) := by decide +kernel
theorem dX0_takeOthers_20 : decode cX0_takeOthers 20 = .ok (.iaload, 1) := by decide +kernel
theorem dX0_takeOthers_21 : decode cX0_takeOthers 21 = .ok (.iload_n 2, 1) := by decide +kernel
theorem dX0_takeOthers_22 : decode cX0_takeOthers 22 = .ok (.invokevirtual 29, 3) := by decide +kernel
theorem dX0_takeOthers_25 : decode cX0_takeOthers 25 = .ok (.if_icmp .ne 23, 3) := by decide +kernel
theorem dX0_takeOthers_28 : decode cX0_takeOthers 28 = .ok (.aload_n 0, 1) := by decide +kernel
theorem dX0_takeOthers_29 : decode cX0_takeOthers 29 = .ok (.getfield 18, 3) := by decide +kernel
theorem dX0_takeOthers_32 : decode cX0_takeOthers 32 = .ok (.iload_n 1, 1) := by decide +kernel
theorem dX0_takeOthers_33 : decode cX0_takeOthers 33 = .ok (.bipush 32, 2) := by decide +kernel
theorem dX0_takeOthers_35 : decode cX0_takeOthers 35 = .ok (.imul, 1) := by decide +kernel
theorem dX0_takeOthers_36 : decode cX0_takeOthers 36 = .ok (.iload_n 2, 1) := by decide +kernel
theorem dX0_takeOthers_37 : decode cX0_takeOthers 37 = .ok (.iadd, 1) := by decide +kernel
theorem dX0_takeOthers_38 : decode cX0_takeOthers 38 = .ok (.aload_n 0, 1) := by decide +kernel
theorem dX0_takeOthers_39 : decode cX0_takeOthers 39 = .ok (.aload_n 0, 1) := by decide +kernel
theorem dX0_takeOthers_40 : decode cX0_takeOthers 40 = .ok (.getfield 36, 3) := by decide +kernel
theorem dX0_takeOthers_43 : decode cX0_takeOthers 43 = .ok (.iload_n 2, 1) := by decide +kernel
theorem dX0_takeOthers_44 : decode cX0_takeOthers 44 = .ok (.invokevirtual 29, 3) := by decide +kernel
theorem dX0_takeOthers_47 : decode cX0_takeOthers 47 = .ok (.iastore, 1) := by decide +kernel
theorem dX0_takeOthers_48 : decode cX0_takeOthers 48 = .ok (.aload_n 0, 1) := by decide +kernel
theorem dX0_takeOthers_49 : decode cX0_takeOthers 49 = .ok (.getfield 21, 3) := by decide +kernel
theorem dX0_takeOthers_52 : decode cX0_takeOthers 52 = .ok (.iload_n 1, 1) := by decide +kernel
theorem dX0_takeOthers_53 : decode cX0_takeOthers 53 = .ok (.bipush 32, 2) := by decide +kernel
theorem dX0_takeOthers_55 : decode cX0_takeOthers 55 = .ok (.imul, 1) := by decide +kernel
theorem dX0_takeOthers_56 : decode cX0_takeOthers 56 = .ok (.iload_n 2, 1) := by decide +kernel
theorem dX0_takeOthers_57 : decode cX0_takeOthers 57 = .ok (.iadd, 1) := by decide +kernel
theorem dX0_takeOthers_58 : decode cX0_takeOthers 58 = .ok (.iconst 0, 1) := by decide +kernel
theorem dX0_takeOthers_59 : decode cX0_takeOthers 59 = .ok (.bastore, 1) := by decide +kernel
theorem dX0_takeOthers_60 : decode cX0_takeOthers 60 = .ok (.iinc 2 1, 3) := by decide +kernel
theorem dX0_takeOthers_63 : decode cX0_takeOthers 63 = .ok (.goto (-61), 3) := by decide +kernel
theorem dX0_takeOthers_66 : decode cX0_takeOthers 66 = .ok (.return_, 1) := by decide +kernel
def f_Be_takeOthers_L2 : Nat → Int32 → Int32 → (Nat → Nat → Int32) → (Nat → Nat → Int64) → Option ((Nat → Nat → Int32) × (Nat → Nat → Int64))
  | 0, _, _, _, _ => none
  | n + 1, l1, l2, I, L => (if (32 : Int32) ≤ l2 then (some (I, L)) else ((f_Be_ofCopy l1 l2 I L).bind fun q2 => (if (0 ≤ l1 ∧ l1 < (4 : Int32)) then ((f_Be_ofVersion (I 30 (l1.toNatClampNeg)) l2 I L).bind fun q5 => (if q2 = q5 then ((f_Be_ofVersion (I 29 0) l2 I L).bind fun q8 => (if (0 ≤ ((l1 * (32 : Int32)) + l2) ∧ ((l1 * (32 : Int32)) + l2) < (128 : Int32)) then (if (0 ≤ ((l1 * (32 : Int32)) + l2) ∧ ((l1 * (32 : Int32)) + l2) < (128 : Int32)) then (f_Be_takeOthers_L2 n l1 (l2 + (1 : Int32)) (uI (uI I 32 (((l1 * (32 : Int32)) + l2).toNatClampNeg) q8) 33 (((l1 * (32 : Int32)) + l2).toNatClampNeg) (0 : Int32)) L) else none) else none)) else (if (0 ≤ ((l1 * (32 : Int32)) + l2) ∧ ((l1 * (32 : Int32)) + l2) < (128 : Int32)) then (f_Be_takeOthers_L2 n l1 (l2 + (1 : Int32)) (uI I 33 (((l1 * (32 : Int32)) + l2).toNatClampNeg) (0 : Int32)) L) else none))) else none)))
set_option maxRecDepth 100000 in
set_option maxHeartbeats 4000000 in
theorem x_Be_takeOthers_L2 {G : xG} {S : List xSh} {Rf : Nat → Nat → Option Nat} (hT : xTH S Rf) : ∀ (n : Nat) {l1 : Int32} {l2 : Int32} {I : Nat → Nat → Int32} {L : Nat → Nat → Int64} {q : ((Nat → Nat → Int32) × (Nat → Nat → Int64))}, f_Be_takeOthers_L2 n l1 l2 I L = some q → X G 2 m_Be_takeOthers 2 [(0, .ref (xB G + 29)), (1, .int l1), (2, .int l2)] [] (S, I, L, Rf) (none, (S, q.1, q.2, Rf)) := by
  intro n
  induction n with
  | zero =>
    intro l1 l2 I L q hf
    exact absurd (show none = some q from hf) (by simp)
  | succ n ih =>
    intro l1 l2 I L q hf
    replace hf := (f_Be_takeOthers_L2.eq_2 _ _ _ _ _).symm.trans hf
    refine X_iload_n (pc := 2) (i := 2) 2 dX0_takeOthers_2 rfl rfl ?_
    refine X_bipush (pc := 3) (32 : Int32) dX0_takeOthers_3 (by decide) ?_
    by_cases c1 : (32 : Int32) ≤ l2
    · replace hf := (if_pos c1).symm.trans hf
      refine X_icmp_ge_t (pc := 5) 66 dX0_takeOthers_5 (by decide) c1 ?_
      cases hf
      exact X_return (pc := 66) rfl dX0_takeOthers_66
    · replace hf := (if_neg c1).symm.trans hf
      refine X_icmp_ge_f (pc := 5) 66 dX0_takeOthers_5 (by decide) c1 ?_
      refine X_aload_n (pc := 8) (i := 0) 0 dX0_takeOthers_8 rfl rfl ?_
      refine X_iload_n (pc := 9) (i := 1) 1 dX0_takeOthers_9 rfl rfl ?_
      refine X_iload_n (pc := 10) (i := 2) 2 dX0_takeOthers_10 rfl rfl ?_
      obtain ⟨q2, c3, hf⟩ := bd_some hf
      refine X_invV_i (pc := 11) (c_Be_ofCopy hT c3) ok_Be_ofCopy (ci := 0) (sh_29 hT) k_1125 k_1126 k_1127 nd_22 (by decide) rfl (Nat.le_of_ble_eq_true rfl) dX0_takeOthers_11 ?_
      refine X_aload_n (pc := 14) (i := 0) 0 dX0_takeOthers_14 rfl rfl ?_
      refine X_aload_n (pc := 15) (i := 0) 0 dX0_takeOthers_15 rfl rfl ?_
      refine X_getr (pc := 16) (a := 29) (ci := 0) (j := 1) (c := 30) (sh_29 hT) (by decide) k_329 (rf_29_1 hT) (fun _ h => h) dX0_takeOthers_16 ?_
      refine X_iload_n (pc := 19) (i := 1) 1 dX0_takeOthers_19 rfl rfl ?_
      obtain ⟨c4, hf⟩ := gd_some hf
      refine X_ialdj (pc := 20) (j := l1.toNatClampNeg) (I 30 (l1.toNatClampNeg)) (sh_30 hT) (vp_in_lit (N := 4) c4 (by decide)) rfl rfl dX0_takeOthers_20 ?_
      refine X_iload_n (pc := 21) (i := 2) 2 dX0_takeOthers_21 rfl rfl ?_
      obtain ⟨q5, c6, hf⟩ := bd_some hf
      refine X_invV_i (pc := 22) (c_Be_ofVersion hT c6) ok_Be_ofVersion (ci := 0) (sh_29 hT) k_1121 k_1122 k_1123 nd_22 (by decide) rfl (Nat.le_of_ble_eq_true rfl) dX0_takeOthers_22 ?_
      by_cases c7 : q2 = q5
      · replace hf := (if_pos c7).symm.trans hf
        refine X_icmp_ne_f (pc := 25) 48 dX0_takeOthers_25 (by decide) c7 ?_
        refine X_aload_n (pc := 28) (i := 0) 0 dX0_takeOthers_28 rfl rfl ?_
        refine X_getr (pc := 29) (a := 29) (ci := 0) (j := 3) (c := 32) (sh_29 hT) (by decide) k_332 (rf_29_3 hT) (fun _ h => h) dX0_takeOthers_29 ?_
        refine X_iload_n (pc := 32) (i := 1) 1 dX0_takeOthers_32 rfl rfl ?_
        refine X_bipush (pc := 33) (32 : Int32) dX0_takeOthers_33 (by decide) ?_
        refine X_imul (pc := 35) dX0_takeOthers_35 ?_
        refine X_iload_n (pc := 36) (i := 2) 2 dX0_takeOthers_36 rfl rfl ?_
        refine X_iadd (pc := 37) dX0_takeOthers_37 ?_
        refine X_aload_n (pc := 38) (i := 0) 0 dX0_takeOthers_38 rfl rfl ?_
        refine X_aload_n (pc := 39) (i := 0) 0 dX0_takeOthers_39 rfl rfl ?_
        refine X_get (pc := 40) (a := 29) (ci := 0) (j := 0) (.int (I 29 0)) (sh_29 hT) (by decide) k_327 rfl dX0_takeOthers_40 ?_
        refine X_iload_n (pc := 43) (i := 2) 2 dX0_takeOthers_43 rfl rfl ?_
        obtain ⟨q8, c9, hf⟩ := bd_some hf
        refine X_invV_i (pc := 44) (c_Be_ofVersion hT c9) ok_Be_ofVersion (ci := 0) (sh_29 hT) k_1121 k_1122 k_1123 nd_22 (by decide) rfl (Nat.le_of_ble_eq_true rfl) dX0_takeOthers_44 ?_
        obtain ⟨c10, hf⟩ := gd_some hf
        refine X_iastj (pc := 47) (j := (((l1 * (32 : Int32)) + l2).toNatClampNeg)) (sh_32 hT) (vp_in_lit (N := 128) c10 (by decide)) rfl dX0_takeOthers_47 ?_
        refine X_aload_n (pc := 48) (i := 0) 0 dX0_takeOthers_48 rfl rfl ?_
        refine X_getr (pc := 49) (a := 29) (ci := 0) (j := 4) (c := 33) (sh_29 hT) (by decide) k_333 (rf_29_4 hT) (fun _ h => h) dX0_takeOthers_49 ?_
        refine X_iload_n (pc := 52) (i := 1) 1 dX0_takeOthers_52 rfl rfl ?_
        refine X_bipush (pc := 53) (32 : Int32) dX0_takeOthers_53 (by decide) ?_
        refine X_imul (pc := 55) dX0_takeOthers_55 ?_
        refine X_iload_n (pc := 56) (i := 2) 2 dX0_takeOthers_56 rfl rfl ?_
        refine X_iadd (pc := 57) dX0_takeOthers_57 ?_
        refine X_iconst (pc := 58) (0 : Int32) dX0_takeOthers_58 (by decide) ?_
        obtain ⟨c11, hf⟩ := gd_some hf
        refine X_zastj (pc := 59) (j := (((l1 * (32 : Int32)) + l2).toNatClampNeg)) (by decide) (sh_33 hT) (vp_in_lit (N := 128) c11 (by decide)) rfl dX0_takeOthers_59 ?_
        refine X_iinc (pc := 60) (i := 2) (q := 2) (v := (l2 + (1 : Int32))) [(2, .int (l2 + (1 : Int32))), (0, .ref (xB G + 29)), (1, .int l1)] dX0_takeOthers_60 rfl rfl (by decide) rfl ?_
        refine X_goto (pc := 63) 2 dX0_takeOthers_63 (by decide) ?_
        exact X_lvs [1, 2, 0] rfl (ih hf)
      · replace hf := (if_neg c7).symm.trans hf
        refine X_icmp_ne_t (pc := 25) 48 dX0_takeOthers_25 (by decide) c7 ?_
        refine X_aload_n (pc := 48) (i := 0) 0 dX0_takeOthers_48 rfl rfl ?_
        refine X_getr (pc := 49) (a := 29) (ci := 0) (j := 4) (c := 33) (sh_29 hT) (by decide) k_333 (rf_29_4 hT) (fun _ h => h) dX0_takeOthers_49 ?_
        refine X_iload_n (pc := 52) (i := 1) 1 dX0_takeOthers_52 rfl rfl ?_
        refine X_bipush (pc := 53) (32 : Int32) dX0_takeOthers_53 (by decide) ?_
        refine X_imul (pc := 55) dX0_takeOthers_55 ?_
        refine X_iload_n (pc := 56) (i := 2) 2 dX0_takeOthers_56 rfl rfl ?_
        refine X_iadd (pc := 57) dX0_takeOthers_57 ?_
        refine X_iconst (pc := 58) (0 : Int32) dX0_takeOthers_58 (by decide) ?_
        obtain ⟨c12, hf⟩ := gd_some hf
        refine X_zastj (pc := 59) (j := (((l1 * (32 : Int32)) + l2).toNatClampNeg)) (by decide) (sh_33 hT) (vp_in_lit (N := 128) c12 (by decide)) rfl dX0_takeOthers_59 ?_
        refine X_iinc (pc := 60) (i := 2) (q := 2) (v := (l2 + (1 : Int32))) [(2, .int (l2 + (1 : Int32))), (0, .ref (xB G + 29)), (1, .int l1)] dX0_takeOthers_60 rfl rfl (by decide) rfl ?_
        refine X_goto (pc := 63) 2 dX0_takeOthers_63 (by decide) ?_
        exact X_lvs [1, 2, 0] rfl (ih hf)
def f_Be_takeOthers (a0 : Int32) (I : Nat → Nat → Int32) (L : Nat → Nat → Int64) : Option ((Nat → Nat → Int32) × (Nat → Nat → Int64)) := (f_Be_takeOthers_L2 xF a0 (0 : Int32) I L)
set_option maxRecDepth 100000 in
set_option maxHeartbeats 4000000 in
theorem c_Be_takeOthers {G : xG} {S : List xSh} {Rf : Nat → Nat → Option Nat} (hT : xTH S Rf) {a0 : Int32} {I : Nat → Nat → Int32} {L : Nat → Nat → Int64} {q : ((Nat → Nat → Int32) × (Nat → Nat → Int64))} (hf : f_Be_takeOthers a0 I L = some q) : CT G 2 m_Be_takeOthers [.ref (xB G + 29), .int a0] (S, I, L, Rf) (none, (S, q.1, q.2, Rf)) := by
  refine CT.of (by decide +kernel) (Nat.le_of_ble_eq_true rfl) ?_
  show X G 2 m_Be_takeOthers 0 [(0, .ref (xB G + 29)), (1, .int a0)] [] (S, I, L, Rf) (none, (S, q.1, q.2, Rf))
  replace hf := (f_Be_takeOthers.eq_1 _ _ _).symm.trans hf
  refine X_iconst (pc := 0) (0 : Int32) dX0_takeOthers_0 (by decide) ?_
  refine X_istore_n (pc := 1) (i := 2) [(2, .int (0 : Int32)), (0, .ref (xB G + 29)), (1, .int a0)] dX0_takeOthers_1 rfl (by decide) rfl ?_
  exact X_lvs [1, 2, 0] rfl (x_Be_takeOthers_L2 hT xF hf)
theorem dX0_mergeCopy_0 : decode cX0_mergeCopy 0 = .ok (.aload_n 0, 1) := by decide +kernel
theorem dX0_mergeCopy_1 : decode cX0_mergeCopy 1 = .ok (.iload_n 1, 1) := by decide +kernel
theorem dX0_mergeCopy_2 : decode cX0_mergeCopy 2 = .ok (.invokevirtual 40, 3) := by decide +kernel
theorem dX0_mergeCopy_5 : decode cX0_mergeCopy 5 = .ok (.istore_n 2, 1) := by decide +kernel
theorem dX0_mergeCopy_6 : decode cX0_mergeCopy 6 = .ok (.iload_n 2, 1) := by decide +kernel
theorem dX0_mergeCopy_7 : decode cX0_mergeCopy 7 = .ok (.ifCond .le 5, 3) := by decide +kernel
theorem dX0_mergeCopy_10 : decode cX0_mergeCopy 10 = .ok (.iload_n 2, 1) := by decide +kernel
theorem dX0_mergeCopy_11 : decode cX0_mergeCopy 11 = .ok (.ireturn, 1) := by decide +kernel
theorem dX0_mergeCopy_12 : decode cX0_mergeCopy 12 = .ok (.aload_n 0, 1) := by decide +kernel
theorem dX0_mergeCopy_13 : decode cX0_mergeCopy 13 = .ok (.iload_n 1, 1) := by decide +kernel
theorem dX0_mergeCopy_14 : decode cX0_mergeCopy 14 = .ok (.invokevirtual 44, 3) := by decide +kernel
theorem dX0_mergeCopy_17 : decode cX0_mergeCopy 17 = .ok (.istore_n 3, 1) := by decide +kernel
theorem dX0_mergeCopy_18 : decode cX0_mergeCopy 18 = .ok (.iload_n 3, 1) := by decide +kernel
theorem dX0_mergeCopy_19 : decode cX0_mergeCopy 19 = .ok (.ifCond .eq 16, 3) := by decide +kernel
theorem dX0_mergeCopy_22 : decode cX0_mergeCopy 22 = .ok (.aload_n 0, 1) := by decide +kernel
theorem dX0_mergeCopy_23 : decode cX0_mergeCopy 23 = .ok (.getfield 36, 3) := by decide +kernel
theorem dX0_mergeCopy_26 : decode cX0_mergeCopy 26 = .ok (.sipush 500, 3) := by decide +kernel
theorem dX0_mergeCopy_29 : decode cX0_mergeCopy 29 = .ok (.if_icmp .lt 6, 3) := by decide +kernel
theorem dX0_mergeCopy_32 : decode cX0_mergeCopy 32 = .ok (.bipush (-3), 2) := by decide +kernel
theorem dX0_mergeCopy_34 : decode cX0_mergeCopy 34 = .ok (.ireturn, 1) := by decide +kernel
theorem dX0_mergeCopy_35 : decode cX0_mergeCopy 35 = .ok (.aload_n 0, 1) := by decide +kernel
theorem dX0_mergeCopy_36 : decode cX0_mergeCopy 36 = .ok (.iload_n 1, 1) := by decide +kernel
theorem dX0_mergeCopy_37 : decode cX0_mergeCopy 37 = .ok (.invokevirtual 48, 3) := by decide +kernel
theorem dX0_mergeCopy_40 : decode cX0_mergeCopy 40 = .ok (.iload_n 3, 1) := by decide +kernel
theorem dX0_mergeCopy_41 : decode cX0_mergeCopy 41 = .ok (.ifCond .eq 37, 3) := by decide +kernel
theorem dX0_mergeCopy_44 : decode cX0_mergeCopy 44 = .ok (.aload_n 0, 1) := by decide +kernel
theorem dX0_mergeCopy_45 : decode cX0_mergeCopy 45 = .ok (.dup, 1) := by decide +kernel
theorem dX0_mergeCopy_46 : decode cX0_mergeCopy 46 = .ok (.getfield 36, 3) := by decide +kernel
theorem dX0_mergeCopy_49 : decode cX0_mergeCopy 49 = .ok (.iconst 1, 1) := by decide +kernel
theorem dX0_mergeCopy_50 : decode cX0_mergeCopy 50 = .ok (.iadd, 1) := by decide +kernel
theorem dX0_mergeCopy_51 : decode cX0_mergeCopy 51 = .ok (.putfield 36, 3) := by decide +kernel
theorem dX0_mergeCopy_54 : decode cX0_mergeCopy 54 = .ok (.aload_n 0, 1) := by decide +kernel
theorem dX0_mergeCopy_55 : decode cX0_mergeCopy 55 = .ok (.getfield 18, 3) := by decide +kernel
theorem dX0_mergeCopy_58 : decode cX0_mergeCopy 58 = .ok (.iload_n 1, 1) := by decide +kernel
theorem dX0_mergeCopy_59 : decode cX0_mergeCopy 59 = .ok (.bipush 32, 2) := by decide +kernel
theorem dX0_mergeCopy_61 : decode cX0_mergeCopy 61 = .ok (.imul, 1) := by decide +kernel
theorem dX0_mergeCopy_62 : decode cX0_mergeCopy 62 = .ok (.aload_n 0, 1) := by decide +kernel
theorem dX0_mergeCopy_63 : decode cX0_mergeCopy 63 = .ok (.getfield 15, 3) := by decide +kernel
theorem dX0_mergeCopy_66 : decode cX0_mergeCopy 66 = .ok (.aload_n 0, 1) := by decide +kernel
theorem dX0_mergeCopy_67 : decode cX0_mergeCopy 67 = .ok (.getfield 36, 3) := by decide +kernel
theorem dX0_mergeCopy_70 : decode cX0_mergeCopy 70 = .ok (.bipush 32, 2) := by decide +kernel
theorem dX0_mergeCopy_72 : decode cX0_mergeCopy 72 = .ok (.imul, 1) := by decide +kernel
theorem dX0_mergeCopy_73 : decode cX0_mergeCopy 73 = .ok (.bipush 32, 2) := by decide +kernel
theorem dX0_mergeCopy_75 : decode cX0_mergeCopy 75 = .ok (.invokestatic 52, 3) := by decide +kernel
theorem dX0_mergeCopy_78 : decode cX0_mergeCopy 78 = .ok (.aload_n 0, 1) := by decide +kernel
theorem dX0_mergeCopy_79 : decode cX0_mergeCopy 79 = .ok (.getfield 11, 3) := by decide +kernel
theorem dX0_mergeCopy_82 : decode cX0_mergeCopy 82 = .ok (.iload_n 1, 1) := by decide +kernel
theorem dX0_mergeCopy_83 : decode cX0_mergeCopy 83 = .ok (.aload_n 0, 1) := by decide +kernel
theorem dX0_mergeCopy_84 : decode cX0_mergeCopy 84 = .ok (.getfield 36, 3) := by decide +kernel
theorem dX0_mergeCopy_87 : decode cX0_mergeCopy 87 = .ok (.iastore, 1) := by decide +kernel
theorem dX0_mergeCopy_88 : decode cX0_mergeCopy 88 = .ok (.iconst 0, 1) := by decide +kernel
theorem dX0_mergeCopy_89 : decode cX0_mergeCopy 89 = .ok (.ireturn, 1) := by decide +kernel
def f_Be_mergeCopy_L35 (l1 : Int32) (l3 : Int32) (I : (Nat → Nat → Int32)) (L : (Nat → Nat → Int64)) : Option (Int32 × (Nat → Nat → Int32) × (Nat → Nat → Int64)) := ((f_Be_takeOthers l1 I L).bind fun q7 => (if l3 = (0 : Int32) then (bnd (q7.1 29 0) fun x10 => (if (0 ≤ l1 ∧ l1 < (4 : Int32)) then (some ((0 : Int32), (uI q7.1 30 (l1.toNatClampNeg) x10), q7.2)) else none)) else (bnd ((q7.1 29 0) + (1 : Int32)) fun x12 => (if ¬ (l1 * (32 : Int32)) < (0 : Int32) then (if ¬ (x12 * (32 : Int32)) < (0 : Int32) then (if (Int32.toNatClampNeg (l1 * (32 : Int32))) + (Int32.toNatClampNeg (32 : Int32)) ≤ 128 then (if (Int32.toNatClampNeg (x12 * (32 : Int32))) + (Int32.toNatClampNeg (32 : Int32)) ≤ 16032 then (if (0 ≤ l1 ∧ l1 < (4 : Int32)) then (some ((0 : Int32), (uI (uC (uI q7.1 29 0 x12) 32 (Int32.toNatClampNeg (l1 * (32 : Int32))) 31 (Int32.toNatClampNeg (x12 * (32 : Int32))) (Int32.toNatClampNeg (32 : Int32))) 30 (l1.toNatClampNeg) x12), q7.2)) else none) else none) else none) else none) else none))))
set_option maxRecDepth 100000 in
set_option maxHeartbeats 4000000 in
theorem x_Be_mergeCopy_L35 {G : xG} {S : List xSh} {Rf : Nat → Nat → Option Nat} (hT : xTH S Rf) {l1 : Int32} {l3 : Int32} {I : Nat → Nat → Int32} {L : Nat → Nat → Int64} {q : (Int32 × (Nat → Nat → Int32) × (Nat → Nat → Int64))} (hf : f_Be_mergeCopy_L35 l1 l3 I L = some q) : X G 4 m_Be_mergeCopy 35 [(0, .ref (xB G + 29)), (1, .int l1), (3, .int l3)] [] (S, I, L, Rf) (some (.int q.1), (S, q.2.1, q.2.2, Rf)) := by
  replace hf := (f_Be_mergeCopy_L35.eq_1 _ _ _ _).symm.trans hf
  refine X_aload_n (pc := 35) (i := 0) 0 dX0_mergeCopy_35 rfl rfl ?_
  refine X_iload_n (pc := 36) (i := 1) 1 dX0_mergeCopy_36 rfl rfl ?_
  obtain ⟨q7, c8, hf⟩ := bd_some hf
  refine X_invV_v (pc := 37) (c_Be_takeOthers hT c8) ok_Be_takeOthers (ci := 0) (sh_29 hT) k_1133 k_1135 k_38 nd_13 (by decide) rfl (Nat.le_of_ble_eq_true rfl) dX0_mergeCopy_37 ?_
  refine X_iload_n (pc := 40) (i := 3) 2 dX0_mergeCopy_40 rfl rfl ?_
  by_cases c9 : l3 = (0 : Int32)
  · replace hf := (if_pos c9).symm.trans hf
    refine X_if_eq_t (pc := 41) 78 dX0_mergeCopy_41 (by decide) c9 ?_
    refine X_aload_n (pc := 78) (i := 0) 0 dX0_mergeCopy_78 rfl rfl ?_
    refine X_getr (pc := 79) (a := 29) (ci := 0) (j := 1) (c := 30) (sh_29 hT) (by decide) k_329 (rf_29_1 hT) (fun _ h => h) dX0_mergeCopy_79 ?_
    refine X_iload_n (pc := 82) (i := 1) 1 dX0_mergeCopy_82 rfl rfl ?_
    refine X_aload_n (pc := 83) (i := 0) 0 dX0_mergeCopy_83 rfl rfl ?_
    refine X_get (pc := 84) (a := 29) (ci := 0) (j := 0) (.int (q7.1 29 0)) (sh_29 hT) (by decide) k_327 rfl dX0_mergeCopy_84 ?_
    obtain ⟨x10, ex10, hf⟩ := bnd_e hf
    refine X_tope ex10 ?_
    obtain ⟨c11, hf⟩ := gd_some hf
    refine X_iastj (pc := 87) (j := (l1.toNatClampNeg)) (sh_30 hT) (vp_in_lit (N := 4) c11 (by decide)) rfl dX0_mergeCopy_87 ?_
    refine X_iconst (pc := 88) (0 : Int32) dX0_mergeCopy_88 (by decide) ?_
    cases hf
    exact X_ireturn (pc := 89) rfl dX0_mergeCopy_89
  · replace hf := (if_neg c9).symm.trans hf
    refine X_if_eq_f (pc := 41) 78 dX0_mergeCopy_41 (by decide) c9 ?_
    refine X_aload_n (pc := 44) (i := 0) 0 dX0_mergeCopy_44 rfl rfl ?_
    refine X_dup (pc := 45) dX0_mergeCopy_45 rfl ?_
    refine X_get (pc := 46) (a := 29) (ci := 0) (j := 0) (.int (q7.1 29 0)) (sh_29 hT) (by decide) k_327 rfl dX0_mergeCopy_46 ?_
    refine X_iconst (pc := 49) (1 : Int32) dX0_mergeCopy_49 (by decide) ?_
    refine X_iadd (pc := 50) dX0_mergeCopy_50 ?_
    obtain ⟨x12, ex12, hf⟩ := bnd_e hf
    refine X_tope ex12 ?_
    refine X_puti (pc := 51) (a := 29) (ci := 0) (j := 0) false (sh_29 hT) (by decide) k_327 rfl (fun h => by cases h) rfl dX0_mergeCopy_51 ?_
    refine X_aload_n (pc := 54) (i := 0) 0 dX0_mergeCopy_54 rfl rfl ?_
    refine X_getr (pc := 55) (a := 29) (ci := 0) (j := 3) (c := 32) (sh_29 hT) (by decide) k_332 (rf_29_3 hT) (fun _ h => h) dX0_mergeCopy_55 ?_
    refine X_iload_n (pc := 58) (i := 1) 1 dX0_mergeCopy_58 rfl rfl ?_
    refine X_bipush (pc := 59) (32 : Int32) dX0_mergeCopy_59 (by decide) ?_
    refine X_imul (pc := 61) dX0_mergeCopy_61 ?_
    refine X_aload_n (pc := 62) (i := 0) 0 dX0_mergeCopy_62 rfl rfl ?_
    refine X_getr (pc := 63) (a := 29) (ci := 0) (j := 2) (c := 31) (sh_29 hT) (by decide) k_331 (rf_29_2 hT) (fun _ h => h) dX0_mergeCopy_63 ?_
    refine X_aload_n (pc := 66) (i := 0) 0 dX0_mergeCopy_66 rfl rfl ?_
    refine X_get (pc := 67) (a := 29) (ci := 0) (j := 0) (.int x12) (sh_29 hT) (by decide) k_327 rfl dX0_mergeCopy_67 ?_
    refine X_bipush (pc := 70) (32 : Int32) dX0_mergeCopy_70 (by decide) ?_
    refine X_imul (pc := 72) dX0_mergeCopy_72 ?_
    refine X_bipush (pc := 73) (32 : Int32) dX0_mergeCopy_73 (by decide) ?_
    obtain ⟨c13, hf⟩ := gd_some hf
    obtain ⟨c14, hf⟩ := gd_some hf
    obtain ⟨c15, hf⟩ := gd_some hf
    obtain ⟨c16, hf⟩ := gd_some hf
    refine X_copyi (pc := 75) (sh_32 hT) (sh_31 hT) k_1137 k_1006 k_1005 k_85 c13 c14 (by decide) c15 c16 (by decide) (Nat.le_of_ble_eq_true rfl) dX0_mergeCopy_75 ?_
    refine X_aload_n (pc := 78) (i := 0) 0 dX0_mergeCopy_78 rfl rfl ?_
    refine X_getr (pc := 79) (a := 29) (ci := 0) (j := 1) (c := 30) (sh_29 hT) (by decide) k_329 (rf_29_1 hT) (fun _ h => h) dX0_mergeCopy_79 ?_
    refine X_iload_n (pc := 82) (i := 1) 1 dX0_mergeCopy_82 rfl rfl ?_
    refine X_aload_n (pc := 83) (i := 0) 0 dX0_mergeCopy_83 rfl rfl ?_
    refine X_get (pc := 84) (a := 29) (ci := 0) (j := 0) (.int x12) (sh_29 hT) (by decide) k_327 rfl dX0_mergeCopy_84 ?_
    obtain ⟨c17, hf⟩ := gd_some hf
    refine X_iastj (pc := 87) (j := (l1.toNatClampNeg)) (sh_30 hT) (vp_in_lit (N := 4) c17 (by decide)) rfl dX0_mergeCopy_87 ?_
    refine X_iconst (pc := 88) (0 : Int32) dX0_mergeCopy_88 (by decide) ?_
    cases hf
    exact X_ireturn (pc := 89) rfl dX0_mergeCopy_89
def f_Be_mergeCopy (a0 : Int32) (I : Nat → Nat → Int32) (L : Nat → Nat → Int64) : Option (Int32 × (Nat → Nat → Int32) × (Nat → Nat → Int64)) := ((f_Be_countConflicts a0 I L).bind fun q1 => (if q1 ≤ (0 : Int32) then ((f_Be_keepsOwn a0 I L).bind fun q4 => (if q4 = (0 : Int32) then (f_Be_mergeCopy_L35 a0 q4 I L) else (if (I 29 0) < (500 : Int32) then (f_Be_mergeCopy_L35 a0 q4 I L) else (some ((-3 : Int32), I, L))))) else (some (q1, I, L))))
set_option maxRecDepth 100000 in
set_option maxHeartbeats 4000000 in
theorem c_Be_mergeCopy {G : xG} {S : List xSh} {Rf : Nat → Nat → Option Nat} (hT : xTH S Rf) {a0 : Int32} {I : Nat → Nat → Int32} {L : Nat → Nat → Int64} {q : (Int32 × (Nat → Nat → Int32) × (Nat → Nat → Int64))} (hf : f_Be_mergeCopy a0 I L = some q) : CT G 4 m_Be_mergeCopy [.ref (xB G + 29), .int a0] (S, I, L, Rf) (some (.int q.1), (S, q.2.1, q.2.2, Rf)) := by
  refine CT.of (by decide +kernel) (Nat.le_of_ble_eq_true rfl) ?_
  show X G 4 m_Be_mergeCopy 0 [(0, .ref (xB G + 29)), (1, .int a0)] [] (S, I, L, Rf) (some (.int q.1), (S, q.2.1, q.2.2, Rf))
  replace hf := (f_Be_mergeCopy.eq_1 _ _ _).symm.trans hf
  refine X_aload_n (pc := 0) (i := 0) 0 dX0_mergeCopy_0 rfl rfl ?_
  refine X_iload_n (pc := 1) (i := 1) 1 dX0_mergeCopy_1 rfl rfl ?_
  obtain ⟨q1, c2, hf⟩ := bd_some hf
  refine X_invV_i (pc := 2) (c_Be_countConflicts hT c2) ok_Be_countConflicts (ci := 0) (sh_29 hT) k_1113 k_1115 k_36 nd_8 (by decide) rfl (Nat.le_of_ble_eq_true rfl) dX0_mergeCopy_2 ?_
  refine X_istore_n (pc := 5) (i := 2) [(2, .int q1), (0, .ref (xB G + 29)), (1, .int a0)] dX0_mergeCopy_5 rfl (by decide) rfl ?_
  refine X_iload_n (pc := 6) (i := 2) 0 dX0_mergeCopy_6 rfl rfl ?_
  by_cases c3 : q1 ≤ (0 : Int32)
  · replace hf := (if_pos c3).symm.trans hf
    refine X_if_le_t (pc := 7) 12 dX0_mergeCopy_7 (by decide) c3 ?_
    refine X_aload_n (pc := 12) (i := 0) 1 dX0_mergeCopy_12 rfl rfl ?_
    refine X_iload_n (pc := 13) (i := 1) 2 dX0_mergeCopy_13 rfl rfl ?_
    obtain ⟨q4, c5, hf⟩ := bd_some hf
    refine X_invV_i (pc := 14) (c_Be_keepsOwn hT c5) ok_Be_keepsOwn (ci := 0) (sh_29 hT) k_1129 k_1131 k_37 nd_5 (by decide) rfl (Nat.le_of_ble_eq_true rfl) dX0_mergeCopy_14 ?_
    refine X_istore_n (pc := 17) (i := 3) [(3, .int q4), (2, .int q1), (0, .ref (xB G + 29)), (1, .int a0)] dX0_mergeCopy_17 rfl (by decide) rfl ?_
    refine X_iload_n (pc := 18) (i := 3) 0 dX0_mergeCopy_18 rfl rfl ?_
    by_cases c6 : q4 = (0 : Int32)
    · replace hf := (if_pos c6).symm.trans hf
      refine X_if_eq_t (pc := 19) 35 dX0_mergeCopy_19 (by decide) c6 ?_
      exact X_lvs [2, 3, 0] rfl (x_Be_mergeCopy_L35 hT hf)
    · replace hf := (if_neg c6).symm.trans hf
      refine X_if_eq_f (pc := 19) 35 dX0_mergeCopy_19 (by decide) c6 ?_
      refine X_aload_n (pc := 22) (i := 0) 2 dX0_mergeCopy_22 rfl rfl ?_
      refine X_get (pc := 23) (a := 29) (ci := 0) (j := 0) (.int (I 29 0)) (sh_29 hT) (by decide) k_327 rfl dX0_mergeCopy_23 ?_
      refine X_sipush (pc := 26) (500 : Int32) dX0_mergeCopy_26 (by decide) ?_
      by_cases c18 : (I 29 0) < (500 : Int32)
      · replace hf := (if_pos c18).symm.trans hf
        refine X_icmp_lt_t (pc := 29) 35 dX0_mergeCopy_29 (by decide) c18 ?_
        exact X_lvs [2, 3, 0] rfl (x_Be_mergeCopy_L35 hT hf)
      · replace hf := (if_neg c18).symm.trans hf
        refine X_icmp_lt_f (pc := 29) 35 dX0_mergeCopy_29 (by decide) c18 ?_
        refine X_bipush (pc := 32) (-3 : Int32) dX0_mergeCopy_32 (by decide) ?_
        cases hf
        exact X_ireturn (pc := 34) rfl dX0_mergeCopy_34
  · replace hf := (if_neg c3).symm.trans hf
    refine X_if_le_f (pc := 7) 12 dX0_mergeCopy_7 (by decide) c3 ?_
    refine X_iload_n (pc := 10) (i := 2) 0 dX0_mergeCopy_10 rfl rfl ?_
    cases hf
    exact X_ireturn (pc := 11) rfl dX0_mergeCopy_11

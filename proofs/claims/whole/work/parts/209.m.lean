theorem dX7_at_0 : decode cX7_at 0 = .ok (.aload_n 0, 1) := by decide +kernel
theorem dX7_at_1 : decode cX7_at 1 = .ok (.iload_n 1, 1) := by decide +kernel
theorem dX7_at_2 : decode cX7_at 2 = .ok (.iload_n 2, 1) := by decide +kernel
theorem dX7_at_3 : decode cX7_at 3 = .ok (.invokevirtual 25, 3) := by decide +kernel
theorem dX7_at_6 : decode cX7_at 6 = .ok (.ifCond .eq 19, 3) := by decide +kernel
theorem dX7_at_9 : decode cX7_at 9 = .ok (.aload_n 0, 1) := by decide +kernel
theorem dX7_at_10 : decode cX7_at 10 = .ok (.getfield 18, 3) := by decide +kernel
theorem dX7_at_13 : decode cX7_at 13 = .ok (.iload_n 1, 1) := by decide +kernel
theorem dX7_at_14 : decode cX7_at 14 = .ok (.aload_n 0, 1) := by decide +kernel
theorem dX7_at_15 : decode cX7_at 15 = .ok (.getfield 9, 3) := by decide +kernel
theorem dX7_at_18 : decode cX7_at 18 = .ok (.imul, 1) := by decide +kernel
theorem dX7_at_19 : decode cX7_at 19 = .ok (.iload_n 2, 1) := by decide +kernel
theorem dX7_at_20 : decode cX7_at 20 = .ok (.iadd, 1) := by decide +kernel
theorem dX7_at_21 : decode cX7_at 21 = .ok (.iaload, 1) := by decide +kernel
theorem dX7_at_22 : decode cX7_at 22 = .ok (.goto 4, 3) := by decide +kernel
theorem dX7_at_25 : decode cX7_at 25 = .ok (.iconst (-1), 1) := by decide +kernel
theorem dX7_at_26 : decode cX7_at 26 = .ok (.ireturn, 1) := by decide +kernel
def f_Ro_at_15 (a0 : Int32) (a1 : Int32) (I : Nat → Nat → Int32) (L : Nat → Nat → Int64) : Option Int32 := (if (f_Ro_has_15 a0 a1 I L) = (0 : Int32) then (some (-1 : Int32)) else (if (0 ≤ ((a0 * (I 15 0)) + a1) ∧ ((a0 * (I 15 0)) + a1) < (8000 : Int32)) then (some (I 16 (((a0 * (I 15 0)) + a1).toNatClampNeg))) else none))
set_option maxRecDepth 100000 in
set_option maxHeartbeats 4000000 in
theorem c_Ro_at_15 {G : xG} {S : List xSh} {Rf : Nat → Nat → Option Nat} (hT : xTH S Rf) {a0 : Int32} {a1 : Int32} {I : Nat → Nat → Int32} {L : Nat → Nat → Int64} {q : Int32} (hf : f_Ro_at_15 a0 a1 I L = some q) : CT G 2 m_Ro_at [.ref (xB G + 15), .int a0, .int a1] (S, I, L, Rf) (some (.int q), (S, I, L, Rf)) := by
  refine CT.of (by decide +kernel) (Nat.le_of_ble_eq_true rfl) ?_
  show X G 2 m_Ro_at 0 [(0, .ref (xB G + 15)), (1, .int a0), (2, .int a1)] [] (S, I, L, Rf) (some (.int q), (S, I, L, Rf))
  replace hf := (f_Ro_at_15.eq_1 _ _ _ _).symm.trans hf
  refine X_aload_n (pc := 0) (i := 0) 0 dX7_at_0 rfl rfl ?_
  refine X_iload_n (pc := 1) (i := 1) 1 dX7_at_1 rfl rfl ?_
  refine X_iload_n (pc := 2) (i := 2) 2 dX7_at_2 rfl rfl ?_
  refine X_invV_i (pc := 3) (c_Ro_has_15 hT rfl) ok_Ro_has (ci := 7) (sh_15 hT) k_911 k_912 k_913 nd_25 (by decide) rfl (Nat.le_of_ble_eq_true rfl) dX7_at_3 ?_
  by_cases c1 : (f_Ro_has_15 a0 a1 I L) = (0 : Int32)
  · replace hf := (if_pos c1).symm.trans hf
    refine X_if_eq_t (pc := 6) 25 dX7_at_6 (by decide) c1 ?_
    refine X_iconst (pc := 25) (-1 : Int32) dX7_at_25 (by decide) ?_
    cases hf
    exact X_ireturn (pc := 26) rfl dX7_at_26
  · replace hf := (if_neg c1).symm.trans hf
    refine X_if_eq_f (pc := 6) 25 dX7_at_6 (by decide) c1 ?_
    refine X_aload_n (pc := 9) (i := 0) 0 dX7_at_9 rfl rfl ?_
    refine X_getr (pc := 10) (a := 15) (ci := 7) (j := 2) (c := 16) (sh_15 hT) (by decide) k_159 (rf_15_2 hT) (fun _ h => h) dX7_at_10 ?_
    refine X_iload_n (pc := 13) (i := 1) 1 dX7_at_13 rfl rfl ?_
    refine X_aload_n (pc := 14) (i := 0) 0 dX7_at_14 rfl rfl ?_
    refine X_get (pc := 15) (a := 15) (ci := 7) (j := 0) (.int (I 15 0)) (sh_15 hT) (by decide) k_157 rfl dX7_at_15 ?_
    refine X_imul (pc := 18) dX7_at_18 ?_
    refine X_iload_n (pc := 19) (i := 2) 2 dX7_at_19 rfl rfl ?_
    refine X_iadd (pc := 20) dX7_at_20 ?_
    obtain ⟨c2, hf⟩ := gd_some hf
    refine X_ialdj (pc := 21) (j := ((a0 * (I 15 0)) + a1).toNatClampNeg) (I 16 (((a0 * (I 15 0)) + a1).toNatClampNeg)) (sh_16 hT) (vp_in_lit (N := 8000) c2 (by decide)) rfl rfl dX7_at_21 ?_
    refine X_goto (pc := 22) 26 dX7_at_22 (by decide) ?_
    cases hf
    exact X_ireturn (pc := 26) rfl dX7_at_26
theorem dX11_pushButton_0 : decode cX11_pushButton 0 = .ok (.aload_n 0, 1) := by decide +kernel
theorem dX11_pushButton_1 : decode cX11_pushButton 1 = .ok (.iload_n 1, 1) := by decide +kernel
theorem dX11_pushButton_2 : decode cX11_pushButton 2 = .ok (.invokevirtual 176, 3) := by decide +kernel
theorem dX11_pushButton_5 : decode cX11_pushButton 5 = .ok (.astore_n 3, 1) := by decide +kernel
theorem dX11_pushButton_6 : decode cX11_pushButton 6 = .ok (.aload_n 3, 1) := by decide +kernel
theorem dX11_pushButton_7 : decode cX11_pushButton 7 = .ok (.ifnonnull 7, 3) := by decide +kernel
theorem dX11_pushButton_10 : decode cX11_pushButton 10 = .ok (.iconst (-1), 1) := by decide +kernel
theorem dX11_pushButton_11 : decode cX11_pushButton 11 = .ok (.goto 8, 3) := by decide +kernel
theorem dX11_pushButton_14 : decode cX11_pushButton 14 = .ok (.aload_n 3, 1) := by decide +kernel
theorem dX11_pushButton_15 : decode cX11_pushButton 15 = .ok (.iload_n 2, 1) := by decide +kernel
theorem dX11_pushButton_16 : decode cX11_pushButton 16 = .ok (.invokevirtual 183, 3) := by decide +kernel
theorem dX11_pushButton_19 : decode cX11_pushButton 19 = .ok (.ireturn, 1) := by decide +kernel
def f_H_pushButton (S : List xSh) (Rf : Nat → Nat → Option Nat) (a0 : Int32) (a1 : Int32) (I : Nat → Nat → Int32) (L : Nat → Nat → Int64) : Option (Int32 × (Nat → Nat → Int32) × (Nat → Nat → Int64)) := ((f_H_chronographAt S Rf a0 I L).bind fun q1 => (oc q1 (some ((-1 : Int32), I, L)) fun w3 => (if S[w3]? = some (.inl 3) then ((f_Cr_push w3 a1 I L).bind fun q6 => (some (q6.1, q6.2.1, q6.2.2))) else none)))
set_option maxRecDepth 100000 in
set_option maxHeartbeats 4000000 in
theorem c_H_pushButton {G : xG} {S : List xSh} {Rf : Nat → Nat → Option Nat} (hT : xTH S Rf) {a0 : Int32} {a1 : Int32} {I : Nat → Nat → Int32} {L : Nat → Nat → Int64} {q : (Int32 × (Nat → Nat → Int32) × (Nat → Nat → Int64))} (hf : f_H_pushButton S Rf a0 a1 I L = some q) : CT G 3 m_H_pushButton [.ref (xB G + 0), .int a0, .int a1] (S, I, L, Rf) (some (.int q.1), (S, q.2.1, q.2.2, Rf)) := by
  refine CT.of (by decide +kernel) (Nat.le_of_ble_eq_true rfl) ?_
  show X G 3 m_H_pushButton 0 [(0, .ref (xB G + 0)), (1, .int a0), (2, .int a1)] [] (S, I, L, Rf) (some (.int q.1), (S, q.2.1, q.2.2, Rf))
  replace hf := (f_H_pushButton.eq_1 _ _ _ _ _ _).symm.trans hf
  refine X_aload_n (pc := 0) (i := 0) 0 dX11_pushButton_0 rfl rfl ?_
  refine X_iload_n (pc := 1) (i := 1) 1 dX11_pushButton_1 rfl rfl ?_
  obtain ⟨q1, c2, hf⟩ := bd_some hf
  rcases oc_cases hf with ⟨hr4, hf⟩ | ⟨w3, hr4, hf⟩
  · rw [hr4] at c2
    refine X_invV_aN (pc := 2) (c_H_chronographAt hT c2) ok_H_chronographAt (ci := 10) (sh_0 hT) k_821 k_823 k_17 nd_23 (by decide) rfl (Nat.le_of_ble_eq_true rfl) dX11_pushButton_2 ?_
    refine X_astore_nN (pc := 5) (i := 3) [(3, .null), (0, .ref (xB G + 0)), (1, .int a0), (2, .int a1)] dX11_pushButton_5 rfl (by decide) rfl ?_
    refine X_aload_nN (pc := 6) (i := 3) 0 dX11_pushButton_6 rfl rfl ?_
    refine X_ifnonnull_f (pc := 7) dX11_pushButton_7 ?_
    refine X_iconst (pc := 10) (-1 : Int32) dX11_pushButton_10 (by decide) ?_
    refine X_goto (pc := 11) 19 dX11_pushButton_11 (by decide) ?_
    cases hf
    exact X_ireturn (pc := 19) rfl dX11_pushButton_19
  · obtain ⟨hs5, hf⟩ := gd_some hf
    rw [hr4] at c2
    refine X_invV_aS (pc := 2) (c_H_chronographAt hT c2) ok_H_chronographAt (ci := 10) (sh_0 hT) k_821 k_823 k_17 nd_23 (by decide) rfl (Nat.le_of_ble_eq_true rfl) dX11_pushButton_2 ?_
    refine X_astore_n (pc := 5) (i := 3) [(3, .ref (xB G + w3)), (0, .ref (xB G + 0)), (1, .int a0), (2, .int a1)] dX11_pushButton_5 rfl (by decide) rfl ?_
    refine X_aload_n (pc := 6) (i := 3) 0 dX11_pushButton_6 rfl rfl ?_
    refine X_ifnonnull_t (pc := 7) 14 dX11_pushButton_7 (by decide) ?_
    refine X_aload_n (pc := 14) (i := 3) 0 dX11_pushButton_14 rfl rfl ?_
    refine X_iload_n (pc := 15) (i := 2) 3 dX11_pushButton_15 rfl rfl ?_
    obtain ⟨q6, c7, hf⟩ := bd_some hf
    refine X_invV_i (pc := 16) (c_Cr_push hT hs5 c7) ok_Cr_push (ci := 3) hs5 k_829 k_830 k_831 nd_8 (by decide) rfl (Nat.le_of_ble_eq_true rfl) dX11_pushButton_16 ?_
    cases hf
    exact X_ireturn (pc := 19) rfl dX11_pushButton_19
theorem u_H_pushButton {S : List xSh} {Rf : Nat → Nat → Option Nat} {a0 : Int32} {a1 : Int32} {I : Nat → Nat → Int32} {L : Nat → Nat → Int64} {q : (Int32 × (Nat → Nat → Int32) × (Nat → Nat → Int64))} (hf : f_H_pushButton S Rf a0 a1 I L = some q) : FR S [] [] I q.2.1 L q.2.2 := by
  replace hf := (f_H_pushButton.eq_1 _ _ _ _ _ _).symm.trans hf
  obtain ⟨q1, c2, hf⟩ := bd_some hf
  rcases oc_cases hf with ⟨hr4, hf⟩ | ⟨w3, hr4, hf⟩
  · rw [hr4] at c2
    cases hf
    exact FR.rf
  · obtain ⟨hs5, hf⟩ := gd_some hf
    rw [hr4] at c2
    obtain ⟨q6, c7, hf⟩ := bd_some hf
    cases hf
    exact (FR.tr FR.rf (u_Cr_push hs5 (q := q6) c7) (by decide) (by decide))
theorem dX11_repeat_0 : decode cX11_repeat 0 = .ok (.aload_n 0, 1) := by decide +kernel
theorem dX11_repeat_1 : decode cX11_repeat 1 = .ok (.getfield 42, 3) := by decide +kernel
theorem dX11_repeat_4 : decode cX11_repeat 4 = .ok (.iload_n 1, 1) := by decide +kernel
theorem dX11_repeat_5 : decode cX11_repeat 5 = .ok (.iconst 1, 1) := by decide +kernel
theorem dX11_repeat_6 : decode cX11_repeat 6 = .ok (.invokevirtual 253, 3) := by decide +kernel
theorem dX11_repeat_9 : decode cX11_repeat 9 = .ok (.istore_n 2, 1) := by decide +kernel
theorem dX11_repeat_10 : decode cX11_repeat 10 = .ok (.aload_n 0, 1) := by decide +kernel
theorem dX11_repeat_11 : decode cX11_repeat 11 = .ok (.getfield 42, 3) := by decide +kernel
theorem dX11_repeat_14 : decode cX11_repeat 14 = .ok (.iload_n 1, 1) := by decide +kernel
theorem dX11_repeat_15 : decode cX11_repeat 15 = .ok (.iconst 2, 1) := by decide +kernel
theorem dX11_repeat_16 : decode cX11_repeat 16 = .ok (.invokevirtual 253, 3) := by decide +kernel
theorem dX11_repeat_19 : decode cX11_repeat 19 = .ok (.istore_n 3, 1) := by decide +kernel
theorem dX11_repeat_20 : decode cX11_repeat 20 = .ok (.aload_n 0, 1) := by decide +kernel
theorem dX11_repeat_21 : decode cX11_repeat 21 = .ok (.getfield 42, 3) := by decide +kernel
theorem dX11_repeat_24 : decode cX11_repeat 24 = .ok (.iload_n 1, 1) := by decide +kernel
theorem dX11_repeat_25 : decode cX11_repeat 25 = .ok (.iconst 0, 1) := by decide +kernel
theorem dX11_repeat_26 : decode cX11_repeat 26 = .ok (.invokevirtual 253, 3) := by decide +kernel
theorem dX11_repeat_29 : decode cX11_repeat 29 = .ok (.tableswitch 92 0 5 #[39, 45, 54, 63, 70, 86], 39) := by decide +kernel
theorem dX11_repeat_68 : decode cX11_repeat 68 = .ok (.aload_n 0, 1) := by decide +kernel
theorem dX11_repeat_69 : decode cX11_repeat 69 = .ok (.iload_n 2, 1) := by decide +kernel
theorem dX11_repeat_70 : decode cX11_repeat 70 = .ok (.invokevirtual 161, 3) := by decide +kernel
theorem dX11_repeat_73 : decode cX11_repeat 73 = .ok (.ireturn, 1) := by decide +kernel
theorem dX11_repeat_74 : decode cX11_repeat 74 = .ok (.aload_n 0, 1) := by decide +kernel
theorem dX11_repeat_75 : decode cX11_repeat 75 = .ok (.getfield 10, 3) := by decide +kernel
theorem dX11_repeat_78 : decode cX11_repeat 78 = .ok (.iload_n 2, 1) := by decide +kernel
theorem dX11_repeat_79 : decode cX11_repeat 79 = .ok (.invokevirtual 166, 3) := by decide +kernel
theorem dX11_repeat_82 : decode cX11_repeat 82 = .ok (.ireturn, 1) := by decide +kernel
theorem dX11_repeat_83 : decode cX11_repeat 83 = .ok (.aload_n 0, 1) := by decide +kernel
theorem dX11_repeat_84 : decode cX11_repeat 84 = .ok (.getfield 10, 3) := by decide +kernel
theorem dX11_repeat_87 : decode cX11_repeat 87 = .ok (.iload_n 2, 1) := by decide +kernel
theorem dX11_repeat_88 : decode cX11_repeat 88 = .ok (.invokevirtual 173, 3) := by decide +kernel
theorem dX11_repeat_91 : decode cX11_repeat 91 = .ok (.ireturn, 1) := by decide +kernel
theorem dX11_repeat_92 : decode cX11_repeat 92 = .ok (.aload_n 0, 1) := by decide +kernel
theorem dX11_repeat_93 : decode cX11_repeat 93 = .ok (.iload_n 2, 1) := by decide +kernel
theorem dX11_repeat_94 : decode cX11_repeat 94 = .ok (.iload_n 3, 1) := by decide +kernel
theorem dX11_repeat_95 : decode cX11_repeat 95 = .ok (.invokevirtual 380, 3) := by decide +kernel
theorem dX11_repeat_98 : decode cX11_repeat 98 = .ok (.ireturn, 1) := by decide +kernel
theorem dX11_repeat_99 : decode cX11_repeat 99 = .ok (.aload_n 0, 1) := by decide +kernel
theorem dX11_repeat_100 : decode cX11_repeat 100 = .ok (.iload_n 2, 1) := by decide +kernel
theorem dX11_repeat_101 : decode cX11_repeat 101 = .ok (.iload_n 3, 1) := by decide +kernel
theorem dX11_repeat_102 : decode cX11_repeat 102 = .ok (.aload_n 0, 1) := by decide +kernel
theorem dX11_repeat_103 : decode cX11_repeat 103 = .ok (.getfield 42, 3) := by decide +kernel
theorem dX11_repeat_106 : decode cX11_repeat 106 = .ok (.iload_n 1, 1) := by decide +kernel
theorem dX11_repeat_107 : decode cX11_repeat 107 = .ok (.iconst 3, 1) := by decide +kernel
theorem dX11_repeat_108 : decode cX11_repeat 108 = .ok (.invokevirtual 253, 3) := by decide +kernel
theorem dX11_repeat_111 : decode cX11_repeat 111 = .ok (.invokevirtual 196, 3) := by decide +kernel
theorem dX11_repeat_114 : decode cX11_repeat 114 = .ok (.ireturn, 1) := by decide +kernel
theorem dX11_repeat_115 : decode cX11_repeat 115 = .ok (.aload_n 0, 1) := by decide +kernel
theorem dX11_repeat_116 : decode cX11_repeat 116 = .ok (.iload_n 2, 1) := by decide +kernel
theorem dX11_repeat_117 : decode cX11_repeat 117 = .ok (.invokevirtual 200, 3) := by decide +kernel
theorem dX11_repeat_120 : decode cX11_repeat 120 = .ok (.ireturn, 1) := by decide +kernel
theorem dX11_repeat_121 : decode cX11_repeat 121 = .ok (.iconst (-1), 1) := by decide +kernel
theorem dX11_repeat_122 : decode cX11_repeat 122 = .ok (.ireturn, 1) := by decide +kernel
def f_H_repeat (S : List xSh) (Rf : Nat → Nat → Option Nat) (a0 : Int32) (I : Nat → Nat → Int32) (L : Nat → Nat → Int64) : Option (Int32 × (Nat → Nat → Int32) × (Nat → Nat → Int64)) := ((f_Ro_at_15 a0 (1 : Int32) I L).bind fun q1 => ((f_Ro_at_15 a0 (2 : Int32) I L).bind fun q3 => ((f_Ro_at_15 a0 (0 : Int32) I L).bind fun q5 => (if q5 = (0 : Int32) then ((f_H_takeSteps S Rf q1 I L).bind fun q13 => (some (q13.1, q13.2.1, q13.2.2))) else (if q5 = (1 : Int32) then ((f_Es_push q1 I L).bind fun q15 => (some (q15.1, q15.2.1, q15.2.2))) else (if q5 = (2 : Int32) then ((f_Es_windUp q1 I L).bind fun q17 => (some (q17.1, q17.2.1, q17.2.2))) else (if q5 = (3 : Int32) then ((f_H_pushButton S Rf q1 q3 I L).bind fun q19 => (some (q19.1, q19.2.1, q19.2.2))) else (if q5 = (4 : Int32) then ((f_Ro_at_15 a0 (3 : Int32) I L).bind fun q21 => ((f_H_putRight S Rf q1 q3 q21 I L).bind fun q23 => (some (q23.1, q23.2.1, q23.2.2)))) else (if q5 = (5 : Int32) then ((f_H_strikeNow S Rf q1 I L).bind fun q25 => (some (q25.1, q25.2.1, q25.2.2))) else (some ((-1 : Int32), I, L)))))))))))
set_option maxRecDepth 100000 in
set_option maxHeartbeats 4000000 in
theorem c_H_repeat {G : xG} {S : List xSh} {Rf : Nat → Nat → Option Nat} (hT : xTH S Rf) {a0 : Int32} {I : Nat → Nat → Int32} {L : Nat → Nat → Int64} {q : (Int32 × (Nat → Nat → Int32) × (Nat → Nat → Int64))} (hf : f_H_repeat S Rf a0 I L = some q) : CT G 6 m_H_repeat [.ref (xB G + 0), .int a0] (S, I, L, Rf) (some (.int q.1), (S, q.2.1, q.2.2, Rf)) := by
  refine CT.of (by decide +kernel) (Nat.le_of_ble_eq_true rfl) ?_
  show X G 6 m_H_repeat 0 [(0, .ref (xB G + 0)), (1, .int a0)] [] (S, I, L, Rf) (some (.int q.1), (S, q.2.1, q.2.2, Rf))
  replace hf := (f_H_repeat.eq_1 _ _ _ _ _).symm.trans hf
  refine X_aload_n (pc := 0) (i := 0) 0 dX11_repeat_0 rfl rfl ?_
  refine X_getr (pc := 1) (a := 0) (ci := 10) (j := 5) (c := 15) (sh_0 hT) (by decide) k_382 (rf_0_5 hT) (fun _ h => h) dX11_repeat_1 ?_
  refine X_iload_n (pc := 4) (i := 1) 1 dX11_repeat_4 rfl rfl ?_
  refine X_iconst (pc := 5) (1 : Int32) dX11_repeat_5 (by decide) ?_
  obtain ⟨q1, c2, hf⟩ := bd_some hf
  refine X_invV_i (pc := 6) (c_Ro_at_15 hT c2) ok_Ro_at (ci := 7) (sh_15 hT) k_907 k_908 k_909 nd_22 (by decide) rfl (Nat.le_of_ble_eq_true rfl) dX11_repeat_6 ?_
  refine X_istore_n (pc := 9) (i := 2) [(2, .int q1), (0, .ref (xB G + 0)), (1, .int a0)] dX11_repeat_9 rfl (by decide) rfl ?_
  refine X_aload_n (pc := 10) (i := 0) 1 dX11_repeat_10 rfl rfl ?_
  refine X_getr (pc := 11) (a := 0) (ci := 10) (j := 5) (c := 15) (sh_0 hT) (by decide) k_382 (rf_0_5 hT) (fun _ h => h) dX11_repeat_11 ?_
  refine X_iload_n (pc := 14) (i := 1) 2 dX11_repeat_14 rfl rfl ?_
  refine X_iconst (pc := 15) (2 : Int32) dX11_repeat_15 (by decide) ?_
  obtain ⟨q3, c4, hf⟩ := bd_some hf
  refine X_invV_i (pc := 16) (c_Ro_at_15 hT c4) ok_Ro_at (ci := 7) (sh_15 hT) k_907 k_908 k_909 nd_22 (by decide) rfl (Nat.le_of_ble_eq_true rfl) dX11_repeat_16 ?_
  refine X_istore_n (pc := 19) (i := 3) [(3, .int q3), (2, .int q1), (0, .ref (xB G + 0)), (1, .int a0)] dX11_repeat_19 rfl (by decide) rfl ?_
  refine X_aload_n (pc := 20) (i := 0) 2 dX11_repeat_20 rfl rfl ?_
  refine X_getr (pc := 21) (a := 0) (ci := 10) (j := 5) (c := 15) (sh_0 hT) (by decide) k_382 (rf_0_5 hT) (fun _ h => h) dX11_repeat_21 ?_
  refine X_iload_n (pc := 24) (i := 1) 3 dX11_repeat_24 rfl rfl ?_
  refine X_iconst (pc := 25) (0 : Int32) dX11_repeat_25 (by decide) ?_
  obtain ⟨q5, c6, hf⟩ := bd_some hf
  refine X_invV_i (pc := 26) (c_Ro_at_15 hT c6) ok_Ro_at (ci := 7) (sh_15 hT) k_907 k_908 k_909 nd_22 (by decide) rfl (Nat.le_of_ble_eq_true rfl) dX11_repeat_26 ?_
  by_cases c7 : q5 = (0 : Int32)
  · replace hf := (if_pos c7).symm.trans hf
    refine X_tabIn (pc := 29) (off := 39) (0) 68 dX11_repeat_29 (by rw [c7]; rfl) (by decide) ?_
    refine X_aload_n (pc := 68) (i := 0) 2 dX11_repeat_68 rfl rfl ?_
    refine X_iload_n (pc := 69) (i := 2) 1 dX11_repeat_69 rfl rfl ?_
    obtain ⟨q13, c14, hf⟩ := bd_some hf
    refine X_invV_i (pc := 70) (c_H_takeSteps hT c14) ok_H_takeSteps (ci := 10) (sh_0 hT) k_702 k_704 k_11 nd_8 (by decide) rfl (Nat.le_of_ble_eq_true rfl) dX11_repeat_70 ?_
    cases hf
    exact X_ireturn (pc := 73) rfl dX11_repeat_73
  · replace hf := (if_neg c7).symm.trans hf
    by_cases c8 : q5 = (1 : Int32)
    · replace hf := (if_pos c8).symm.trans hf
      refine X_tabIn (pc := 29) (off := 45) (1) 74 dX11_repeat_29 (by rw [c8]; rfl) (by decide) ?_
      refine X_aload_n (pc := 74) (i := 0) 2 dX11_repeat_74 rfl rfl ?_
      refine X_getr (pc := 75) (a := 0) (ci := 10) (j := 0) (c := 1) (sh_0 hT) (by decide) k_377 (rf_0_0 hT) (fun _ h => h) dX11_repeat_75 ?_
      refine X_iload_n (pc := 78) (i := 2) 1 dX11_repeat_78 rfl rfl ?_
      obtain ⟨q15, c16, hf⟩ := bd_some hf
      refine X_invV_i (pc := 79) (c_Es_push hT c16) ok_Es_push (ci := 5) (sh_1 hT) k_803 k_804 k_805 nd_8 (by decide) rfl (Nat.le_of_ble_eq_true rfl) dX11_repeat_79 ?_
      cases hf
      exact X_ireturn (pc := 82) rfl dX11_repeat_82
    · replace hf := (if_neg c8).symm.trans hf
      by_cases c9 : q5 = (2 : Int32)
      · replace hf := (if_pos c9).symm.trans hf
        refine X_tabIn (pc := 29) (off := 54) (2) 83 dX11_repeat_29 (by rw [c9]; rfl) (by decide) ?_
        refine X_aload_n (pc := 83) (i := 0) 2 dX11_repeat_83 rfl rfl ?_
        refine X_getr (pc := 84) (a := 0) (ci := 10) (j := 0) (c := 1) (sh_0 hT) (by decide) k_377 (rf_0_0 hT) (fun _ h => h) dX11_repeat_84 ?_
        refine X_iload_n (pc := 87) (i := 2) 1 dX11_repeat_87 rfl rfl ?_
        obtain ⟨q17, c18, hf⟩ := bd_some hf
        refine X_invV_i (pc := 88) (c_Es_windUp hT c18) ok_Es_windUp (ci := 5) (sh_1 hT) k_813 k_814 k_815 nd_8 (by decide) rfl (Nat.le_of_ble_eq_true rfl) dX11_repeat_88 ?_
        cases hf
        exact X_ireturn (pc := 91) rfl dX11_repeat_91
      · replace hf := (if_neg c9).symm.trans hf
        by_cases c10 : q5 = (3 : Int32)
        · replace hf := (if_pos c10).symm.trans hf
          refine X_tabIn (pc := 29) (off := 63) (3) 92 dX11_repeat_29 (by rw [c10]; rfl) (by decide) ?_
          refine X_aload_n (pc := 92) (i := 0) 2 dX11_repeat_92 rfl rfl ?_
          refine X_iload_n (pc := 93) (i := 2) 1 dX11_repeat_93 rfl rfl ?_
          refine X_iload_n (pc := 94) (i := 3) 0 dX11_repeat_94 rfl rfl ?_
          obtain ⟨q19, c20, hf⟩ := bd_some hf
          refine X_invV_i (pc := 95) (c_H_pushButton hT c20) ok_H_pushButton (ci := 10) (sh_0 hT) k_915 k_917 k_24 nd_22 (by decide) rfl (Nat.le_of_ble_eq_true rfl) dX11_repeat_95 ?_
          cases hf
          exact X_ireturn (pc := 98) rfl dX11_repeat_98
        · replace hf := (if_neg c10).symm.trans hf
          by_cases c11 : q5 = (4 : Int32)
          · replace hf := (if_pos c11).symm.trans hf
            refine X_tabIn (pc := 29) (off := 70) (4) 99 dX11_repeat_29 (by rw [c11]; rfl) (by decide) ?_
            refine X_aload_n (pc := 99) (i := 0) 2 dX11_repeat_99 rfl rfl ?_
            refine X_iload_n (pc := 100) (i := 2) 1 dX11_repeat_100 rfl rfl ?_
            refine X_iload_n (pc := 101) (i := 3) 0 dX11_repeat_101 rfl rfl ?_
            refine X_aload_n (pc := 102) (i := 0) 2 dX11_repeat_102 rfl rfl ?_
            refine X_getr (pc := 103) (a := 0) (ci := 10) (j := 5) (c := 15) (sh_0 hT) (by decide) k_382 (rf_0_5 hT) (fun _ h => h) dX11_repeat_103 ?_
            refine X_iload_n (pc := 106) (i := 1) 3 dX11_repeat_106 rfl rfl ?_
            refine X_iconst (pc := 107) (3 : Int32) dX11_repeat_107 (by decide) ?_
            obtain ⟨q21, c22, hf⟩ := bd_some hf
            refine X_invV_i (pc := 108) (c_Ro_at_15 hT c22) ok_Ro_at (ci := 7) (sh_15 hT) k_907 k_908 k_909 nd_22 (by decide) rfl (Nat.le_of_ble_eq_true rfl) dX11_repeat_108 ?_
            obtain ⟨q23, c24, hf⟩ := bd_some hf
            refine X_invV_i (pc := 111) (c_H_putRight hT c24) ok_H_putRight (ci := 10) (sh_0 hT) k_865 k_867 k_20 nd_15 (by decide) rfl (Nat.le_of_ble_eq_true rfl) dX11_repeat_111 ?_
            cases hf
            exact X_ireturn (pc := 114) rfl dX11_repeat_114
          · replace hf := (if_neg c11).symm.trans hf
            by_cases c12 : q5 = (5 : Int32)
            · replace hf := (if_pos c12).symm.trans hf
              refine X_tabIn (pc := 29) (off := 86) (5) 115 dX11_repeat_29 (by rw [c12]; rfl) (by decide) ?_
              refine X_aload_n (pc := 115) (i := 0) 2 dX11_repeat_115 rfl rfl ?_
              refine X_iload_n (pc := 116) (i := 2) 1 dX11_repeat_116 rfl rfl ?_
              obtain ⟨q25, c26, hf⟩ := bd_some hf
              refine X_invV_i (pc := 117) (c_H_strikeNow hT c26) ok_H_strikeNow (ci := 10) (sh_0 hT) k_885 k_887 k_21 nd_8 (by decide) rfl (Nat.le_of_ble_eq_true rfl) dX11_repeat_117 ?_
              cases hf
              exact X_ireturn (pc := 120) rfl dX11_repeat_120
            · replace hf := (if_neg c12).symm.trans hf
              refine X_tabOut (pc := 29) 121 dX11_repeat_29 (by have zc7 := lv_neT (a := 0) c7 rfl; have zc8 := lv_neT (a := 1) c8 rfl; have zc9 := lv_neT (a := 2) c9 rfl; have zc10 := lv_neT (a := 3) c10 rfl; have zc11 := lv_neT (a := 4) c11 rfl; have zc12 := lv_neT (a := 5) c12 rfl; omega) (by decide) ?_
              refine X_iconst (pc := 121) (-1 : Int32) dX11_repeat_121 (by decide) ?_
              cases hf
              exact X_ireturn (pc := 122) rfl dX11_repeat_122
theorem u_H_repeat {S : List xSh} {Rf : Nat → Nat → Option Nat} {a0 : Int32} {I : Nat → Nat → Int32} {L : Nat → Nat → Int64} {q : (Int32 × (Nat → Nat → Int32) × (Nat → Nat → Int64))} (hf : f_H_repeat S Rf a0 I L = some q) : FR S [10, 14, 1108, 1109, 1110, 1111, 1112, 1113, 1114, 1903, 2303] [1107] I q.2.1 L q.2.2 := by
  replace hf := (f_H_repeat.eq_1 _ _ _ _ _).symm.trans hf
  obtain ⟨q1, c2, hf⟩ := bd_some hf
  obtain ⟨q3, c4, hf⟩ := bd_some hf
  obtain ⟨q5, c6, hf⟩ := bd_some hf
  by_cases c7 : q5 = (0 : Int32)
  · replace hf := (if_pos c7).symm.trans hf
    obtain ⟨q13, c14, hf⟩ := bd_some hf
    cases hf
    exact (FR.tr FR.rf (u_H_takeSteps (q := q13) c14) (by decide) (by decide))
  · replace hf := (if_neg c7).symm.trans hf
    by_cases c8 : q5 = (1 : Int32)
    · replace hf := (if_pos c8).symm.trans hf
      obtain ⟨q15, c16, hf⟩ := bd_some hf
      cases hf
      exact (FR.tr FR.rf (u_Es_push (q := q15) c16) (by decide) (by decide))
    · replace hf := (if_neg c8).symm.trans hf
      by_cases c9 : q5 = (2 : Int32)
      · replace hf := (if_pos c9).symm.trans hf
        obtain ⟨q17, c18, hf⟩ := bd_some hf
        cases hf
        exact (FR.tr FR.rf (u_Es_windUp (q := q17) c18) (by decide) (by decide))
      · replace hf := (if_neg c9).symm.trans hf
        by_cases c10 : q5 = (3 : Int32)
        · replace hf := (if_pos c10).symm.trans hf
          obtain ⟨q19, c20, hf⟩ := bd_some hf
          cases hf
          exact (FR.tr FR.rf (u_H_pushButton (q := q19) c20) (by decide) (by decide))
        · replace hf := (if_neg c10).symm.trans hf
          by_cases c11 : q5 = (4 : Int32)
          · replace hf := (if_pos c11).symm.trans hf
            obtain ⟨q21, c22, hf⟩ := bd_some hf
            obtain ⟨q23, c24, hf⟩ := bd_some hf
            cases hf
            exact (FR.tr FR.rf (u_H_putRight (q := q23) c24) (by decide) (by decide))
          · replace hf := (if_neg c11).symm.trans hf
            by_cases c12 : q5 = (5 : Int32)
            · replace hf := (if_pos c12).symm.trans hf
              obtain ⟨q25, c26, hf⟩ := bd_some hf
              cases hf
              exact (FR.tr FR.rf (u_H_strikeNow (q := q25) c26) (by decide) (by decide))
            · replace hf := (if_neg c12).symm.trans hf
              cases hf
              exact FR.rf
theorem dX11_back_0 : decode cX11_back 0 = .ok (.iload_n 1, 1) := by decide +kernel
theorem dX11_back_1 : decode cX11_back 1 = .ok (.iconst 0, 1) := by decide +kernel
theorem dX11_back_2 : decode cX11_back 2 = .ok (.aload_n 0, 1) := by decide +kernel
theorem dX11_back_3 : decode cX11_back 3 = .ok (.getfield 42, 3) := by decide +kernel
theorem dX11_back_6 : decode cX11_back 6 = .ok (.getfield 73, 3) := by decide +kernel
theorem dX11_back_9 : decode cX11_back 9 = .ok (.invokestatic 91, 3) := by decide +kernel
theorem dX11_back_12 : decode cX11_back 12 = .ok (.ifCond .ne 5, 3) := by decide +kernel
theorem dX11_back_15 : decode cX11_back 15 = .ok (.iconst (-1), 1) := by decide +kernel
theorem dX11_back_16 : decode cX11_back 16 = .ok (.ireturn, 1) := by decide +kernel
theorem dX11_back_17 : decode cX11_back 17 = .ok (.aload_n 0, 1) := by decide +kernel
theorem dX11_back_18 : decode cX11_back 18 = .ok (.getfield 77, 3) := by decide +kernel
theorem dX11_back_21 : decode cX11_back 21 = .ok (.ifCond .ne 6, 3) := by decide +kernel
theorem dX11_back_24 : decode cX11_back 24 = .ok (.bipush (-2), 2) := by decide +kernel
theorem dX11_back_26 : decode cX11_back 26 = .ok (.ireturn, 1) := by decide +kernel
theorem dX11_back_27 : decode cX11_back 27 = .ok (.aload_n 0, 1) := by decide +kernel
theorem dX11_back_28 : decode cX11_back 28 = .ok (.invokevirtual 203, 3) := by decide +kernel
theorem dX11_back_31 : decode cX11_back 31 = .ok (.iconst 0, 1) := by decide +kernel
theorem dX11_back_32 : decode cX11_back 32 = .ok (.istore_n 2, 1) := by decide +kernel
theorem dX11_back_33 : decode cX11_back 33 = .ok (.iload_n 2, 1) := by decide +kernel
theorem dX11_back_34 : decode cX11_back 34 = .ok (.iload_n 1, 1) := by decide +kernel
theorem dX11_back_35 : decode cX11_back 35 = .ok (.if_icmp .ge 15, 3) := by decide +kernel
theorem dX11_back_38 : decode cX11_back 38 = .ok (.aload_n 0, 1) := by decide +kernel
theorem dX11_back_39 : decode cX11_back 39 = .ok (.iload_n 2, 1) := by decide +kernel
theorem dX11_back_40 : decode cX11_back 40 = .ok (.invokevirtual 206, 3) := by decide +kernel
theorem dX11_back_43 : decode cX11_back 43 = .ok (.pop, 1) := by decide +kernel
theorem dX11_back_44 : decode cX11_back 44 = .ok (.iinc 2 1, 3) := by decide +kernel
theorem dX11_back_47 : decode cX11_back 47 = .ok (.goto (-14), 3) := by decide +kernel
theorem dX11_back_50 : decode cX11_back 50 = .ok (.aload_n 0, 1) := by decide +kernel
theorem dX11_back_51 : decode cX11_back 51 = .ok (.getfield 42, 3) := by decide +kernel
theorem dX11_back_54 : decode cX11_back 54 = .ok (.iload_n 1, 1) := by decide +kernel
theorem dX11_back_55 : decode cX11_back 55 = .ok (.putfield 73, 3) := by decide +kernel
theorem dX11_back_58 : decode cX11_back 58 = .ok (.iconst 0, 1) := by decide +kernel
theorem dX11_back_59 : decode cX11_back 59 = .ok (.ireturn, 1) := by decide +kernel
def f_H_back_L33 (S : List xSh) (Rf : Nat → Nat → Option Nat) : Nat → Int32 → Int32 → (Nat → Nat → Int32) → (Nat → Nat → Int64) → Option (Int32 × (Nat → Nat → Int32) × (Nat → Nat → Int64))
  | 0, _, _, _, _ => none
  | n + 1, l1, l2, I, L => (if l1 ≤ l2 then (some ((0 : Int32), (uI I 15 3 l1), L)) else ((f_H_repeat S Rf l2 I L).bind fun q6 => (f_H_back_L33 S Rf n l1 (l2 + (1 : Int32)) q6.2.1 q6.2.2)))
set_option maxRecDepth 100000 in
set_option maxHeartbeats 4000000 in
theorem x_H_back_L33 {G : xG} {S : List xSh} {Rf : Nat → Nat → Option Nat} (hT : xTH S Rf) : ∀ (n : Nat) {l1 : Int32} {l2 : Int32} {I : Nat → Nat → Int32} {L : Nat → Nat → Int64} {q : (Int32 × (Nat → Nat → Int32) × (Nat → Nat → Int64))}, f_H_back_L33 S Rf n l1 l2 I L = some q → X G 7 m_H_back 33 [(0, .ref (xB G + 0)), (1, .int l1), (2, .int l2)] [] (S, I, L, Rf) (some (.int q.1), (S, q.2.1, q.2.2, Rf)) := by
  intro n
  induction n with
  | zero =>
    intro l1 l2 I L q hf
    exact absurd (show none = some q from hf) (by simp)
  | succ n ih =>
    intro l1 l2 I L q hf
    replace hf := (f_H_back_L33.eq_2 _ _ _ _ _ _ _).symm.trans hf
    refine X_iload_n (pc := 33) (i := 2) 2 dX11_back_33 rfl rfl ?_
    refine X_iload_n (pc := 34) (i := 1) 1 dX11_back_34 rfl rfl ?_
    by_cases c5 : l1 ≤ l2
    · replace hf := (if_pos c5).symm.trans hf
      refine X_icmp_ge_t (pc := 35) 50 dX11_back_35 (by decide) c5 ?_
      refine X_aload_n (pc := 50) (i := 0) 0 dX11_back_50 rfl rfl ?_
      refine X_getr (pc := 51) (a := 0) (ci := 10) (j := 5) (c := 15) (sh_0 hT) (by decide) k_382 (rf_0_5 hT) (fun _ h => h) dX11_back_51 ?_
      refine X_iload_n (pc := 54) (i := 1) 1 dX11_back_54 rfl rfl ?_
      refine X_puti (pc := 55) (a := 15) (ci := 7) (j := 3) false (sh_15 hT) (by decide) k_161 rfl (fun h => by cases h) rfl dX11_back_55 ?_
      refine X_iconst (pc := 58) (0 : Int32) dX11_back_58 (by decide) ?_
      cases hf
      exact X_ireturn (pc := 59) rfl dX11_back_59
    · replace hf := (if_neg c5).symm.trans hf
      refine X_icmp_ge_f (pc := 35) 50 dX11_back_35 (by decide) c5 ?_
      refine X_aload_n (pc := 38) (i := 0) 0 dX11_back_38 rfl rfl ?_
      refine X_iload_n (pc := 39) (i := 2) 2 dX11_back_39 rfl rfl ?_
      obtain ⟨q6, c7, hf⟩ := bd_some hf
      refine X_invV_i (pc := 40) (c_H_repeat hT c7) ok_H_repeat (ci := 10) (sh_0 hT) k_903 k_905 k_23 nd_8 (by decide) rfl (Nat.le_of_ble_eq_true rfl) dX11_back_40 ?_
      refine X_pop (pc := 43) dX11_back_43 rfl ?_
      refine X_iinc (pc := 44) (i := 2) (q := 2) (v := (l2 + (1 : Int32))) [(2, .int (l2 + (1 : Int32))), (0, .ref (xB G + 0)), (1, .int l1)] dX11_back_44 rfl rfl (by decide) rfl ?_
      refine X_goto (pc := 47) 33 dX11_back_47 (by decide) ?_
      exact X_lvs [1, 2, 0] rfl (ih hf)
theorem u_H_back_L33 {S : List xSh} {Rf : Nat → Nat → Option Nat} : ∀ (n : Nat) {l1 : Int32} {l2 : Int32} {I : Nat → Nat → Int32} {L : Nat → Nat → Int64} {q : (Int32 × (Nat → Nat → Int32) × (Nat → Nat → Int64))}, f_H_back_L33 S Rf n l1 l2 I L = some q → FR S [10, 14, 1108, 1109, 1110, 1111, 1112, 1113, 1114, 1903, 2303, 2503] [1107] I q.2.1 L q.2.2 := by
  intro n
  induction n with
  | zero =>
    intro l1 l2 I L q hf
    exact absurd (show none = some q from hf) (by simp)
  | succ n ih =>
    intro l1 l2 I L q hf
    replace hf := (f_H_back_L33.eq_2 _ _ _ _ _ _ _).symm.trans hf
    by_cases c5 : l1 ≤ l2
    · replace hf := (if_pos c5).symm.trans hf
      cases hf
      exact (FR.fi FR.rf (by decide))
    · replace hf := (if_neg c5).symm.trans hf
      obtain ⟨q6, c7, hf⟩ := bd_some hf
      exact FR.tr (FR.tr FR.rf (u_H_repeat (q := q6) c7) (by decide) (by decide)) (ih hf) (by decide) (by decide)
def f_H_back (S : List xSh) (Rf : Nat → Nat → Option Nat) (a0 : Int32) (I : Nat → Nat → Int32) (L : Nat → Nat → Int64) : Option (Int32 × (Nat → Nat → Int32) × (Nat → Nat → Int64)) := (if (f_H_isWithin a0 (0 : Int32) (I 15 3)) = (0 : Int32) then (some ((-1 : Int32), I, L)) else (if (I 0 8) = (0 : Int32) then (some ((-2 : Int32), I, L)) else ((f_H_restartMovement S Rf I L).bind fun q3 => (f_H_back_L33 S Rf xF a0 (0 : Int32) q3.1 q3.2))))
set_option maxRecDepth 100000 in
set_option maxHeartbeats 4000000 in
theorem c_H_back {G : xG} {S : List xSh} {Rf : Nat → Nat → Option Nat} (hT : xTH S Rf) {a0 : Int32} {I : Nat → Nat → Int32} {L : Nat → Nat → Int64} {q : (Int32 × (Nat → Nat → Int32) × (Nat → Nat → Int64))} (hf : f_H_back S Rf a0 I L = some q) : CT G 7 m_H_back [.ref (xB G + 0), .int a0] (S, I, L, Rf) (some (.int q.1), (S, q.2.1, q.2.2, Rf)) := by
  refine CT.of (by decide +kernel) (Nat.le_of_ble_eq_true rfl) ?_
  show X G 7 m_H_back 0 [(0, .ref (xB G + 0)), (1, .int a0)] [] (S, I, L, Rf) (some (.int q.1), (S, q.2.1, q.2.2, Rf))
  replace hf := (f_H_back.eq_1 _ _ _ _ _).symm.trans hf
  refine X_iload_n (pc := 0) (i := 1) 1 dX11_back_0 rfl rfl ?_
  refine X_iconst (pc := 1) (0 : Int32) dX11_back_1 (by decide) ?_
  refine X_aload_n (pc := 2) (i := 0) 0 dX11_back_2 rfl rfl ?_
  refine X_getr (pc := 3) (a := 0) (ci := 10) (j := 5) (c := 15) (sh_0 hT) (by decide) k_382 (rf_0_5 hT) (fun _ h => h) dX11_back_3 ?_
  refine X_get (pc := 6) (a := 15) (ci := 7) (j := 3) (.int (I 15 3)) (sh_15 hT) (by decide) k_161 rfl dX11_back_6 ?_
  refine X_invS_i (pc := 9) (c_H_isWithin hT rfl) ok_H_isWithin k_437 k_438 nd_6 (by decide) rfl (Nat.le_of_ble_eq_true rfl) dX11_back_9 ?_
  by_cases c1 : (f_H_isWithin a0 (0 : Int32) (I 15 3)) = (0 : Int32)
  · replace hf := (if_pos c1).symm.trans hf
    refine X_if_ne_f (pc := 12) 17 dX11_back_12 (by decide) c1 ?_
    refine X_iconst (pc := 15) (-1 : Int32) dX11_back_15 (by decide) ?_
    cases hf
    exact X_ireturn (pc := 16) rfl dX11_back_16
  · replace hf := (if_neg c1).symm.trans hf
    refine X_if_ne_t (pc := 12) 17 dX11_back_12 (by decide) c1 ?_
    refine X_aload_n (pc := 17) (i := 0) 0 dX11_back_17 rfl rfl ?_
    refine X_get (pc := 18) (a := 0) (ci := 10) (j := 8) (.int (I 0 8)) (sh_0 hT) (by decide) k_385 rfl dX11_back_18 ?_
    by_cases c2 : (I 0 8) = (0 : Int32)
    · replace hf := (if_pos c2).symm.trans hf
      refine X_if_ne_f (pc := 21) 27 dX11_back_21 (by decide) c2 ?_
      refine X_bipush (pc := 24) (-2 : Int32) dX11_back_24 (by decide) ?_
      cases hf
      exact X_ireturn (pc := 26) rfl dX11_back_26
    · replace hf := (if_neg c2).symm.trans hf
      refine X_if_ne_t (pc := 21) 27 dX11_back_21 (by decide) c2 ?_
      refine X_aload_n (pc := 27) (i := 0) 0 dX11_back_27 rfl rfl ?_
      obtain ⟨q3, c4, hf⟩ := bd_some hf
      refine X_invV_v (pc := 28) (c_H_restartMovement hT c4) ok_H_restartMovement (ci := 10) (sh_0 hT) k_894 k_896 k_22 nd_1 (by decide) rfl (Nat.le_of_ble_eq_true rfl) dX11_back_28 ?_
      refine X_iconst (pc := 31) (0 : Int32) dX11_back_31 (by decide) ?_
      refine X_istore_n (pc := 32) (i := 2) [(2, .int (0 : Int32)), (0, .ref (xB G + 0)), (1, .int a0)] dX11_back_32 rfl (by decide) rfl ?_
      exact X_lvs [1, 2, 0] rfl (x_H_back_L33 hT xF hf)
theorem u_H_back {S : List xSh} {Rf : Nat → Nat → Option Nat} {a0 : Int32} {I : Nat → Nat → Int32} {L : Nat → Nat → Int64} {q : (Int32 × (Nat → Nat → Int32) × (Nat → Nat → Int64))} (hf : f_H_back S Rf a0 I L = some q) : FR S [10, 14, 1108, 1109, 1110, 1111, 1112, 1113, 1114, 1903, 2303, 2503] [1107] I q.2.1 L q.2.2 := by
  replace hf := (f_H_back.eq_1 _ _ _ _ _).symm.trans hf
  by_cases c1 : (f_H_isWithin a0 (0 : Int32) (I 15 3)) = (0 : Int32)
  · replace hf := (if_pos c1).symm.trans hf
    cases hf
    exact FR.rf
  · replace hf := (if_neg c1).symm.trans hf
    by_cases c2 : (I 0 8) = (0 : Int32)
    · replace hf := (if_pos c2).symm.trans hf
      cases hf
      exact FR.rf
    · replace hf := (if_neg c2).symm.trans hf
      obtain ⟨q3, c4, hf⟩ := bd_some hf
      exact FR.tr (FR.tr FR.rf (u_H_restartMovement (q := q3) c4) (by decide) (by decide)) (u_H_back_L33 xF hf) (by decide) (by decide)
theorem dX11_speed_0 : decode cX11_speed 0 = .ok (.aload_n 0, 1) := by decide +kernel
theorem dX11_speed_1 : decode cX11_speed 1 = .ok (.getfield 20, 3) := by decide +kernel
theorem dX11_speed_4 : decode cX11_speed 4 = .ok (.iload_n 1, 1) := by decide +kernel
theorem dX11_speed_5 : decode cX11_speed 5 = .ok (.invokevirtual 87, 3) := by decide +kernel
theorem dX11_speed_8 : decode cX11_speed 8 = .ok (.ifCond .ne 7, 3) := by decide +kernel
theorem dX11_speed_11 : decode cX11_speed 11 = .ok (.ldc2_w 209, 3) := by decide +kernel
theorem dX11_speed_14 : decode cX11_speed 14 = .ok (.lreturn, 1) := by decide +kernel
theorem dX11_speed_15 : decode cX11_speed 15 = .ok (.iload_n 2, 1) := by decide +kernel
theorem dX11_speed_16 : decode cX11_speed 16 = .ok (.tableswitch 65 0 2 #[28, 38, 48], 28) := by decide +kernel
theorem dX11_speed_44 : decode cX11_speed 44 = .ok (.aload_n 0, 1) := by decide +kernel
theorem dX11_speed_45 : decode cX11_speed 45 = .ok (.getfield 20, 3) := by decide +kernel
theorem dX11_speed_48 : decode cX11_speed 48 = .ok (.getfield 211, 3) := by decide +kernel
theorem dX11_speed_51 : decode cX11_speed 51 = .ok (.iload_n 1, 1) := by decide +kernel
theorem dX11_speed_52 : decode cX11_speed 52 = .ok (.laload, 1) := by decide +kernel
theorem dX11_speed_53 : decode cX11_speed 53 = .ok (.lreturn, 1) := by decide +kernel
theorem dX11_speed_54 : decode cX11_speed 54 = .ok (.aload_n 0, 1) := by decide +kernel
theorem dX11_speed_55 : decode cX11_speed 55 = .ok (.getfield 20, 3) := by decide +kernel
theorem dX11_speed_58 : decode cX11_speed 58 = .ok (.getfield 215, 3) := by decide +kernel
theorem dX11_speed_61 : decode cX11_speed 61 = .ok (.iload_n 1, 1) := by decide +kernel
theorem dX11_speed_62 : decode cX11_speed 62 = .ok (.laload, 1) := by decide +kernel
theorem dX11_speed_63 : decode cX11_speed 63 = .ok (.lreturn, 1) := by decide +kernel
theorem dX11_speed_64 : decode cX11_speed 64 = .ok (.aload_n 0, 1) := by decide +kernel
theorem dX11_speed_65 : decode cX11_speed 65 = .ok (.getfield 20, 3) := by decide +kernel
theorem dX11_speed_68 : decode cX11_speed 68 = .ok (.iload_n 1, 1) := by decide +kernel
theorem dX11_speed_69 : decode cX11_speed 69 = .ok (.aload_n 0, 1) := by decide +kernel
theorem dX11_speed_70 : decode cX11_speed 70 = .ok (.getfield 10, 3) := by decide +kernel
theorem dX11_speed_73 : decode cX11_speed 73 = .ok (.getfield 218, 3) := by decide +kernel
theorem dX11_speed_76 : decode cX11_speed 76 = .ok (.iconst 1, 1) := by decide +kernel
theorem dX11_speed_77 : decode cX11_speed 77 = .ok (.invokevirtual 221, 3) := by decide +kernel
theorem dX11_speed_80 : decode cX11_speed 80 = .ok (.lreturn, 1) := by decide +kernel
theorem dX11_speed_81 : decode cX11_speed 81 = .ok (.ldc2_w 209, 3) := by decide +kernel
theorem dX11_speed_84 : decode cX11_speed 84 = .ok (.lreturn, 1) := by decide +kernel
def f_H_speed (a0 : Int32) (a1 : Int32) (I : Nat → Nat → Int32) (L : Nat → Nat → Int64) : Option Int64 := (if (f_Ge_hasArbor a0 I L) = (0 : Int32) then (some (-9999999 : Int64)) else (if a1 = (0 : Int32) then (if (0 ≤ a0 ∧ a0 < (24 : Int32)) then (some (L 3 (a0.toNatClampNeg))) else none) else (if a1 = (1 : Int32) then (if (0 ≤ a0 ∧ a0 < (24 : Int32)) then (some (L 4 (a0.toNatClampNeg))) else none) else (if a1 = (2 : Int32) then ((f_Ge_turned a0 (I 1 12) (1 : Int32) I L).bind fun q7 => (some q7)) else (some (-9999999 : Int64))))))
set_option maxRecDepth 100000 in
set_option maxHeartbeats 4000000 in
theorem c_H_speed {G : xG} {S : List xSh} {Rf : Nat → Nat → Option Nat} (hT : xTH S Rf) {a0 : Int32} {a1 : Int32} {I : Nat → Nat → Int32} {L : Nat → Nat → Int64} {q : Int64} (hf : f_H_speed a0 a1 I L = some q) : CT G 2 m_H_speed [.ref (xB G + 0), .int a0, .int a1] (S, I, L, Rf) (some (.long q), (S, I, L, Rf)) := by
  refine CT.of (by decide +kernel) (Nat.le_of_ble_eq_true rfl) ?_
  show X G 2 m_H_speed 0 [(0, .ref (xB G + 0)), (1, .int a0), (2, .int a1)] [] (S, I, L, Rf) (some (.long q), (S, I, L, Rf))
  replace hf := (f_H_speed.eq_1 _ _ _ _).symm.trans hf
  refine X_aload_n (pc := 0) (i := 0) 0 dX11_speed_0 rfl rfl ?_
  refine X_getr (pc := 1) (a := 0) (ci := 10) (j := 1) (c := 2) (sh_0 hT) (by decide) k_378 (rf_0_1 hT) (fun _ h => h) dX11_speed_1 ?_
  refine X_iload_n (pc := 4) (i := 1) 1 dX11_speed_4 rfl rfl ?_
  refine X_invV_i (pc := 5) (c_Ge_hasArbor hT rfl) ok_Ge_hasArbor (ci := 6) (sh_2 hT) k_433 k_434 k_435 nd_5 (by decide) rfl (Nat.le_of_ble_eq_true rfl) dX11_speed_5 ?_
  by_cases c1 : (f_Ge_hasArbor a0 I L) = (0 : Int32)
  · replace hf := (if_pos c1).symm.trans hf
    refine X_if_ne_f (pc := 8) 15 dX11_speed_8 (by decide) c1 ?_
    refine X_ldc2 (pc := 11) (-9999999 : Int64) k_923 dX11_speed_11 ?_
    cases hf
    exact X_lreturn (pc := 14) rfl dX11_speed_14
  · replace hf := (if_neg c1).symm.trans hf
    refine X_if_ne_t (pc := 8) 15 dX11_speed_8 (by decide) c1 ?_
    refine X_iload_n (pc := 15) (i := 2) 2 dX11_speed_15 rfl rfl ?_
    by_cases c2 : a1 = (0 : Int32)
    · replace hf := (if_pos c2).symm.trans hf
      refine X_tabIn (pc := 16) (off := 28) (0) 44 dX11_speed_16 (by rw [c2]; rfl) (by decide) ?_
      refine X_aload_n (pc := 44) (i := 0) 0 dX11_speed_44 rfl rfl ?_
      refine X_getr (pc := 45) (a := 0) (ci := 10) (j := 1) (c := 2) (sh_0 hT) (by decide) k_378 (rf_0_1 hT) (fun _ h => h) dX11_speed_45 ?_
      refine X_getr (pc := 48) (a := 2) (ci := 6) (j := 5) (c := 3) (sh_2 hT) (by decide) k_116 (rf_2_5 hT) (fun _ h => h) dX11_speed_48 ?_
      refine X_iload_n (pc := 51) (i := 1) 1 dX11_speed_51 rfl rfl ?_
      obtain ⟨c5, hf⟩ := gd_some hf
      refine X_laldj (pc := 52) (j := a0.toNatClampNeg) (L 3 (a0.toNatClampNeg)) (sh_3 hT) (vp_in_lit (N := 24) c5 (by decide)) rfl rfl dX11_speed_52 ?_
      cases hf
      exact X_lreturn (pc := 53) rfl dX11_speed_53
    · replace hf := (if_neg c2).symm.trans hf
      by_cases c3 : a1 = (1 : Int32)
      · replace hf := (if_pos c3).symm.trans hf
        refine X_tabIn (pc := 16) (off := 38) (1) 54 dX11_speed_16 (by rw [c3]; rfl) (by decide) ?_
        refine X_aload_n (pc := 54) (i := 0) 0 dX11_speed_54 rfl rfl ?_
        refine X_getr (pc := 55) (a := 0) (ci := 10) (j := 1) (c := 2) (sh_0 hT) (by decide) k_378 (rf_0_1 hT) (fun _ h => h) dX11_speed_55 ?_
        refine X_getr (pc := 58) (a := 2) (ci := 6) (j := 6) (c := 4) (sh_2 hT) (by decide) k_118 (rf_2_6 hT) (fun _ h => h) dX11_speed_58 ?_
        refine X_iload_n (pc := 61) (i := 1) 1 dX11_speed_61 rfl rfl ?_
        obtain ⟨c6, hf⟩ := gd_some hf
        refine X_laldj (pc := 62) (j := a0.toNatClampNeg) (L 4 (a0.toNatClampNeg)) (sh_4 hT) (vp_in_lit (N := 24) c6 (by decide)) rfl rfl dX11_speed_62 ?_
        cases hf
        exact X_lreturn (pc := 63) rfl dX11_speed_63
      · replace hf := (if_neg c3).symm.trans hf
        by_cases c4 : a1 = (2 : Int32)
        · replace hf := (if_pos c4).symm.trans hf
          refine X_tabIn (pc := 16) (off := 48) (2) 64 dX11_speed_16 (by rw [c4]; rfl) (by decide) ?_
          refine X_aload_n (pc := 64) (i := 0) 0 dX11_speed_64 rfl rfl ?_
          refine X_getr (pc := 65) (a := 0) (ci := 10) (j := 1) (c := 2) (sh_0 hT) (by decide) k_378 (rf_0_1 hT) (fun _ h => h) dX11_speed_65 ?_
          refine X_iload_n (pc := 68) (i := 1) 1 dX11_speed_68 rfl rfl ?_
          refine X_aload_n (pc := 69) (i := 0) 0 dX11_speed_69 rfl rfl ?_
          refine X_getr (pc := 70) (a := 0) (ci := 10) (j := 0) (c := 1) (sh_0 hT) (by decide) k_377 (rf_0_0 hT) (fun _ h => h) dX11_speed_70 ?_
          refine X_get (pc := 73) (a := 1) (ci := 5) (j := 12) (.int (I 1 12)) (sh_1 hT) (by decide) k_192 rfl dX11_speed_73 ?_
          refine X_iconst (pc := 76) (1 : Int32) dX11_speed_76 (by decide) ?_
          obtain ⟨q7, c8, hf⟩ := bd_some hf
          refine X_invV_l (pc := 77) (c_Ge_turned hT c8) ok_Ge_turned (ci := 6) (sh_2 hT) k_762 k_739 k_740 nd_20 (by decide) rfl (Nat.le_of_ble_eq_true rfl) dX11_speed_77 ?_
          cases hf
          exact X_lreturn (pc := 80) rfl dX11_speed_80
        · replace hf := (if_neg c4).symm.trans hf
          refine X_tabOut (pc := 16) 81 dX11_speed_16 (by have zc2 := lv_neT (a := 0) c2 rfl; have zc3 := lv_neT (a := 1) c3 rfl; have zc4 := lv_neT (a := 2) c4 rfl; omega) (by decide) ?_
          refine X_ldc2 (pc := 81) (-9999999 : Int64) k_923 dX11_speed_81 ?_
          cases hf
          exact X_lreturn (pc := 84) rfl dX11_speed_84
theorem dX11_state_0 : decode cX11_state 0 = .ok (.iload_n 1, 1) := by decide +kernel
theorem dX11_state_1 : decode cX11_state 1 = .ok (.tableswitch 151 0 9 #[55, 64, 73, 82, 91, 100, 109, 117, 126, 135], 55) := by decide +kernel
theorem dX11_state_56 : decode cX11_state 56 = .ok (.aload_n 0, 1) := by decide +kernel
theorem dX11_state_57 : decode cX11_state 57 = .ok (.getfield 10, 3) := by decide +kernel
theorem dX11_state_60 : decode cX11_state 60 = .ok (.getfield 218, 3) := by decide +kernel
theorem dX11_state_63 : decode cX11_state 63 = .ok (.i2l, 1) := by decide +kernel
theorem dX11_state_64 : decode cX11_state 64 = .ok (.lreturn, 1) := by decide +kernel
theorem dX11_state_65 : decode cX11_state 65 = .ok (.aload_n 0, 1) := by decide +kernel
theorem dX11_state_66 : decode cX11_state 66 = .ok (.getfield 10, 3) := by decide +kernel
theorem dX11_state_69 : decode cX11_state 69 = .ok (.getfield 153, 3) := by decide +kernel
theorem dX11_state_72 : decode cX11_state 72 = .ok (.i2l, 1) := by decide +kernel
theorem dX11_state_73 : decode cX11_state 73 = .ok (.lreturn, 1) := by decide +kernel
theorem dX11_state_74 : decode cX11_state 74 = .ok (.aload_n 0, 1) := by decide +kernel
theorem dX11_state_75 : decode cX11_state 75 = .ok (.getfield 10, 3) := by decide +kernel
theorem dX11_state_78 : decode cX11_state 78 = .ok (.getfield 225, 3) := by decide +kernel
theorem dX11_state_81 : decode cX11_state 81 = .ok (.i2l, 1) := by decide +kernel
theorem dX11_state_82 : decode cX11_state 82 = .ok (.lreturn, 1) := by decide +kernel
theorem dX11_state_83 : decode cX11_state 83 = .ok (.aload_n 0, 1) := by decide +kernel
theorem dX11_state_84 : decode cX11_state 84 = .ok (.getfield 10, 3) := by decide +kernel
theorem dX11_state_87 : decode cX11_state 87 = .ok (.getfield 228, 3) := by decide +kernel
theorem dX11_state_90 : decode cX11_state 90 = .ok (.i2l, 1) := by decide +kernel
theorem dX11_state_91 : decode cX11_state 91 = .ok (.lreturn, 1) := by decide +kernel
theorem dX11_state_92 : decode cX11_state 92 = .ok (.aload_n 0, 1) := by decide +kernel
theorem dX11_state_93 : decode cX11_state 93 = .ok (.getfield 10, 3) := by decide +kernel
theorem dX11_state_96 : decode cX11_state 96 = .ok (.getfield 231, 3) := by decide +kernel
theorem dX11_state_99 : decode cX11_state 99 = .ok (.i2l, 1) := by decide +kernel
theorem dX11_state_100 : decode cX11_state 100 = .ok (.lreturn, 1) := by decide +kernel
theorem dX11_state_101 : decode cX11_state 101 = .ok (.aload_n 0, 1) := by decide +kernel
theorem dX11_state_102 : decode cX11_state 102 = .ok (.getfield 10, 3) := by decide +kernel
theorem dX11_state_105 : decode cX11_state 105 = .ok (.invokevirtual 234, 3) := by decide +kernel
theorem dX11_state_108 : decode cX11_state 108 = .ok (.i2l, 1) := by decide +kernel
theorem dX11_state_109 : decode cX11_state 109 = .ok (.lreturn, 1) := by decide +kernel
theorem dX11_state_110 : decode cX11_state 110 = .ok (.aload_n 0, 1) := by decide +kernel
theorem dX11_state_111 : decode cX11_state 111 = .ok (.getfield 10, 3) := by decide +kernel
theorem dX11_state_114 : decode cX11_state 114 = .ok (.invokevirtual 237, 3) := by decide +kernel
theorem dX11_state_117 : decode cX11_state 117 = .ok (.lreturn, 1) := by decide +kernel
theorem dX11_state_118 : decode cX11_state 118 = .ok (.aload_n 0, 1) := by decide +kernel
theorem dX11_state_119 : decode cX11_state 119 = .ok (.getfield 10, 3) := by decide +kernel
theorem dX11_state_122 : decode cX11_state 122 = .ok (.getfield 241, 3) := by decide +kernel
theorem dX11_state_125 : decode cX11_state 125 = .ok (.i2l, 1) := by decide +kernel
theorem dX11_state_126 : decode cX11_state 126 = .ok (.lreturn, 1) := by decide +kernel
theorem dX11_state_127 : decode cX11_state 127 = .ok (.aload_n 0, 1) := by decide +kernel
theorem dX11_state_128 : decode cX11_state 128 = .ok (.getfield 10, 3) := by decide +kernel
theorem dX11_state_131 : decode cX11_state 131 = .ok (.getfield 244, 3) := by decide +kernel
theorem dX11_state_134 : decode cX11_state 134 = .ok (.i2l, 1) := by decide +kernel
theorem dX11_state_135 : decode cX11_state 135 = .ok (.lreturn, 1) := by decide +kernel
theorem dX11_state_136 : decode cX11_state 136 = .ok (.aload_n 0, 1) := by decide +kernel
theorem dX11_state_137 : decode cX11_state 137 = .ok (.getfield 20, 3) := by decide +kernel
theorem dX11_state_140 : decode cX11_state 140 = .ok (.getfield 147, 3) := by decide +kernel
theorem dX11_state_143 : decode cX11_state 143 = .ok (.ifCond .eq 7, 3) := by decide +kernel
theorem dX11_state_146 : decode cX11_state 146 = .ok (.lconst 1, 1) := by decide +kernel
theorem dX11_state_147 : decode cX11_state 147 = .ok (.goto 4, 3) := by decide +kernel
theorem dX11_state_150 : decode cX11_state 150 = .ok (.lconst 0, 1) := by decide +kernel
theorem dX11_state_151 : decode cX11_state 151 = .ok (.lreturn, 1) := by decide +kernel
theorem dX11_state_152 : decode cX11_state 152 = .ok (.ldc2_w 209, 3) := by decide +kernel
theorem dX11_state_155 : decode cX11_state 155 = .ok (.lreturn, 1) := by decide +kernel
def f_H_state (a0 : Int32) (I : Nat → Nat → Int32) (L : Nat → Nat → Int64) : Option Int64 := (if a0 = (0 : Int32) then (some (Int32.toInt64 (I 1 12))) else (if a0 = (1 : Int32) then (some (Int32.toInt64 (I 1 11))) else (if a0 = (2 : Int32) then (some (Int32.toInt64 (I 1 8))) else (if a0 = (3 : Int32) then (some (Int32.toInt64 (I 1 9))) else (if a0 = (4 : Int32) then (some (Int32.toInt64 (I 1 10))) else (if a0 = (5 : Int32) then ((f_Es_torqueNow I L).bind fun q11 => (some (Int32.toInt64 q11))) else (if a0 = (6 : Int32) then ((f_Es_letDown I L).bind fun q13 => (some q13)) else (if a0 = (7 : Int32) then (some (Int32.toInt64 (I 1 13))) else (if a0 = (8 : Int32) then (some (Int32.toInt64 (I 1 14))) else (if a0 = (9 : Int32) then (if (I 2 4) = (0 : Int32) then (some (0 : Int64)) else (some (1 : Int64))) else (some (-9999999 : Int64))))))))))))
set_option maxRecDepth 100000 in
set_option maxHeartbeats 4000000 in
theorem c_H_state {G : xG} {S : List xSh} {Rf : Nat → Nat → Option Nat} (hT : xTH S Rf) {a0 : Int32} {I : Nat → Nat → Int32} {L : Nat → Nat → Int64} {q : Int64} (hf : f_H_state a0 I L = some q) : CT G 4 m_H_state [.ref (xB G + 0), .int a0] (S, I, L, Rf) (some (.long q), (S, I, L, Rf)) := by
  refine CT.of (by decide +kernel) (Nat.le_of_ble_eq_true rfl) ?_
  show X G 4 m_H_state 0 [(0, .ref (xB G + 0)), (1, .int a0)] [] (S, I, L, Rf) (some (.long q), (S, I, L, Rf))
  replace hf := (f_H_state.eq_1 _ _ _).symm.trans hf
  refine X_iload_n (pc := 0) (i := 1) 1 dX11_state_0 rfl rfl ?_
  by_cases c1 : a0 = (0 : Int32)
  · replace hf := (if_pos c1).symm.trans hf
    refine X_tabIn (pc := 1) (off := 55) (0) 56 dX11_state_1 (by rw [c1]; rfl) (by decide) ?_
    refine X_aload_n (pc := 56) (i := 0) 0 dX11_state_56 rfl rfl ?_
    refine X_getr (pc := 57) (a := 0) (ci := 10) (j := 0) (c := 1) (sh_0 hT) (by decide) k_377 (rf_0_0 hT) (fun _ h => h) dX11_state_57 ?_
    refine X_get (pc := 60) (a := 1) (ci := 5) (j := 12) (.int (I 1 12)) (sh_1 hT) (by decide) k_192 rfl dX11_state_60 ?_
    refine X_i2l (pc := 63) dX11_state_63 ?_
    cases hf
    exact X_lreturn (pc := 64) rfl dX11_state_64
  · replace hf := (if_neg c1).symm.trans hf
    by_cases c2 : a0 = (1 : Int32)
    · replace hf := (if_pos c2).symm.trans hf
      refine X_tabIn (pc := 1) (off := 64) (1) 65 dX11_state_1 (by rw [c2]; rfl) (by decide) ?_
      refine X_aload_n (pc := 65) (i := 0) 0 dX11_state_65 rfl rfl ?_
      refine X_getr (pc := 66) (a := 0) (ci := 10) (j := 0) (c := 1) (sh_0 hT) (by decide) k_377 (rf_0_0 hT) (fun _ h => h) dX11_state_66 ?_
      refine X_get (pc := 69) (a := 1) (ci := 5) (j := 11) (.int (I 1 11)) (sh_1 hT) (by decide) k_190 rfl dX11_state_69 ?_
      refine X_i2l (pc := 72) dX11_state_72 ?_
      cases hf
      exact X_lreturn (pc := 73) rfl dX11_state_73
    · replace hf := (if_neg c2).symm.trans hf
      by_cases c3 : a0 = (2 : Int32)
      · replace hf := (if_pos c3).symm.trans hf
        refine X_tabIn (pc := 1) (off := 73) (2) 74 dX11_state_1 (by rw [c3]; rfl) (by decide) ?_
        refine X_aload_n (pc := 74) (i := 0) 0 dX11_state_74 rfl rfl ?_
        refine X_getr (pc := 75) (a := 0) (ci := 10) (j := 0) (c := 1) (sh_0 hT) (by decide) k_377 (rf_0_0 hT) (fun _ h => h) dX11_state_75 ?_
        refine X_get (pc := 78) (a := 1) (ci := 5) (j := 8) (.int (I 1 8)) (sh_1 hT) (by decide) k_184 rfl dX11_state_78 ?_
        refine X_i2l (pc := 81) dX11_state_81 ?_
        cases hf
        exact X_lreturn (pc := 82) rfl dX11_state_82
      · replace hf := (if_neg c3).symm.trans hf
        by_cases c4 : a0 = (3 : Int32)
        · replace hf := (if_pos c4).symm.trans hf
          refine X_tabIn (pc := 1) (off := 82) (3) 83 dX11_state_1 (by rw [c4]; rfl) (by decide) ?_
          refine X_aload_n (pc := 83) (i := 0) 0 dX11_state_83 rfl rfl ?_
          refine X_getr (pc := 84) (a := 0) (ci := 10) (j := 0) (c := 1) (sh_0 hT) (by decide) k_377 (rf_0_0 hT) (fun _ h => h) dX11_state_84 ?_
          refine X_get (pc := 87) (a := 1) (ci := 5) (j := 9) (.int (I 1 9)) (sh_1 hT) (by decide) k_186 rfl dX11_state_87 ?_
          refine X_i2l (pc := 90) dX11_state_90 ?_
          cases hf
          exact X_lreturn (pc := 91) rfl dX11_state_91
        · replace hf := (if_neg c4).symm.trans hf
          by_cases c5 : a0 = (4 : Int32)
          · replace hf := (if_pos c5).symm.trans hf
            refine X_tabIn (pc := 1) (off := 91) (4) 92 dX11_state_1 (by rw [c5]; rfl) (by decide) ?_
            refine X_aload_n (pc := 92) (i := 0) 0 dX11_state_92 rfl rfl ?_
            refine X_getr (pc := 93) (a := 0) (ci := 10) (j := 0) (c := 1) (sh_0 hT) (by decide) k_377 (rf_0_0 hT) (fun _ h => h) dX11_state_93 ?_
            refine X_get (pc := 96) (a := 1) (ci := 5) (j := 10) (.int (I 1 10)) (sh_1 hT) (by decide) k_188 rfl dX11_state_96 ?_
            refine X_i2l (pc := 99) dX11_state_99 ?_
            cases hf
            exact X_lreturn (pc := 100) rfl dX11_state_100
          · replace hf := (if_neg c5).symm.trans hf
            by_cases c6 : a0 = (5 : Int32)
            · replace hf := (if_pos c6).symm.trans hf
              refine X_tabIn (pc := 1) (off := 100) (5) 101 dX11_state_1 (by rw [c6]; rfl) (by decide) ?_
              refine X_aload_n (pc := 101) (i := 0) 0 dX11_state_101 rfl rfl ?_
              refine X_getr (pc := 102) (a := 0) (ci := 10) (j := 0) (c := 1) (sh_0 hT) (by decide) k_377 (rf_0_0 hT) (fun _ h => h) dX11_state_102 ?_
              obtain ⟨q11, c12, hf⟩ := bd_some hf
              refine X_invV_i (pc := 105) (c_Es_torqueNow hT c12) ok_Es_torqueNow (ci := 5) (sh_1 hT) k_928 k_731 k_732 nd_4 (by decide) rfl (Nat.le_of_ble_eq_true rfl) dX11_state_105 ?_
              refine X_i2l (pc := 108) dX11_state_108 ?_
              cases hf
              exact X_lreturn (pc := 109) rfl dX11_state_109
            · replace hf := (if_neg c6).symm.trans hf
              by_cases c7 : a0 = (6 : Int32)
              · replace hf := (if_pos c7).symm.trans hf
                refine X_tabIn (pc := 1) (off := 109) (6) 110 dX11_state_1 (by rw [c7]; rfl) (by decide) ?_
                refine X_aload_n (pc := 110) (i := 0) 0 dX11_state_110 rfl rfl ?_
                refine X_getr (pc := 111) (a := 0) (ci := 10) (j := 0) (c := 1) (sh_0 hT) (by decide) k_377 (rf_0_0 hT) (fun _ h => h) dX11_state_111 ?_
                obtain ⟨q13, c14, hf⟩ := bd_some hf
                refine X_invV_l (pc := 114) (c_Es_letDown hT c14) ok_Es_letDown (ci := 5) (sh_1 hT) k_929 k_735 k_736 nd_21 (by decide) rfl (Nat.le_of_ble_eq_true rfl) dX11_state_114 ?_
                cases hf
                exact X_lreturn (pc := 117) rfl dX11_state_117
              · replace hf := (if_neg c7).symm.trans hf
                by_cases c8 : a0 = (7 : Int32)
                · replace hf := (if_pos c8).symm.trans hf
                  refine X_tabIn (pc := 1) (off := 117) (7) 118 dX11_state_1 (by rw [c8]; rfl) (by decide) ?_
                  refine X_aload_n (pc := 118) (i := 0) 0 dX11_state_118 rfl rfl ?_
                  refine X_getr (pc := 119) (a := 0) (ci := 10) (j := 0) (c := 1) (sh_0 hT) (by decide) k_377 (rf_0_0 hT) (fun _ h => h) dX11_state_119 ?_
                  refine X_get (pc := 122) (a := 1) (ci := 5) (j := 13) (.int (I 1 13)) (sh_1 hT) (by decide) k_194 rfl dX11_state_122 ?_
                  refine X_i2l (pc := 125) dX11_state_125 ?_
                  cases hf
                  exact X_lreturn (pc := 126) rfl dX11_state_126
                · replace hf := (if_neg c8).symm.trans hf
                  by_cases c9 : a0 = (8 : Int32)
                  · replace hf := (if_pos c9).symm.trans hf
                    refine X_tabIn (pc := 1) (off := 126) (8) 127 dX11_state_1 (by rw [c9]; rfl) (by decide) ?_
                    refine X_aload_n (pc := 127) (i := 0) 0 dX11_state_127 rfl rfl ?_
                    refine X_getr (pc := 128) (a := 0) (ci := 10) (j := 0) (c := 1) (sh_0 hT) (by decide) k_377 (rf_0_0 hT) (fun _ h => h) dX11_state_128 ?_
                    refine X_get (pc := 131) (a := 1) (ci := 5) (j := 14) (.int (I 1 14)) (sh_1 hT) (by decide) k_196 rfl dX11_state_131 ?_
                    refine X_i2l (pc := 134) dX11_state_134 ?_
                    cases hf
                    exact X_lreturn (pc := 135) rfl dX11_state_135
                  · replace hf := (if_neg c9).symm.trans hf
                    by_cases c10 : a0 = (9 : Int32)
                    · replace hf := (if_pos c10).symm.trans hf
                      refine X_tabIn (pc := 1) (off := 135) (9) 136 dX11_state_1 (by rw [c10]; rfl) (by decide) ?_
                      refine X_aload_n (pc := 136) (i := 0) 0 dX11_state_136 rfl rfl ?_
                      refine X_getr (pc := 137) (a := 0) (ci := 10) (j := 1) (c := 2) (sh_0 hT) (by decide) k_378 (rf_0_1 hT) (fun _ h => h) dX11_state_137 ?_
                      refine X_get (pc := 140) (a := 2) (ci := 6) (j := 4) (.int (I 2 4)) (sh_2 hT) (by decide) k_114 rfl dX11_state_140 ?_
                      by_cases c15 : (I 2 4) = (0 : Int32)
                      · replace hf := (if_pos c15).symm.trans hf
                        refine X_if_eq_t (pc := 143) 150 dX11_state_143 (by decide) c15 ?_
                        refine X_lconst (pc := 150) (0 : Int64) dX11_state_150 (by decide) ?_
                        cases hf
                        exact X_lreturn (pc := 151) rfl dX11_state_151
                      · replace hf := (if_neg c15).symm.trans hf
                        refine X_if_eq_f (pc := 143) 150 dX11_state_143 (by decide) c15 ?_
                        refine X_lconst (pc := 146) (1 : Int64) dX11_state_146 (by decide) ?_
                        refine X_goto (pc := 147) 151 dX11_state_147 (by decide) ?_
                        cases hf
                        exact X_lreturn (pc := 151) rfl dX11_state_151
                    · replace hf := (if_neg c10).symm.trans hf
                      refine X_tabOut (pc := 1) 152 dX11_state_1 (by have zc1 := lv_neT (a := 0) c1 rfl; have zc2 := lv_neT (a := 1) c2 rfl; have zc3 := lv_neT (a := 2) c3 rfl; have zc4 := lv_neT (a := 3) c4 rfl; have zc5 := lv_neT (a := 4) c5 rfl; have zc6 := lv_neT (a := 5) c6 rfl; have zc7 := lv_neT (a := 6) c7 rfl; have zc8 := lv_neT (a := 7) c8 rfl; have zc9 := lv_neT (a := 8) c9 rfl; have zc10 := lv_neT (a := 9) c10 rfl; omega) (by decide) ?_
                      refine X_ldc2 (pc := 152) (-9999999 : Int64) k_923 dX11_state_152 ?_
                      cases hf
                      exact X_lreturn (pc := 155) rfl dX11_state_155
def f_Ro_has_9 (a0 : Int32) (a1 : Int32) (I : Nat → Nat → Int32) (L : Nat → Nat → Int64) : Int32 := (if a0 < (0 : Int32) then (0 : Int32) else (if (I 9 1) ≤ a0 then (0 : Int32) else (if (I 9 3) ≤ a0 then (0 : Int32) else (if a1 < (0 : Int32) then (0 : Int32) else (if (I 9 0) ≤ a1 then (0 : Int32) else (1 : Int32))))))
set_option maxRecDepth 100000 in
set_option maxHeartbeats 4000000 in
theorem c_Ro_has_9 {G : xG} {S : List xSh} {Rf : Nat → Nat → Option Nat} (hT : xTH S Rf) {a0 : Int32} {a1 : Int32} {I : Nat → Nat → Int32} {L : Nat → Nat → Int64} {q : Int32} (hf : f_Ro_has_9 a0 a1 I L = q) : CT G 1 m_Ro_has [.ref (xB G + 9), .int a0, .int a1] (S, I, L, Rf) (some (.int q), (S, I, L, Rf)) := by
  refine CT.of (by decide +kernel) (Nat.le_of_ble_eq_true rfl) ?_
  show X G 1 m_Ro_has 0 [(0, .ref (xB G + 9)), (1, .int a0), (2, .int a1)] [] (S, I, L, Rf) (some (.int q), (S, I, L, Rf))
  replace hf := (f_Ro_has_9.eq_1 _ _ _ _).symm.trans hf
  refine X_iload_n (pc := 0) (i := 1) 1 dX7_has_0 rfl rfl ?_
  by_cases c1 : a0 < (0 : Int32)
  · replace hf := (if_pos c1).symm.trans hf
    refine X_if_lt_t (pc := 1) 36 dX7_has_1 (by decide) c1 ?_
    refine X_iconst (pc := 36) (0 : Int32) dX7_has_36 (by decide) ?_
    subst hf
    exact X_zreturn (pc := 37) rfl (nar_b (by decide)) dX7_has_37
  · replace hf := (if_neg c1).symm.trans hf
    refine X_if_lt_f (pc := 1) 36 dX7_has_1 (by decide) c1 ?_
    refine X_iload_n (pc := 4) (i := 1) 1 dX7_has_4 rfl rfl ?_
    refine X_aload_n (pc := 5) (i := 0) 0 dX7_has_5 rfl rfl ?_
    refine X_get (pc := 6) (a := 9) (ci := 7) (j := 1) (.int (I 9 1)) (sh_9 hT) (by decide) k_158 rfl dX7_has_6 ?_
    by_cases c2 : (I 9 1) ≤ a0
    · replace hf := (if_pos c2).symm.trans hf
      refine X_icmp_ge_t (pc := 9) 36 dX7_has_9 (by decide) c2 ?_
      refine X_iconst (pc := 36) (0 : Int32) dX7_has_36 (by decide) ?_
      subst hf
      exact X_zreturn (pc := 37) rfl (nar_b (by decide)) dX7_has_37
    · replace hf := (if_neg c2).symm.trans hf
      refine X_icmp_ge_f (pc := 9) 36 dX7_has_9 (by decide) c2 ?_
      refine X_iload_n (pc := 12) (i := 1) 1 dX7_has_12 rfl rfl ?_
      refine X_aload_n (pc := 13) (i := 0) 0 dX7_has_13 rfl rfl ?_
      refine X_get (pc := 14) (a := 9) (ci := 7) (j := 3) (.int (I 9 3)) (sh_9 hT) (by decide) k_160 rfl dX7_has_14 ?_
      by_cases c3 : (I 9 3) ≤ a0
      · replace hf := (if_pos c3).symm.trans hf
        refine X_icmp_ge_t (pc := 17) 36 dX7_has_17 (by decide) c3 ?_
        refine X_iconst (pc := 36) (0 : Int32) dX7_has_36 (by decide) ?_
        subst hf
        exact X_zreturn (pc := 37) rfl (nar_b (by decide)) dX7_has_37
      · replace hf := (if_neg c3).symm.trans hf
        refine X_icmp_ge_f (pc := 17) 36 dX7_has_17 (by decide) c3 ?_
        refine X_iload_n (pc := 20) (i := 2) 2 dX7_has_20 rfl rfl ?_
        by_cases c4 : a1 < (0 : Int32)
        · replace hf := (if_pos c4).symm.trans hf
          refine X_if_lt_t (pc := 21) 36 dX7_has_21 (by decide) c4 ?_
          refine X_iconst (pc := 36) (0 : Int32) dX7_has_36 (by decide) ?_
          subst hf
          exact X_zreturn (pc := 37) rfl (nar_b (by decide)) dX7_has_37
        · replace hf := (if_neg c4).symm.trans hf
          refine X_if_lt_f (pc := 21) 36 dX7_has_21 (by decide) c4 ?_
          refine X_iload_n (pc := 24) (i := 2) 2 dX7_has_24 rfl rfl ?_
          refine X_aload_n (pc := 25) (i := 0) 0 dX7_has_25 rfl rfl ?_
          refine X_get (pc := 26) (a := 9) (ci := 7) (j := 0) (.int (I 9 0)) (sh_9 hT) (by decide) k_157 rfl dX7_has_26 ?_
          by_cases c5 : (I 9 0) ≤ a1
          · replace hf := (if_pos c5).symm.trans hf
            refine X_icmp_ge_t (pc := 29) 36 dX7_has_29 (by decide) c5 ?_
            refine X_iconst (pc := 36) (0 : Int32) dX7_has_36 (by decide) ?_
            subst hf
            exact X_zreturn (pc := 37) rfl (nar_b (by decide)) dX7_has_37
          · replace hf := (if_neg c5).symm.trans hf
            refine X_icmp_ge_f (pc := 29) 36 dX7_has_29 (by decide) c5 ?_
            refine X_iconst (pc := 32) (1 : Int32) dX7_has_32 (by decide) ?_
            refine X_goto (pc := 33) 37 dX7_has_33 (by decide) ?_
            subst hf
            exact X_zreturn (pc := 37) rfl (nar_b (by decide)) dX7_has_37
def f_Ro_at_9 (a0 : Int32) (a1 : Int32) (I : Nat → Nat → Int32) (L : Nat → Nat → Int64) : Option Int32 := (if (f_Ro_has_9 a0 a1 I L) = (0 : Int32) then (some (-1 : Int32)) else (if (0 ≤ ((a0 * (I 9 0)) + a1) ∧ ((a0 * (I 9 0)) + a1) < (6000 : Int32)) then (some (I 10 (((a0 * (I 9 0)) + a1).toNatClampNeg))) else none))
set_option maxRecDepth 100000 in
set_option maxHeartbeats 4000000 in
theorem c_Ro_at_9 {G : xG} {S : List xSh} {Rf : Nat → Nat → Option Nat} (hT : xTH S Rf) {a0 : Int32} {a1 : Int32} {I : Nat → Nat → Int32} {L : Nat → Nat → Int64} {q : Int32} (hf : f_Ro_at_9 a0 a1 I L = some q) : CT G 2 m_Ro_at [.ref (xB G + 9), .int a0, .int a1] (S, I, L, Rf) (some (.int q), (S, I, L, Rf)) := by
  refine CT.of (by decide +kernel) (Nat.le_of_ble_eq_true rfl) ?_
  show X G 2 m_Ro_at 0 [(0, .ref (xB G + 9)), (1, .int a0), (2, .int a1)] [] (S, I, L, Rf) (some (.int q), (S, I, L, Rf))
  replace hf := (f_Ro_at_9.eq_1 _ _ _ _).symm.trans hf
  refine X_aload_n (pc := 0) (i := 0) 0 dX7_at_0 rfl rfl ?_
  refine X_iload_n (pc := 1) (i := 1) 1 dX7_at_1 rfl rfl ?_
  refine X_iload_n (pc := 2) (i := 2) 2 dX7_at_2 rfl rfl ?_
  refine X_invV_i (pc := 3) (c_Ro_has_9 hT rfl) ok_Ro_has (ci := 7) (sh_9 hT) k_911 k_912 k_913 nd_25 (by decide) rfl (Nat.le_of_ble_eq_true rfl) dX7_at_3 ?_
  by_cases c1 : (f_Ro_has_9 a0 a1 I L) = (0 : Int32)
  · replace hf := (if_pos c1).symm.trans hf
    refine X_if_eq_t (pc := 6) 25 dX7_at_6 (by decide) c1 ?_
    refine X_iconst (pc := 25) (-1 : Int32) dX7_at_25 (by decide) ?_
    cases hf
    exact X_ireturn (pc := 26) rfl dX7_at_26
  · replace hf := (if_neg c1).symm.trans hf
    refine X_if_eq_f (pc := 6) 25 dX7_at_6 (by decide) c1 ?_
    refine X_aload_n (pc := 9) (i := 0) 0 dX7_at_9 rfl rfl ?_
    refine X_getr (pc := 10) (a := 9) (ci := 7) (j := 2) (c := 10) (sh_9 hT) (by decide) k_159 (rf_9_2 hT) (fun _ h => h) dX7_at_10 ?_
    refine X_iload_n (pc := 13) (i := 1) 1 dX7_at_13 rfl rfl ?_
    refine X_aload_n (pc := 14) (i := 0) 0 dX7_at_14 rfl rfl ?_
    refine X_get (pc := 15) (a := 9) (ci := 7) (j := 0) (.int (I 9 0)) (sh_9 hT) (by decide) k_157 rfl dX7_at_15 ?_
    refine X_imul (pc := 18) dX7_at_18 ?_
    refine X_iload_n (pc := 19) (i := 2) 2 dX7_at_19 rfl rfl ?_
    refine X_iadd (pc := 20) dX7_at_20 ?_
    obtain ⟨c2, hf⟩ := gd_some hf
    refine X_ialdj (pc := 21) (j := ((a0 * (I 9 0)) + a1).toNatClampNeg) (I 10 (((a0 * (I 9 0)) + a1).toNatClampNeg)) (sh_10 hT) (vp_in_lit (N := 6000) c2 (by decide)) rfl rfl dX7_at_21 ?_
    refine X_goto (pc := 22) 26 dX7_at_22 (by decide) ?_
    cases hf
    exact X_ireturn (pc := 26) rfl dX7_at_26
theorem dX11_tick_0 : decode cX11_tick 0 = .ok (.aload_n 0, 1) := by decide +kernel
theorem dX11_tick_1 : decode cX11_tick 1 = .ok (.getfield 10, 3) := by decide +kernel
theorem dX11_tick_4 : decode cX11_tick 4 = .ok (.getfield 247, 3) := by decide +kernel
theorem dX11_tick_7 : decode cX11_tick 7 = .ok (.iload_n 1, 1) := by decide +kernel
theorem dX11_tick_8 : decode cX11_tick 8 = .ok (.iload_n 2, 1) := by decide +kernel
theorem dX11_tick_9 : decode cX11_tick 9 = .ok (.invokevirtual 250, 3) := by decide +kernel
theorem dX11_tick_12 : decode cX11_tick 12 = .ok (.ifCond .eq 18, 3) := by decide +kernel
theorem dX11_tick_15 : decode cX11_tick 15 = .ok (.aload_n 0, 1) := by decide +kernel
theorem dX11_tick_16 : decode cX11_tick 16 = .ok (.getfield 10, 3) := by decide +kernel
theorem dX11_tick_19 : decode cX11_tick 19 = .ok (.getfield 247, 3) := by decide +kernel
theorem dX11_tick_22 : decode cX11_tick 22 = .ok (.iload_n 1, 1) := by decide +kernel
theorem dX11_tick_23 : decode cX11_tick 23 = .ok (.iload_n 2, 1) := by decide +kernel
theorem dX11_tick_24 : decode cX11_tick 24 = .ok (.invokevirtual 253, 3) := by decide +kernel
theorem dX11_tick_27 : decode cX11_tick 27 = .ok (.goto 4, 3) := by decide +kernel
theorem dX11_tick_30 : decode cX11_tick 30 = .ok (.iconst (-1), 1) := by decide +kernel
theorem dX11_tick_31 : decode cX11_tick 31 = .ok (.ireturn, 1) := by decide +kernel
def f_H_tick (a0 : Int32) (a1 : Int32) (I : Nat → Nat → Int32) (L : Nat → Nat → Int64) : Option Int32 := (if (f_Ro_has_9 a0 a1 I L) = (0 : Int32) then (some (-1 : Int32)) else ((f_Ro_at_9 a0 a1 I L).bind fun q2 => (some q2)))
set_option maxRecDepth 100000 in
set_option maxHeartbeats 4000000 in
theorem c_H_tick {G : xG} {S : List xSh} {Rf : Nat → Nat → Option Nat} (hT : xTH S Rf) {a0 : Int32} {a1 : Int32} {I : Nat → Nat → Int32} {L : Nat → Nat → Int64} {q : Int32} (hf : f_H_tick a0 a1 I L = some q) : CT G 3 m_H_tick [.ref (xB G + 0), .int a0, .int a1] (S, I, L, Rf) (some (.int q), (S, I, L, Rf)) := by
  refine CT.of (by decide +kernel) (Nat.le_of_ble_eq_true rfl) ?_
  show X G 3 m_H_tick 0 [(0, .ref (xB G + 0)), (1, .int a0), (2, .int a1)] [] (S, I, L, Rf) (some (.int q), (S, I, L, Rf))
  replace hf := (f_H_tick.eq_1 _ _ _ _).symm.trans hf
  refine X_aload_n (pc := 0) (i := 0) 0 dX11_tick_0 rfl rfl ?_
  refine X_getr (pc := 1) (a := 0) (ci := 10) (j := 0) (c := 1) (sh_0 hT) (by decide) k_377 (rf_0_0 hT) (fun _ h => h) dX11_tick_1 ?_
  refine X_getr (pc := 4) (a := 1) (ci := 5) (j := 15) (c := 9) (sh_1 hT) (by decide) k_198 (rf_1_15 hT) (fun _ h => h) dX11_tick_4 ?_
  refine X_iload_n (pc := 7) (i := 1) 1 dX11_tick_7 rfl rfl ?_
  refine X_iload_n (pc := 8) (i := 2) 2 dX11_tick_8 rfl rfl ?_
  refine X_invV_i (pc := 9) (c_Ro_has_9 hT rfl) ok_Ro_has (ci := 7) (sh_9 hT) k_934 k_912 k_913 nd_25 (by decide) rfl (Nat.le_of_ble_eq_true rfl) dX11_tick_9 ?_
  by_cases c1 : (f_Ro_has_9 a0 a1 I L) = (0 : Int32)
  · replace hf := (if_pos c1).symm.trans hf
    refine X_if_eq_t (pc := 12) 30 dX11_tick_12 (by decide) c1 ?_
    refine X_iconst (pc := 30) (-1 : Int32) dX11_tick_30 (by decide) ?_
    cases hf
    exact X_ireturn (pc := 31) rfl dX11_tick_31
  · replace hf := (if_neg c1).symm.trans hf
    refine X_if_eq_f (pc := 12) 30 dX11_tick_12 (by decide) c1 ?_
    refine X_aload_n (pc := 15) (i := 0) 0 dX11_tick_15 rfl rfl ?_
    refine X_getr (pc := 16) (a := 0) (ci := 10) (j := 0) (c := 1) (sh_0 hT) (by decide) k_377 (rf_0_0 hT) (fun _ h => h) dX11_tick_16 ?_
    refine X_getr (pc := 19) (a := 1) (ci := 5) (j := 15) (c := 9) (sh_1 hT) (by decide) k_198 (rf_1_15 hT) (fun _ h => h) dX11_tick_19 ?_
    refine X_iload_n (pc := 22) (i := 1) 1 dX11_tick_22 rfl rfl ?_
    refine X_iload_n (pc := 23) (i := 2) 2 dX11_tick_23 rfl rfl ?_
    obtain ⟨q2, c3, hf⟩ := bd_some hf
    refine X_invV_i (pc := 24) (c_Ro_at_9 hT c3) ok_Ro_at (ci := 7) (sh_9 hT) k_907 k_908 k_909 nd_22 (by decide) rfl (Nat.le_of_ble_eq_true rfl) dX11_tick_24 ?_
    refine X_goto (pc := 27) 31 dX11_tick_27 (by decide) ?_
    cases hf
    exact X_ireturn (pc := 31) rfl dX11_tick_31
theorem dX4_shown_0 : decode cX4_shown 0 = .ok (.iload_n 1, 1) := by decide +kernel
theorem dX4_shown_1 : decode cX4_shown 1 = .ok (.ifCond .ne 10, 3) := by decide +kernel
theorem dX4_shown_4 : decode cX4_shown 4 = .ok (.aload_n 0, 1) := by decide +kernel
theorem dX4_shown_5 : decode cX4_shown 5 = .ok (.getfield 15, 3) := by decide +kernel
theorem dX4_shown_8 : decode cX4_shown 8 = .ok (.goto 4, 3) := by decide +kernel
theorem dX4_shown_11 : decode cX4_shown 11 = .ok (.iconst (-1), 1) := by decide +kernel
theorem dX4_shown_12 : decode cX4_shown 12 = .ok (.ireturn, 1) := by decide +kernel
def f_Di_shown (w0 : Nat) (a0 : Int32) (I : Nat → Nat → Int32) (L : Nat → Nat → Int64) : Int32 := (if a0 = (0 : Int32) then (I w0 3) else (-1 : Int32))
set_option maxRecDepth 100000 in
set_option maxHeartbeats 4000000 in
theorem c_Di_shown {G : xG} {S : List xSh} {Rf : Nat → Nat → Option Nat} (hT : xTH S Rf) {w0 : Nat} {a0 : Int32} (hw0 : S[w0]? = some (.inl 4)) {I : Nat → Nat → Int32} {L : Nat → Nat → Int64} {q : Int32} (hf : f_Di_shown w0 a0 I L = q) : CT G 1 m_Di_shown [.ref (xB G + w0), .int a0] (S, I, L, Rf) (some (.int q), (S, I, L, Rf)) := by
  refine CT.of (by decide +kernel) (Nat.le_of_ble_eq_true rfl) ?_
  show X G 1 m_Di_shown 0 [(0, .ref (xB G + w0)), (1, .int a0)] [] (S, I, L, Rf) (some (.int q), (S, I, L, Rf))
  replace hf := (f_Di_shown.eq_1 _ _ _ _).symm.trans hf
  refine X_iload_n (pc := 0) (i := 1) 1 dX4_shown_0 rfl rfl ?_
  by_cases c1 : a0 = (0 : Int32)
  · replace hf := (if_pos c1).symm.trans hf
    refine X_if_ne_f (pc := 1) 11 dX4_shown_1 (by decide) c1 ?_
    refine X_aload_n (pc := 4) (i := 0) 0 dX4_shown_4 rfl rfl ?_
    refine X_get (pc := 5) (a := w0) (ci := 4) (j := 3) (.int (I w0 3)) hw0 (by decide) k_525 rfl dX4_shown_5 ?_
    refine X_goto (pc := 8) 12 dX4_shown_8 (by decide) ?_
    subst hf
    exact X_ireturn (pc := 12) rfl dX4_shown_12
  · replace hf := (if_neg c1).symm.trans hf
    refine X_if_ne_t (pc := 1) 11 dX4_shown_1 (by decide) c1 ?_
    refine X_iconst (pc := 11) (-1 : Int32) dX4_shown_11 (by decide) ?_
    subst hf
    exact X_ireturn (pc := 12) rfl dX4_shown_12
theorem dX8_shown_0 : decode cX8_shown 0 = .ok (.iload_n 1, 1) := by decide +kernel
theorem dX8_shown_1 : decode cX8_shown 1 = .ok (.tableswitch 42 0 2 #[27, 32, 37], 27) := by decide +kernel
theorem dX8_shown_28 : decode cX8_shown 28 = .ok (.aload_n 0, 1) := by decide +kernel
theorem dX8_shown_29 : decode cX8_shown 29 = .ok (.getfield 22, 3) := by decide +kernel
theorem dX8_shown_32 : decode cX8_shown 32 = .ok (.ireturn, 1) := by decide +kernel
theorem dX8_shown_33 : decode cX8_shown 33 = .ok (.aload_n 0, 1) := by decide +kernel
theorem dX8_shown_34 : decode cX8_shown 34 = .ok (.getfield 25, 3) := by decide +kernel
theorem dX8_shown_37 : decode cX8_shown 37 = .ok (.ireturn, 1) := by decide +kernel
theorem dX8_shown_38 : decode cX8_shown 38 = .ok (.aload_n 0, 1) := by decide +kernel
theorem dX8_shown_39 : decode cX8_shown 39 = .ok (.getfield 28, 3) := by decide +kernel
theorem dX8_shown_42 : decode cX8_shown 42 = .ok (.ireturn, 1) := by decide +kernel
theorem dX8_shown_43 : decode cX8_shown 43 = .ok (.iconst (-1), 1) := by decide +kernel
theorem dX8_shown_44 : decode cX8_shown 44 = .ok (.ireturn, 1) := by decide +kernel
def f_St_shown (w0 : Nat) (a0 : Int32) (I : Nat → Nat → Int32) (L : Nat → Nat → Int64) : Int32 := (if a0 = (0 : Int32) then (I w0 5) else (if a0 = (1 : Int32) then (I w0 6) else (if a0 = (2 : Int32) then (I w0 7) else (-1 : Int32))))
set_option maxRecDepth 100000 in
set_option maxHeartbeats 4000000 in
theorem c_St_shown {G : xG} {S : List xSh} {Rf : Nat → Nat → Option Nat} (hT : xTH S Rf) {w0 : Nat} {a0 : Int32} (hw0 : S[w0]? = some (.inl 8)) {I : Nat → Nat → Int32} {L : Nat → Nat → Int64} {q : Int32} (hf : f_St_shown w0 a0 I L = q) : CT G 1 m_St_shown [.ref (xB G + w0), .int a0] (S, I, L, Rf) (some (.int q), (S, I, L, Rf)) := by
  refine CT.of (by decide +kernel) (Nat.le_of_ble_eq_true rfl) ?_
  show X G 1 m_St_shown 0 [(0, .ref (xB G + w0)), (1, .int a0)] [] (S, I, L, Rf) (some (.int q), (S, I, L, Rf))
  replace hf := (f_St_shown.eq_1 _ _ _ _).symm.trans hf
  refine X_iload_n (pc := 0) (i := 1) 1 dX8_shown_0 rfl rfl ?_
  by_cases c1 : a0 = (0 : Int32)
  · replace hf := (if_pos c1).symm.trans hf
    refine X_tabIn (pc := 1) (off := 27) (0) 28 dX8_shown_1 (by rw [c1]; rfl) (by decide) ?_
    refine X_aload_n (pc := 28) (i := 0) 0 dX8_shown_28 rfl rfl ?_
    refine X_get (pc := 29) (a := w0) (ci := 8) (j := 5) (.int (I w0 5)) hw0 (by decide) k_626 rfl dX8_shown_29 ?_
    subst hf
    exact X_ireturn (pc := 32) rfl dX8_shown_32
  · replace hf := (if_neg c1).symm.trans hf
    by_cases c2 : a0 = (1 : Int32)
    · replace hf := (if_pos c2).symm.trans hf
      refine X_tabIn (pc := 1) (off := 32) (1) 33 dX8_shown_1 (by rw [c2]; rfl) (by decide) ?_
      refine X_aload_n (pc := 33) (i := 0) 0 dX8_shown_33 rfl rfl ?_
      refine X_get (pc := 34) (a := w0) (ci := 8) (j := 6) (.int (I w0 6)) hw0 (by decide) k_627 rfl dX8_shown_34 ?_
      subst hf
      exact X_ireturn (pc := 37) rfl dX8_shown_37
    · replace hf := (if_neg c2).symm.trans hf
      by_cases c3 : a0 = (2 : Int32)
      · replace hf := (if_pos c3).symm.trans hf
        refine X_tabIn (pc := 1) (off := 37) (2) 38 dX8_shown_1 (by rw [c3]; rfl) (by decide) ?_
        refine X_aload_n (pc := 38) (i := 0) 0 dX8_shown_38 rfl rfl ?_
        refine X_get (pc := 39) (a := w0) (ci := 8) (j := 7) (.int (I w0 7)) hw0 (by decide) k_628 rfl dX8_shown_39 ?_
        subst hf
        exact X_ireturn (pc := 42) rfl dX8_shown_42
      · replace hf := (if_neg c3).symm.trans hf
        refine X_tabOut (pc := 1) 43 dX8_shown_1 (by have zc1 := lv_neT (a := 0) c1 rfl; have zc2 := lv_neT (a := 1) c2 rfl; have zc3 := lv_neT (a := 2) c3 rfl; omega) (by decide) ?_
        refine X_iconst (pc := 43) (-1 : Int32) dX8_shown_43 (by decide) ?_
        subst hf
        exact X_ireturn (pc := 44) rfl dX8_shown_44
theorem dX1_shown_0 : decode cX1_shown 0 = .ok (.iload_n 1, 1) := by decide +kernel
theorem dX1_shown_1 : decode cX1_shown 1 = .ok (.tableswitch 87 0 7 #[47, 52, 57, 62, 67, 72, 77, 82], 47) := by decide +kernel
theorem dX1_shown_48 : decode cX1_shown 48 = .ok (.aload_n 0, 1) := by decide +kernel
theorem dX1_shown_49 : decode cX1_shown 49 = .ok (.getfield 32, 3) := by decide +kernel
theorem dX1_shown_52 : decode cX1_shown 52 = .ok (.ireturn, 1) := by decide +kernel
theorem dX1_shown_53 : decode cX1_shown 53 = .ok (.aload_n 0, 1) := by decide +kernel
theorem dX1_shown_54 : decode cX1_shown 54 = .ok (.getfield 35, 3) := by decide +kernel
theorem dX1_shown_57 : decode cX1_shown 57 = .ok (.ireturn, 1) := by decide +kernel
theorem dX1_shown_58 : decode cX1_shown 58 = .ok (.aload_n 0, 1) := by decide +kernel
theorem dX1_shown_59 : decode cX1_shown 59 = .ok (.getfield 38, 3) := by decide +kernel
theorem dX1_shown_62 : decode cX1_shown 62 = .ok (.ireturn, 1) := by decide +kernel
theorem dX1_shown_63 : decode cX1_shown 63 = .ok (.aload_n 0, 1) := by decide +kernel
theorem dX1_shown_64 : decode cX1_shown 64 = .ok (.getfield 44, 3) := by decide +kernel
theorem dX1_shown_67 : decode cX1_shown 67 = .ok (.ireturn, 1) := by decide +kernel
theorem dX1_shown_68 : decode cX1_shown 68 = .ok (.aload_n 0, 1) := by decide +kernel
theorem dX1_shown_69 : decode cX1_shown 69 = .ok (.getfield 47, 3) := by decide +kernel
theorem dX1_shown_72 : decode cX1_shown 72 = .ok (.ireturn, 1) := by decide +kernel
theorem dX1_shown_73 : decode cX1_shown 73 = .ok (.aload_n 0, 1) := by decide +kernel
theorem dX1_shown_74 : decode cX1_shown 74 = .ok (.getfield 50, 3) := by decide +kernel
theorem dX1_shown_77 : decode cX1_shown 77 = .ok (.ireturn, 1) := by decide +kernel
theorem dX1_shown_78 : decode cX1_shown 78 = .ok (.aload_n 0, 1) := by decide +kernel
theorem dX1_shown_79 : decode cX1_shown 79 = .ok (.getfield 53, 3) := by decide +kernel
theorem dX1_shown_82 : decode cX1_shown 82 = .ok (.ireturn, 1) := by decide +kernel
theorem dX1_shown_83 : decode cX1_shown 83 = .ok (.aload_n 0, 1) := by decide +kernel
theorem dX1_shown_84 : decode cX1_shown 84 = .ok (.getfield 56, 3) := by decide +kernel
theorem dX1_shown_87 : decode cX1_shown 87 = .ok (.ireturn, 1) := by decide +kernel
theorem dX1_shown_88 : decode cX1_shown 88 = .ok (.iconst (-1), 1) := by decide +kernel
theorem dX1_shown_89 : decode cX1_shown 89 = .ok (.ireturn, 1) := by decide +kernel
def f_Ca_shown (w0 : Nat) (a0 : Int32) (I : Nat → Nat → Int32) (L : Nat → Nat → Int64) : Int32 := (if a0 = (0 : Int32) then (I w0 6) else (if a0 = (1 : Int32) then (I w0 7) else (if a0 = (2 : Int32) then (I w0 8) else (if a0 = (3 : Int32) then (I w0 9) else (if a0 = (4 : Int32) then (I w0 10) else (if a0 = (5 : Int32) then (I w0 11) else (if a0 = (6 : Int32) then (I w0 12) else (if a0 = (7 : Int32) then (I w0 13) else (-1 : Int32)))))))))
set_option maxRecDepth 100000 in
set_option maxHeartbeats 4000000 in
theorem c_Ca_shown {G : xG} {S : List xSh} {Rf : Nat → Nat → Option Nat} (hT : xTH S Rf) {w0 : Nat} {a0 : Int32} (hw0 : S[w0]? = some (.inl 1)) {I : Nat → Nat → Int32} {L : Nat → Nat → Int64} {q : Int32} (hf : f_Ca_shown w0 a0 I L = q) : CT G 1 m_Ca_shown [.ref (xB G + w0), .int a0] (S, I, L, Rf) (some (.int q), (S, I, L, Rf)) := by
  refine CT.of (by decide +kernel) (Nat.le_of_ble_eq_true rfl) ?_
  show X G 1 m_Ca_shown 0 [(0, .ref (xB G + w0)), (1, .int a0)] [] (S, I, L, Rf) (some (.int q), (S, I, L, Rf))
  replace hf := (f_Ca_shown.eq_1 _ _ _ _).symm.trans hf
  refine X_iload_n (pc := 0) (i := 1) 1 dX1_shown_0 rfl rfl ?_
  by_cases c1 : a0 = (0 : Int32)
  · replace hf := (if_pos c1).symm.trans hf
    refine X_tabIn (pc := 1) (off := 47) (0) 48 dX1_shown_1 (by rw [c1]; rfl) (by decide) ?_
    refine X_aload_n (pc := 48) (i := 0) 0 dX1_shown_48 rfl rfl ?_
    refine X_get (pc := 49) (a := w0) (ci := 1) (j := 6) (.int (I w0 6)) hw0 (by decide) k_578 rfl dX1_shown_49 ?_
    subst hf
    exact X_ireturn (pc := 52) rfl dX1_shown_52
  · replace hf := (if_neg c1).symm.trans hf
    by_cases c2 : a0 = (1 : Int32)
    · replace hf := (if_pos c2).symm.trans hf
      refine X_tabIn (pc := 1) (off := 52) (1) 53 dX1_shown_1 (by rw [c2]; rfl) (by decide) ?_
      refine X_aload_n (pc := 53) (i := 0) 0 dX1_shown_53 rfl rfl ?_
      refine X_get (pc := 54) (a := w0) (ci := 1) (j := 7) (.int (I w0 7)) hw0 (by decide) k_579 rfl dX1_shown_54 ?_
      subst hf
      exact X_ireturn (pc := 57) rfl dX1_shown_57
    · replace hf := (if_neg c2).symm.trans hf
      by_cases c3 : a0 = (2 : Int32)
      · replace hf := (if_pos c3).symm.trans hf
        refine X_tabIn (pc := 1) (off := 57) (2) 58 dX1_shown_1 (by rw [c3]; rfl) (by decide) ?_
        refine X_aload_n (pc := 58) (i := 0) 0 dX1_shown_58 rfl rfl ?_
        refine X_get (pc := 59) (a := w0) (ci := 1) (j := 8) (.int (I w0 8)) hw0 (by decide) k_580 rfl dX1_shown_59 ?_
        subst hf
        exact X_ireturn (pc := 62) rfl dX1_shown_62
      · replace hf := (if_neg c3).symm.trans hf
        by_cases c4 : a0 = (3 : Int32)
        · replace hf := (if_pos c4).symm.trans hf
          refine X_tabIn (pc := 1) (off := 62) (3) 63 dX1_shown_1 (by rw [c4]; rfl) (by decide) ?_
          refine X_aload_n (pc := 63) (i := 0) 0 dX1_shown_63 rfl rfl ?_
          refine X_get (pc := 64) (a := w0) (ci := 1) (j := 9) (.int (I w0 9)) hw0 (by decide) k_581 rfl dX1_shown_64 ?_
          subst hf
          exact X_ireturn (pc := 67) rfl dX1_shown_67
        · replace hf := (if_neg c4).symm.trans hf
          by_cases c5 : a0 = (4 : Int32)
          · replace hf := (if_pos c5).symm.trans hf
            refine X_tabIn (pc := 1) (off := 67) (4) 68 dX1_shown_1 (by rw [c5]; rfl) (by decide) ?_
            refine X_aload_n (pc := 68) (i := 0) 0 dX1_shown_68 rfl rfl ?_
            refine X_get (pc := 69) (a := w0) (ci := 1) (j := 10) (.int (I w0 10)) hw0 (by decide) k_582 rfl dX1_shown_69 ?_
            subst hf
            exact X_ireturn (pc := 72) rfl dX1_shown_72
          · replace hf := (if_neg c5).symm.trans hf
            by_cases c6 : a0 = (5 : Int32)
            · replace hf := (if_pos c6).symm.trans hf
              refine X_tabIn (pc := 1) (off := 72) (5) 73 dX1_shown_1 (by rw [c6]; rfl) (by decide) ?_
              refine X_aload_n (pc := 73) (i := 0) 0 dX1_shown_73 rfl rfl ?_
              refine X_get (pc := 74) (a := w0) (ci := 1) (j := 11) (.int (I w0 11)) hw0 (by decide) k_583 rfl dX1_shown_74 ?_
              subst hf
              exact X_ireturn (pc := 77) rfl dX1_shown_77
            · replace hf := (if_neg c6).symm.trans hf
              by_cases c7 : a0 = (6 : Int32)
              · replace hf := (if_pos c7).symm.trans hf
                refine X_tabIn (pc := 1) (off := 77) (6) 78 dX1_shown_1 (by rw [c7]; rfl) (by decide) ?_
                refine X_aload_n (pc := 78) (i := 0) 0 dX1_shown_78 rfl rfl ?_
                refine X_get (pc := 79) (a := w0) (ci := 1) (j := 12) (.int (I w0 12)) hw0 (by decide) k_584 rfl dX1_shown_79 ?_
                subst hf
                exact X_ireturn (pc := 82) rfl dX1_shown_82
              · replace hf := (if_neg c7).symm.trans hf
                by_cases c8 : a0 = (7 : Int32)
                · replace hf := (if_pos c8).symm.trans hf
                  refine X_tabIn (pc := 1) (off := 82) (7) 83 dX1_shown_1 (by rw [c8]; rfl) (by decide) ?_
                  refine X_aload_n (pc := 83) (i := 0) 0 dX1_shown_83 rfl rfl ?_
                  refine X_get (pc := 84) (a := w0) (ci := 1) (j := 13) (.int (I w0 13)) hw0 (by decide) k_585 rfl dX1_shown_84 ?_
                  subst hf
                  exact X_ireturn (pc := 87) rfl dX1_shown_87
                · replace hf := (if_neg c8).symm.trans hf
                  refine X_tabOut (pc := 1) 88 dX1_shown_1 (by have zc1 := lv_neT (a := 0) c1 rfl; have zc2 := lv_neT (a := 1) c2 rfl; have zc3 := lv_neT (a := 2) c3 rfl; have zc4 := lv_neT (a := 3) c4 rfl; have zc5 := lv_neT (a := 4) c5 rfl; have zc6 := lv_neT (a := 5) c6 rfl; have zc7 := lv_neT (a := 6) c7 rfl; have zc8 := lv_neT (a := 7) c8 rfl; omega) (by decide) ?_
                  refine X_iconst (pc := 88) (-1 : Int32) dX1_shown_88 (by decide) ?_
                  subst hf
                  exact X_ireturn (pc := 89) rfl dX1_shown_89
theorem dX11_shows_0 : decode cX11_shows 0 = .ok (.aload_n 0, 1) := by decide +kernel
theorem dX11_shows_1 : decode cX11_shows 1 = .ok (.iload_n 1, 1) := by decide +kernel
theorem dX11_shows_2 : decode cX11_shows 2 = .ok (.invokevirtual 184, 3) := by decide +kernel
theorem dX11_shows_5 : decode cX11_shows 5 = .ok (.astore_n 3, 1) := by decide +kernel
theorem dX11_shows_6 : decode cX11_shows 6 = .ok (.aload_n 3, 1) := by decide +kernel
theorem dX11_shows_7 : decode cX11_shows 7 = .ok (.ifnonnull 5, 3) := by decide +kernel
theorem dX11_shows_10 : decode cX11_shows 10 = .ok (.iconst (-1), 1) := by decide +kernel
theorem dX11_shows_11 : decode cX11_shows 11 = .ok (.ireturn, 1) := by decide +kernel
theorem dX11_shows_12 : decode cX11_shows 12 = .ok (.iload_n 2, 1) := by decide +kernel
theorem dX11_shows_13 : decode cX11_shows 13 = .ok (.bipush 8, 2) := by decide +kernel
theorem dX11_shows_15 : decode cX11_shows 15 = .ok (.if_icmp .ne 24, 3) := by decide +kernel
theorem dX11_shows_18 : decode cX11_shows 18 = .ok (.aload_n 3, 1) := by decide +kernel
theorem dX11_shows_19 : decode cX11_shows 19 = .ok (.instanceof 123, 3) := by decide +kernel
theorem dX11_shows_22 : decode cX11_shows 22 = .ok (.ifCond .eq 17, 3) := by decide +kernel
theorem dX11_shows_25 : decode cX11_shows 25 = .ok (.aload_n 0, 1) := by decide +kernel
theorem dX11_shows_26 : decode cX11_shows 26 = .ok (.aload_n 3, 1) := by decide +kernel
theorem dX11_shows_27 : decode cX11_shows 27 = .ok (.invokevirtual 192, 3) := by decide +kernel
theorem dX11_shows_30 : decode cX11_shows 30 = .ok (.ifCond .eq 7, 3) := by decide +kernel
theorem dX11_shows_33 : decode cX11_shows 33 = .ok (.iconst 1, 1) := by decide +kernel
theorem dX11_shows_34 : decode cX11_shows 34 = .ok (.goto 4, 3) := by decide +kernel
theorem dX11_shows_37 : decode cX11_shows 37 = .ok (.iconst 0, 1) := by decide +kernel
theorem dX11_shows_38 : decode cX11_shows 38 = .ok (.ireturn, 1) := by decide +kernel
theorem dX11_shows_39 : decode cX11_shows 39 = .ok (.iload_n 2, 1) := by decide +kernel
theorem dX11_shows_40 : decode cX11_shows 40 = .ok (.bipush 9, 2) := by decide +kernel
theorem dX11_shows_42 : decode cX11_shows 42 = .ok (.if_icmp .ne 10, 3) := by decide +kernel
theorem dX11_shows_45 : decode cX11_shows 45 = .ok (.aload_n 3, 1) := by decide +kernel
theorem dX11_shows_46 : decode cX11_shows 46 = .ok (.getfield 257, 3) := by decide +kernel
theorem dX11_shows_49 : decode cX11_shows 49 = .ok (.goto 8, 3) := by decide +kernel
theorem dX11_shows_52 : decode cX11_shows 52 = .ok (.aload_n 3, 1) := by decide +kernel
theorem dX11_shows_53 : decode cX11_shows 53 = .ok (.iload_n 2, 1) := by decide +kernel
theorem dX11_shows_54 : decode cX11_shows 54 = .ok (.invokevirtual 260, 3) := by decide +kernel
theorem dX11_shows_57 : decode cX11_shows 57 = .ok (.ireturn, 1) := by decide +kernel
def f_H_shows_L39 (S : List xSh) (Rf : Nat → Nat → Option Nat) (l2 : Int32) (l3 : Nat) (I : (Nat → Nat → Int32)) (L : (Nat → Nat → Int64)) : Option Int32 := (if l2 = (9 : Int32) then (some (I l3 1)) else (some (f_Di_shown l3 l2 I L)))
set_option maxRecDepth 100000 in
set_option maxHeartbeats 4000000 in
theorem x_H_shows_L39 {G : xG} {S : List xSh} {Rf : Nat → Nat → Option Nat} (hT : xTH S Rf) {l2 : Int32} {l3 : Nat} {I : Nat → Nat → Int32} {L : Nat → Nat → Int64} {q : Int32} (hl3 : S[l3]? = some (.inl 4)) (hf : f_H_shows_L39 S Rf l2 l3 I L = some q) : X G 3 m_H_shows 39 [(2, .int l2), (3, .ref (xB G + l3))] [] (S, I, L, Rf) (some (.int q), (S, I, L, Rf)) := by
  replace hf := (f_H_shows_L39.eq_1 _ _ _ _ _ _).symm.trans hf
  refine X_iload_n (pc := 39) (i := 2) 0 dX11_shows_39 rfl rfl ?_
  refine X_bipush (pc := 40) (9 : Int32) dX11_shows_40 (by decide) ?_
  by_cases c7 : l2 = (9 : Int32)
  · replace hf := (if_pos c7).symm.trans hf
    refine X_icmp_ne_f (pc := 42) 52 dX11_shows_42 (by decide) c7 ?_
    refine X_aload_n (pc := 45) (i := 3) 1 dX11_shows_45 rfl rfl ?_
    refine X_get (pc := 46) (a := l3) (ci := 4) (j := 1) (.int (I l3 1)) hl3 (by decide) k_528 rfl dX11_shows_46 ?_
    refine X_goto (pc := 49) 57 dX11_shows_49 (by decide) ?_
    cases hf
    exact X_ireturn (pc := 57) rfl dX11_shows_57
  · replace hf := (if_neg c7).symm.trans hf
    refine X_icmp_ne_t (pc := 42) 52 dX11_shows_42 (by decide) c7 ?_
    refine X_aload_n (pc := 52) (i := 3) 1 dX11_shows_52 rfl rfl ?_
    refine X_iload_n (pc := 53) (i := 2) 0 dX11_shows_53 rfl rfl ?_
    refine X_invU_i (pc := 54) (c_Di_shown hT hl3 rfl) ok_Di_shown (ci := 4) hl3 k_939 k_941 k_940 (by decide +kernel) k_946 k_945 nd_8 (by decide) rfl (Nat.le_of_ble_eq_true rfl) dX11_shows_54 ?_
    cases hf
    exact X_ireturn (pc := 57) rfl dX11_shows_57
def f_H_shows_L39_2 (S : List xSh) (Rf : Nat → Nat → Option Nat) (l2 : Int32) (l3 : Nat) (I : (Nat → Nat → Int32)) (L : (Nat → Nat → Int64)) : Option Int32 := (if l2 = (9 : Int32) then (some (I l3 1)) else (some (f_St_shown l3 l2 I L)))
set_option maxRecDepth 100000 in
set_option maxHeartbeats 4000000 in
theorem x_H_shows_L39_2 {G : xG} {S : List xSh} {Rf : Nat → Nat → Option Nat} (hT : xTH S Rf) {l2 : Int32} {l3 : Nat} {I : Nat → Nat → Int32} {L : Nat → Nat → Int64} {q : Int32} (hl3 : S[l3]? = some (.inl 8)) (hf : f_H_shows_L39_2 S Rf l2 l3 I L = some q) : X G 3 m_H_shows 39 [(2, .int l2), (3, .ref (xB G + l3))] [] (S, I, L, Rf) (some (.int q), (S, I, L, Rf)) := by
  replace hf := (f_H_shows_L39_2.eq_1 _ _ _ _ _ _).symm.trans hf
  refine X_iload_n (pc := 39) (i := 2) 0 dX11_shows_39 rfl rfl ?_
  refine X_bipush (pc := 40) (9 : Int32) dX11_shows_40 (by decide) ?_
  by_cases c13 : l2 = (9 : Int32)
  · replace hf := (if_pos c13).symm.trans hf
    refine X_icmp_ne_f (pc := 42) 52 dX11_shows_42 (by decide) c13 ?_
    refine X_aload_n (pc := 45) (i := 3) 1 dX11_shows_45 rfl rfl ?_
    refine X_get (pc := 46) (a := l3) (ci := 8) (j := 1) (.int (I l3 1)) hl3 (by decide) k_528 rfl dX11_shows_46 ?_
    refine X_goto (pc := 49) 57 dX11_shows_49 (by decide) ?_
    cases hf
    exact X_ireturn (pc := 57) rfl dX11_shows_57
  · replace hf := (if_neg c13).symm.trans hf
    refine X_icmp_ne_t (pc := 42) 52 dX11_shows_42 (by decide) c13 ?_
    refine X_aload_n (pc := 52) (i := 3) 1 dX11_shows_52 rfl rfl ?_
    refine X_iload_n (pc := 53) (i := 2) 0 dX11_shows_53 rfl rfl ?_
    refine X_invU_i (pc := 54) (c_St_shown hT hl3 rfl) ok_St_shown (ci := 8) hl3 k_939 k_941 k_940 (by decide +kernel) k_949 k_948 nd_8 (by decide) rfl (Nat.le_of_ble_eq_true rfl) dX11_shows_54 ?_
    cases hf
    exact X_ireturn (pc := 57) rfl dX11_shows_57
def f_H_shows_L39_3 (S : List xSh) (Rf : Nat → Nat → Option Nat) (l2 : Int32) (l3 : Nat) (I : (Nat → Nat → Int32)) (L : (Nat → Nat → Int64)) : Option Int32 := (if l2 = (9 : Int32) then (some (I l3 1)) else (some (f_Ca_shown l3 l2 I L)))
set_option maxRecDepth 100000 in
set_option maxHeartbeats 4000000 in
theorem x_H_shows_L39_3 {G : xG} {S : List xSh} {Rf : Nat → Nat → Option Nat} (hT : xTH S Rf) {l2 : Int32} {l3 : Nat} {I : Nat → Nat → Int32} {L : Nat → Nat → Int64} {q : Int32} (hl3 : S[l3]? = some (.inl 1)) (hf : f_H_shows_L39_3 S Rf l2 l3 I L = some q) : X G 3 m_H_shows 39 [(2, .int l2), (3, .ref (xB G + l3))] [] (S, I, L, Rf) (some (.int q), (S, I, L, Rf)) := by
  replace hf := (f_H_shows_L39_3.eq_1 _ _ _ _ _ _).symm.trans hf
  refine X_iload_n (pc := 39) (i := 2) 0 dX11_shows_39 rfl rfl ?_
  refine X_bipush (pc := 40) (9 : Int32) dX11_shows_40 (by decide) ?_
  by_cases c16 : l2 = (9 : Int32)
  · replace hf := (if_pos c16).symm.trans hf
    refine X_icmp_ne_f (pc := 42) 52 dX11_shows_42 (by decide) c16 ?_
    refine X_aload_n (pc := 45) (i := 3) 1 dX11_shows_45 rfl rfl ?_
    refine X_get (pc := 46) (a := l3) (ci := 1) (j := 1) (.int (I l3 1)) hl3 (by decide) k_528 rfl dX11_shows_46 ?_
    refine X_goto (pc := 49) 57 dX11_shows_49 (by decide) ?_
    cases hf
    exact X_ireturn (pc := 57) rfl dX11_shows_57
  · replace hf := (if_neg c16).symm.trans hf
    refine X_icmp_ne_t (pc := 42) 52 dX11_shows_42 (by decide) c16 ?_
    refine X_aload_n (pc := 52) (i := 3) 1 dX11_shows_52 rfl rfl ?_
    refine X_iload_n (pc := 53) (i := 2) 0 dX11_shows_53 rfl rfl ?_
    refine X_invU_i (pc := 54) (c_Ca_shown hT hl3 rfl) ok_Ca_shown (ci := 1) hl3 k_939 k_941 k_940 (by decide +kernel) k_943 k_942 nd_8 (by decide) rfl (Nat.le_of_ble_eq_true rfl) dX11_shows_54 ?_
    cases hf
    exact X_ireturn (pc := 57) rfl dX11_shows_57
def f_H_shows (S : List xSh) (Rf : Nat → Nat → Option Nat) (a0 : Int32) (a1 : Int32) (I : Nat → Nat → Int32) (L : Nat → Nat → Int64) : Option Int32 := ((f_H_workAt S Rf a0 I L).bind fun q1 => (oc q1 (some (-1 : Int32)) fun w3 => (if a1 = (8 : Int32) then (if S[w3]? = some (.inl 4) then (f_H_shows_L39 S Rf a1 w3 I L) else (if S[w3]? = some (.inl 1) then ((f_H_isBarred_C w3 I L).bind fun q9 => (if q9 = (0 : Int32) then (some (0 : Int32)) else (some (1 : Int32)))) else (if S[w3]? = some (.inl 8) then (f_H_shows_L39_2 S Rf a1 w3 I L) else none))) else (if S[w3]? = some (.inl 4) then (f_H_shows_L39 S Rf a1 w3 I L) else (if S[w3]? = some (.inl 1) then (f_H_shows_L39_3 S Rf a1 w3 I L) else (if S[w3]? = some (.inl 8) then (f_H_shows_L39_2 S Rf a1 w3 I L) else none))))))
set_option maxRecDepth 100000 in
set_option maxHeartbeats 4000000 in
theorem c_H_shows {G : xG} {S : List xSh} {Rf : Nat → Nat → Option Nat} (hT : xTH S Rf) {a0 : Int32} {a1 : Int32} {I : Nat → Nat → Int32} {L : Nat → Nat → Int64} {q : Int32} (hf : f_H_shows S Rf a0 a1 I L = some q) : CT G 3 m_H_shows [.ref (xB G + 0), .int a0, .int a1] (S, I, L, Rf) (some (.int q), (S, I, L, Rf)) := by
  refine CT.of (by decide +kernel) (Nat.le_of_ble_eq_true rfl) ?_
  show X G 3 m_H_shows 0 [(0, .ref (xB G + 0)), (1, .int a0), (2, .int a1)] [] (S, I, L, Rf) (some (.int q), (S, I, L, Rf))
  replace hf := (f_H_shows.eq_1 _ _ _ _ _ _).symm.trans hf
  refine X_aload_n (pc := 0) (i := 0) 0 dX11_shows_0 rfl rfl ?_
  refine X_iload_n (pc := 1) (i := 1) 1 dX11_shows_1 rfl rfl ?_
  obtain ⟨q1, c2, hf⟩ := bd_some hf
  rcases oc_cases hf with ⟨hr4, hf⟩ | ⟨w3, hr4, hf⟩
  · rw [hr4] at c2
    refine X_invV_aN (pc := 2) (c_H_workAt hT c2) ok_H_workAt (ci := 10) (sh_0 hT) k_837 k_839 k_18 nd_24 (by decide) rfl (Nat.le_of_ble_eq_true rfl) dX11_shows_2 ?_
    refine X_astore_nN (pc := 5) (i := 3) [(3, .null), (0, .ref (xB G + 0)), (1, .int a0), (2, .int a1)] dX11_shows_5 rfl (by decide) rfl ?_
    refine X_aload_nN (pc := 6) (i := 3) 0 dX11_shows_6 rfl rfl ?_
    refine X_ifnonnull_f (pc := 7) dX11_shows_7 ?_
    refine X_iconst (pc := 10) (-1 : Int32) dX11_shows_10 (by decide) ?_
    cases hf
    exact X_ireturn (pc := 11) rfl dX11_shows_11
  · rw [hr4] at c2
    refine X_invV_aS (pc := 2) (c_H_workAt hT c2) ok_H_workAt (ci := 10) (sh_0 hT) k_837 k_839 k_18 nd_24 (by decide) rfl (Nat.le_of_ble_eq_true rfl) dX11_shows_2 ?_
    refine X_astore_n (pc := 5) (i := 3) [(3, .ref (xB G + w3)), (0, .ref (xB G + 0)), (1, .int a0), (2, .int a1)] dX11_shows_5 rfl (by decide) rfl ?_
    refine X_aload_n (pc := 6) (i := 3) 0 dX11_shows_6 rfl rfl ?_
    refine X_ifnonnull_t (pc := 7) 12 dX11_shows_7 (by decide) ?_
    refine X_iload_n (pc := 12) (i := 2) 3 dX11_shows_12 rfl rfl ?_
    refine X_bipush (pc := 13) (8 : Int32) dX11_shows_13 (by decide) ?_
    by_cases c5 : a1 = (8 : Int32)
    · replace hf := (if_pos c5).symm.trans hf
      refine X_icmp_ne_f (pc := 15) 39 dX11_shows_15 (by decide) c5 ?_
      refine X_aload_n (pc := 18) (i := 3) 0 dX11_shows_18 rfl rfl ?_
      by_cases hs6 : S[w3]? = some (.inl 4)
      · replace hf := (if_pos hs6).symm.trans hf
        refine X_instNo (pc := 19) (ci := 4) hs6 k_568 (by decide) dX11_shows_19 ?_
        refine X_if_eq_t (pc := 22) 39 dX11_shows_22 (by decide) (by decide) ?_
        exact X_lvs [3, 0] rfl (x_H_shows_L39 hT hs6 hf)
      · replace hf := (if_neg hs6).symm.trans hf
        by_cases hs8 : S[w3]? = some (.inl 1)
        · replace hf := (if_pos hs8).symm.trans hf
          refine X_instYes (pc := 19) (ci := 1) hs8 k_568 dX11_shows_19 ?_
          refine X_if_eq_f (pc := 22) 39 dX11_shows_22 (by decide) (by decide) ?_
          refine X_aload_n (pc := 25) (i := 0) 1 dX11_shows_25 rfl rfl ?_
          refine X_aload_n (pc := 26) (i := 3) 0 dX11_shows_26 rfl rfl ?_
          obtain ⟨q9, c10, hf⟩ := bd_some hf
          refine X_invV_i (pc := 27) (c_H_isBarred_C hT hs8 c10) ok_H_isBarred (ci := 10) (sh_0 hT) k_855 k_857 k_19 nd_26 (by decide) rfl (Nat.le_of_ble_eq_true rfl) dX11_shows_27 ?_
          by_cases c11 : q9 = (0 : Int32)
          · replace hf := (if_pos c11).symm.trans hf
            refine X_if_eq_t (pc := 30) 37 dX11_shows_30 (by decide) c11 ?_
            refine X_iconst (pc := 37) (0 : Int32) dX11_shows_37 (by decide) ?_
            cases hf
            exact X_ireturn (pc := 38) rfl dX11_shows_38
          · replace hf := (if_neg c11).symm.trans hf
            refine X_if_eq_f (pc := 30) 37 dX11_shows_30 (by decide) c11 ?_
            refine X_iconst (pc := 33) (1 : Int32) dX11_shows_33 (by decide) ?_
            refine X_goto (pc := 34) 38 dX11_shows_34 (by decide) ?_
            cases hf
            exact X_ireturn (pc := 38) rfl dX11_shows_38
        · replace hf := (if_neg hs8).symm.trans hf
          obtain ⟨hs12, hf⟩ := gd_some hf
          refine X_instNo (pc := 19) (ci := 8) hs12 k_568 (by decide) dX11_shows_19 ?_
          refine X_if_eq_t (pc := 22) 39 dX11_shows_22 (by decide) (by decide) ?_
          exact X_lvs [3, 0] rfl (x_H_shows_L39_2 hT hs12 hf)
    · replace hf := (if_neg c5).symm.trans hf
      refine X_icmp_ne_t (pc := 15) 39 dX11_shows_15 (by decide) c5 ?_
      by_cases hs14 : S[w3]? = some (.inl 4)
      · replace hf := (if_pos hs14).symm.trans hf
        exact X_lvs [3, 0] rfl (x_H_shows_L39 hT hs14 hf)
      · replace hf := (if_neg hs14).symm.trans hf
        by_cases hs15 : S[w3]? = some (.inl 1)
        · replace hf := (if_pos hs15).symm.trans hf
          exact X_lvs [3, 0] rfl (x_H_shows_L39_3 hT hs15 hf)
        · replace hf := (if_neg hs15).symm.trans hf
          obtain ⟨hs17, hf⟩ := gd_some hf
          exact X_lvs [3, 0] rfl (x_H_shows_L39_2 hT hs17 hf)

def f_Ro_open_9 (I : Nat → Nat → Int32) (L : Nat → Nat → Int64) : Option (Int32 × (Nat → Nat → Int32) × (Nat → Nat → Int64)) := (bnd ((I 9 3) + (1 : Int32)) fun x1 => (if (I 9 1) < x1 then (some ((-1 : Int32), (uI I 9 3 x1), L)) else (some ((x1 - (1 : Int32)), (uI I 9 3 x1), L))))
set_option maxRecDepth 100000 in
set_option maxHeartbeats 4000000 in
theorem c_Ro_open_9 {G : xG} {S : List xSh} {Rf : Nat → Nat → Option Nat} (hT : xTH S Rf) {I : Nat → Nat → Int32} {L : Nat → Nat → Int64} {q : (Int32 × (Nat → Nat → Int32) × (Nat → Nat → Int64))} (hf : f_Ro_open_9 I L = some q) : CT G 1 m_Ro_open [.ref (xP G 9)] (S, I, L, Rf) (some (.int q.1), (S, q.2.1, q.2.2, Rf)) := by
  refine CT.of (by decide +kernel) (Nat.le_of_ble_eq_true rfl) ?_
  show X G 1 m_Ro_open 0 [(0, .ref (xP G 9))] [] (S, I, L, Rf) (some (.int q.1), (S, q.2.1, q.2.2, Rf))
  replace hf := (f_Ro_open_9.eq_1 _ _).symm.trans hf
  refine X_aload_n (pc := 0) (i := 0) 0 dX7_open_0 rfl rfl ?_
  refine X_dup (pc := 1) dX7_open_1 rfl ?_
  refine X_get (pc := 2) (a := 9) (ci := 7) (j := 3) (.int (I 9 3)) (sh_9 hT) (by decide) k_161 rfl dX7_open_2 ?_
  refine X_iconst (pc := 5) (1 : Int32) dX7_open_5 (by decide) ?_
  refine X_iadd (pc := 6) dX7_open_6 ?_
  obtain ⟨x1, ex1, hf⟩ := bnd_e hf
  refine X_tope ex1 ?_
  refine X_puti (pc := 7) (a := 9) (ci := 7) (j := 3) 3 rfl false (sh_9 hT) (by decide) k_161 rfl (fun h => by cases h) rfl dX7_open_7 ?_
  refine X_aload_n (pc := 10) (i := 0) 0 dX7_open_10 rfl rfl ?_
  refine X_get (pc := 11) (a := 9) (ci := 7) (j := 3) (.int x1) (sh_9 hT) (by decide) k_161 rfl dX7_open_11 ?_
  refine X_aload_n (pc := 14) (i := 0) 0 dX7_open_14 rfl rfl ?_
  refine X_get (pc := 15) (a := 9) (ci := 7) (j := 1) (.int (I 9 1)) (sh_9 hT) (by decide) k_159 rfl dX7_open_15 ?_
  by_cases c2 : (I 9 1) < x1
  · replace hf := (if_pos c2).symm.trans hf
    refine X_icmp_gt_t (pc := 18) 30 dX7_open_18 (by decide) c2 ?_
    refine X_iconst (pc := 30) (-1 : Int32) dX7_open_30 (by decide) ?_
    cases hf
    exact X_ireturn (pc := 31) rfl dX7_open_31
  · replace hf := (if_neg c2).symm.trans hf
    refine X_icmp_gt_f (pc := 18) 30 dX7_open_18 (by decide) c2 ?_
    refine X_aload_n (pc := 21) (i := 0) 0 dX7_open_21 rfl rfl ?_
    refine X_get (pc := 22) (a := 9) (ci := 7) (j := 3) (.int x1) (sh_9 hT) (by decide) k_161 rfl dX7_open_22 ?_
    refine X_iconst (pc := 25) (1 : Int32) dX7_open_25 (by decide) ?_
    refine X_isub (pc := 26) dX7_open_26 ?_
    refine X_goto (pc := 27) 31 dX7_open_27 (by decide) ?_
    cases hf
    exact X_ireturn (pc := 31) rfl dX7_open_31
theorem u_Ro_open_9 {S : List xSh} {I : Nat → Nat → Int32} {L : Nat → Nat → Int64} {q : (Int32 × (Nat → Nat → Int32) × (Nat → Nat → Int64))} (hf : f_Ro_open_9 I L = some q) : FR S [1903] [] I q.2.1 L q.2.2 := by
  replace hf := (f_Ro_open_9.eq_1 _ _).symm.trans hf
  obtain ⟨x1, ex1, hf⟩ := bnd_e hf
  by_cases c2 : (I 9 1) < x1
  · replace hf := (if_pos c2).symm.trans hf
    cases hf
    exact (FR.fi FR.rf (by decide))
  · replace hf := (if_neg c2).symm.trans hf
    cases hf
    exact (FR.fi FR.rf (by decide))
def f_Ro_write_9 (a0 : Int32) (a1 : Int32) (a2 : Int32) (I : Nat → Nat → Int32) (L : Nat → Nat → Int64) : Option ((Nat → Nat → Int32) × (Nat → Nat → Int64)) := (bnd ((a0 * (I 9 0)) + a1) fun x1 => (if a0 < (0 : Int32) then (some (I, L)) else (if a1 < (0 : Int32) then (some (I, L)) else (if (I 9 0) ≤ a1 then (some (I, L)) else (if (6000 : Int32) ≤ x1 then (some (I, L)) else (if (0 ≤ x1 ∧ x1 < (6000 : Int32)) then (some ((uI I 10 (x1.toNatClampNeg) a2), L)) else none))))))
set_option maxRecDepth 100000 in
set_option maxHeartbeats 4000000 in
theorem c_Ro_write_9 {G : xG} {S : List xSh} {Rf : Nat → Nat → Option Nat} (hT : xTH S Rf) {a0 : Int32} {a1 : Int32} {a2 : Int32} {I : Nat → Nat → Int32} {L : Nat → Nat → Int64} {q : ((Nat → Nat → Int32) × (Nat → Nat → Int64))} (hf : f_Ro_write_9 a0 a1 a2 I L = some q) : CT G 1 m_Ro_write [.ref (xP G 9), .int a0, .int a1, .int a2] (S, I, L, Rf) (none, (S, q.1, q.2, Rf)) := by
  refine CT.of (by decide +kernel) (Nat.le_of_ble_eq_true rfl) ?_
  show X G 1 m_Ro_write 0 [(0, .ref (xP G 9)), (1, .int a0), (2, .int a1), (3, .int a2)] [] (S, I, L, Rf) (none, (S, q.1, q.2, Rf))
  replace hf := (f_Ro_write_9.eq_1 _ _ _ _ _).symm.trans hf
  refine X_iload_n (pc := 0) (i := 1) 1 dX7_write_0 rfl rfl ?_
  refine X_aload_n (pc := 1) (i := 0) 0 dX7_write_1 rfl rfl ?_
  refine X_get (pc := 2) (a := 9) (ci := 7) (j := 0) (.int (I 9 0)) (sh_9 hT) (by decide) k_158 rfl dX7_write_2 ?_
  refine X_imul (pc := 5) dX7_write_5 ?_
  refine X_iload_n (pc := 6) (i := 2) 2 dX7_write_6 rfl rfl ?_
  refine X_iadd (pc := 7) dX7_write_7 ?_
  obtain ⟨x1, ex1, hf⟩ := bnd_e hf
  refine X_tope ex1 ?_
  refine X_istore (pc := 8) [(4, .int x1), (0, .ref (xP G 9)), (1, .int a0), (2, .int a1), (3, .int a2)] dX7_write_8 (by decide) rfl ?_
  refine X_iload_n (pc := 10) (i := 1) 2 dX7_write_10 rfl rfl ?_
  by_cases c2 : a0 < (0 : Int32)
  · replace hf := (if_pos c2).symm.trans hf
    refine X_if_lt_t (pc := 11) 44 dX7_write_11 (by decide) c2 ?_
    cases hf
    exact X_return (pc := 44) rfl dX7_write_44
  · replace hf := (if_neg c2).symm.trans hf
    refine X_if_lt_f (pc := 11) 44 dX7_write_11 (by decide) c2 ?_
    refine X_iload_n (pc := 14) (i := 2) 3 dX7_write_14 rfl rfl ?_
    by_cases c3 : a1 < (0 : Int32)
    · replace hf := (if_pos c3).symm.trans hf
      refine X_if_lt_t (pc := 15) 44 dX7_write_15 (by decide) c3 ?_
      cases hf
      exact X_return (pc := 44) rfl dX7_write_44
    · replace hf := (if_neg c3).symm.trans hf
      refine X_if_lt_f (pc := 15) 44 dX7_write_15 (by decide) c3 ?_
      refine X_iload_n (pc := 18) (i := 2) 3 dX7_write_18 rfl rfl ?_
      refine X_aload_n (pc := 19) (i := 0) 1 dX7_write_19 rfl rfl ?_
      refine X_get (pc := 20) (a := 9) (ci := 7) (j := 0) (.int (I 9 0)) (sh_9 hT) (by decide) k_158 rfl dX7_write_20 ?_
      by_cases c4 : (I 9 0) ≤ a1
      · replace hf := (if_pos c4).symm.trans hf
        refine X_icmp_ge_t (pc := 23) 44 dX7_write_23 (by decide) c4 ?_
        cases hf
        exact X_return (pc := 44) rfl dX7_write_44
      · replace hf := (if_neg c4).symm.trans hf
        refine X_icmp_ge_f (pc := 23) 44 dX7_write_23 (by decide) c4 ?_
        refine X_iload (pc := 26) 0 dX7_write_26 rfl ?_
        refine X_aload_n (pc := 28) (i := 0) 1 dX7_write_28 rfl rfl ?_
        refine X_getr (pc := 29) (a := 9) (ci := 7) (j := 2) (c := 10) (sh_9 hT) (by decide) k_160 (rf_9_2 hT) (fun _ h => h) dX7_write_29 ?_
        refine X_alen (pc := 32) (6000 : Int32) (by decide) (sh_10 hT) (by decide) dX7_write_32 ?_
        by_cases c5 : (6000 : Int32) ≤ x1
        · replace hf := (if_pos c5).symm.trans hf
          refine X_icmp_ge_t (pc := 33) 44 dX7_write_33 (by decide) c5 ?_
          cases hf
          exact X_return (pc := 44) rfl dX7_write_44
        · replace hf := (if_neg c5).symm.trans hf
          refine X_icmp_ge_f (pc := 33) 44 dX7_write_33 (by decide) c5 ?_
          refine X_aload_n (pc := 36) (i := 0) 1 dX7_write_36 rfl rfl ?_
          refine X_getr (pc := 37) (a := 9) (ci := 7) (j := 2) (c := 10) (sh_9 hT) (by decide) k_160 (rf_9_2 hT) (fun _ h => h) dX7_write_37 ?_
          refine X_iload (pc := 40) 0 dX7_write_40 rfl ?_
          refine X_iload_n (pc := 42) (i := 3) 4 dX7_write_42 rfl rfl ?_
          obtain ⟨c6, hf⟩ := gd_some hf
          refine X_iastj (pc := 43) (j := (x1.toNatClampNeg)) (sh_10 hT) (vp_in_lit (N := 6000) c6 (by decide)) rfl dX7_write_43 ?_
          cases hf
          exact X_return (pc := 44) rfl dX7_write_44
theorem u_Ro_write_9 {S : List xSh} {a0 : Int32} {a1 : Int32} {a2 : Int32} {I : Nat → Nat → Int32} {L : Nat → Nat → Int64} {q : ((Nat → Nat → Int32) × (Nat → Nat → Int64))} (hf : f_Ro_write_9 a0 a1 a2 I L = some q) : FR S [10] [] I q.1 L q.2 := by
  replace hf := (f_Ro_write_9.eq_1 _ _ _ _ _).symm.trans hf
  obtain ⟨x1, ex1, hf⟩ := bnd_e hf
  by_cases c2 : a0 < (0 : Int32)
  · replace hf := (if_pos c2).symm.trans hf
    cases hf
    exact FR.rf
  · replace hf := (if_neg c2).symm.trans hf
    by_cases c3 : a1 < (0 : Int32)
    · replace hf := (if_pos c3).symm.trans hf
      cases hf
      exact FR.rf
    · replace hf := (if_neg c3).symm.trans hf
      by_cases c4 : (I 9 0) ≤ a1
      · replace hf := (if_pos c4).symm.trans hf
        cases hf
        exact FR.rf
      · replace hf := (if_neg c4).symm.trans hf
        by_cases c5 : (6000 : Int32) ≤ x1
        · replace hf := (if_pos c5).symm.trans hf
          cases hf
          exact FR.rf
        · replace hf := (if_neg c5).symm.trans hf
          obtain ⟨c6, hf⟩ := gd_some hf
          cases hf
          exact (FR.ai FR.rf (by decide))
theorem dX5_beat_0 : decode cX5_beat 0 = .ok (.aload_n 0, 1) := by decide +kernel
theorem dX5_beat_1 : decode cX5_beat 1 = .ok (.aload_n 0, 1) := by decide +kernel
theorem dX5_beat_2 : decode cX5_beat 2 = .ok (.getfield 69, 3) := by decide +kernel
theorem dX5_beat_5 : decode cX5_beat 5 = .ok (.ineg, 1) := by decide +kernel
theorem dX5_beat_6 : decode cX5_beat 6 = .ok (.putfield 69, 3) := by decide +kernel
theorem dX5_beat_9 : decode cX5_beat 9 = .ok (.iload_n 1, 1) := by decide +kernel
theorem dX5_beat_10 : decode cX5_beat 10 = .ok (.i2l, 1) := by decide +kernel
theorem dX5_beat_11 : decode cX5_beat 11 = .ok (.aload_n 0, 1) := by decide +kernel
theorem dX5_beat_12 : decode cX5_beat 12 = .ok (.getfield 53, 3) := by decide +kernel
theorem dX5_beat_15 : decode cX5_beat 15 = .ok (.i2l, 1) := by decide +kernel
theorem dX5_beat_16 : decode cX5_beat 16 = .ok (.lmul, 1) := by decide +kernel
theorem dX5_beat_17 : decode cX5_beat 17 = .ok (.bipush 16, 2) := by decide +kernel
theorem dX5_beat_19 : decode cX5_beat 19 = .ok (.lshr, 1) := by decide +kernel
theorem dX5_beat_20 : decode cX5_beat 20 = .ok (.lstore_n 2, 1) := by decide +kernel
theorem dX5_beat_21 : decode cX5_beat 21 = .ok (.aload_n 0, 1) := by decide +kernel
theorem dX5_beat_22 : decode cX5_beat 22 = .ok (.aload_n 0, 1) := by decide +kernel
theorem dX5_beat_23 : decode cX5_beat 23 = .ok (.getfield 66, 3) := by decide +kernel
theorem dX5_beat_26 : decode cX5_beat 26 = .ok (.ifCond .le 13, 3) := by decide +kernel
theorem dX5_beat_29 : decode cX5_beat 29 = .ok (.aload_n 0, 1) := by decide +kernel
theorem dX5_beat_30 : decode cX5_beat 30 = .ok (.getfield 66, 3) := by decide +kernel
theorem dX5_beat_33 : decode cX5_beat 33 = .ok (.i2l, 1) := by decide +kernel
theorem dX5_beat_34 : decode cX5_beat 34 = .ok (.lload_n 2, 1) := by decide +kernel
theorem dX5_beat_35 : decode cX5_beat 35 = .ok (.ladd, 1) := by decide +kernel
theorem dX5_beat_36 : decode cX5_beat 36 = .ok (.goto 10, 3) := by decide +kernel
theorem dX5_beat_39 : decode cX5_beat 39 = .ok (.aload_n 0, 1) := by decide +kernel
theorem dX5_beat_40 : decode cX5_beat 40 = .ok (.getfield 66, 3) := by decide +kernel
theorem dX5_beat_43 : decode cX5_beat 43 = .ok (.i2l, 1) := by decide +kernel
theorem dX5_beat_44 : decode cX5_beat 44 = .ok (.lload_n 2, 1) := by decide +kernel
theorem dX5_beat_45 : decode cX5_beat 45 = .ok (.lsub, 1) := by decide +kernel
theorem dX5_beat_46 : decode cX5_beat 46 = .ok (.invokestatic 87, 3) := by decide +kernel
theorem dX5_beat_49 : decode cX5_beat 49 = .ok (.putfield 66, 3) := by decide +kernel
theorem dX5_beat_52 : decode cX5_beat 52 = .ok (.aload_n 0, 1) := by decide +kernel
theorem dX5_beat_53 : decode cX5_beat 53 = .ok (.dup, 1) := by decide +kernel
theorem dX5_beat_54 : decode cX5_beat 54 = .ok (.getfield 75, 3) := by decide +kernel
theorem dX5_beat_57 : decode cX5_beat 57 = .ok (.iconst 1, 1) := by decide +kernel
theorem dX5_beat_58 : decode cX5_beat 58 = .ok (.iadd, 1) := by decide +kernel
theorem dX5_beat_59 : decode cX5_beat 59 = .ok (.putfield 75, 3) := by decide +kernel
theorem dX5_beat_62 : decode cX5_beat 62 = .ok (.aload_n 0, 1) := by decide +kernel
theorem dX5_beat_63 : decode cX5_beat 63 = .ok (.getfield 25, 3) := by decide +kernel
theorem dX5_beat_66 : decode cX5_beat 66 = .ok (.invokevirtual 127, 3) := by decide +kernel
theorem dX5_beat_69 : decode cX5_beat 69 = .ok (.istore 4, 2) := by decide +kernel
theorem dX5_beat_71 : decode cX5_beat 71 = .ok (.aload_n 0, 1) := by decide +kernel
theorem dX5_beat_72 : decode cX5_beat 72 = .ok (.getfield 25, 3) := by decide +kernel
theorem dX5_beat_75 : decode cX5_beat 75 = .ok (.iload 4, 2) := by decide +kernel
theorem dX5_beat_77 : decode cX5_beat 77 = .ok (.iconst 0, 1) := by decide +kernel
theorem dX5_beat_78 : decode cX5_beat 78 = .ok (.aload_n 0, 1) := by decide +kernel
theorem dX5_beat_79 : decode cX5_beat 79 = .ok (.getfield 72, 3) := by decide +kernel
theorem dX5_beat_82 : decode cX5_beat 82 = .ok (.invokevirtual 130, 3) := by decide +kernel
theorem dX5_beat_85 : decode cX5_beat 85 = .ok (.aload_n 0, 1) := by decide +kernel
theorem dX5_beat_86 : decode cX5_beat 86 = .ok (.getfield 25, 3) := by decide +kernel
theorem dX5_beat_89 : decode cX5_beat 89 = .ok (.iload 4, 2) := by decide +kernel
theorem dX5_beat_91 : decode cX5_beat 91 = .ok (.iconst 1, 1) := by decide +kernel
theorem dX5_beat_92 : decode cX5_beat 92 = .ok (.aload_n 0, 1) := by decide +kernel
theorem dX5_beat_93 : decode cX5_beat 93 = .ok (.getfield 81, 3) := by decide +kernel
theorem dX5_beat_96 : decode cX5_beat 96 = .ok (.invokevirtual 130, 3) := by decide +kernel
theorem dX5_beat_99 : decode cX5_beat 99 = .ok (.aload_n 0, 1) := by decide +kernel
theorem dX5_beat_100 : decode cX5_beat 100 = .ok (.iconst 0, 1) := by decide +kernel
theorem dX5_beat_101 : decode cX5_beat 101 = .ok (.putfield 81, 3) := by decide +kernel
theorem dX5_beat_104 : decode cX5_beat 104 = .ok (.return_, 1) := by decide +kernel
def f_Es_beat_L46 (s1 : Int64) (I : (Nat → Nat → Int32)) (L : (Nat → Nat → Int64)) : Option ((Nat → Nat → Int32) × (Nat → Nat → Int64)) := (bnd (f_Es_held s1) fun x4 => (bnd ((I 1 12) + (1 : Int32)) fun x5 => ((f_Ro_open_9 (uI (uI I 1 9 x4) 1 12 x5) L).bind fun q6 => ((f_Ro_write_9 q6.1 (0 : Int32) (q6.2.1 1 11) q6.2.1 q6.2.2).bind fun q8 => ((f_Ro_write_9 q6.1 (1 : Int32) (q8.1 1 14) q8.1 q8.2).bind fun q10 => (some ((uI q10.1 1 14 (0 : Int32)), q10.2)))))))
set_option maxRecDepth 100000 in
set_option maxHeartbeats 4000000 in
theorem x_Es_beat_L46 {G : xG} {S : List xSh} {Rf : Nat → Nat → Option Nat} (hT : xTH S Rf) {s1 : Int64} {I : Nat → Nat → Int32} {L : Nat → Nat → Int64} {q : ((Nat → Nat → Int32) × (Nat → Nat → Int64))} (hf : f_Es_beat_L46 s1 I L = some q) : X G 2 m_Es_beat 46 [(0, .ref (xP G 1))] [.long s1, .ref (xP G 1)] (S, I, L, Rf) (none, (S, q.1, q.2, Rf)) := by
  replace hf := (f_Es_beat_L46.eq_1 _ _ _).symm.trans hf
  refine X_invS_i (pc := 46) (c_Es_held hT rfl) ok_Es_held k_743 k_744 nd_18 (by decide) rfl (Nat.le_of_ble_eq_true rfl) dX5_beat_46 ?_
  obtain ⟨x4, ex4, hf⟩ := bnd_e hf
  refine X_tope ex4 ?_
  refine X_puti (pc := 49) (a := 1) (ci := 5) (j := 9) 9 rfl false (sh_1 hT) (by decide) k_186 rfl (fun h => by cases h) rfl dX5_beat_49 ?_
  refine X_aload_n (pc := 52) (i := 0) 0 dX5_beat_52 rfl rfl ?_
  refine X_dup (pc := 53) dX5_beat_53 rfl ?_
  refine X_get (pc := 54) (a := 1) (ci := 5) (j := 12) (.int (I 1 12)) (sh_1 hT) (by decide) k_192 rfl dX5_beat_54 ?_
  refine X_iconst (pc := 57) (1 : Int32) dX5_beat_57 (by decide) ?_
  refine X_iadd (pc := 58) dX5_beat_58 ?_
  obtain ⟨x5, ex5, hf⟩ := bnd_e hf
  refine X_tope ex5 ?_
  refine X_puti (pc := 59) (a := 1) (ci := 5) (j := 12) 12 rfl false (sh_1 hT) (by decide) k_192 rfl (fun h => by cases h) rfl dX5_beat_59 ?_
  refine X_aload_n (pc := 62) (i := 0) 0 dX5_beat_62 rfl rfl ?_
  refine X_getr (pc := 63) (a := 1) (ci := 5) (j := 15) (c := 9) (sh_1 hT) (by decide) k_198 (rf_1_15 hT) (fun _ h => h) dX5_beat_63 ?_
  obtain ⟨q6, c7, hf⟩ := bd_some hf
  refine X_invV_i (pc := 66) (c_Ro_open_9 hT c7) ok_Ro_open (ci := 7) (sh_9 hT) k_781 k_728 k_729 nd_4 (by decide) rfl (Nat.le_of_ble_eq_true rfl) dX5_beat_66 ?_
  refine X_istore (pc := 69) [(4, .int q6.1), (0, .ref (xP G 1))] dX5_beat_69 (by decide) rfl ?_
  refine X_aload_n (pc := 71) (i := 0) 1 dX5_beat_71 rfl rfl ?_
  refine X_getr (pc := 72) (a := 1) (ci := 5) (j := 15) (c := 9) (sh_1 hT) (by decide) k_198 (rf_1_15 hT) (fun _ h => h) dX5_beat_72 ?_
  refine X_iload (pc := 75) 0 dX5_beat_75 rfl ?_
  refine X_iconst (pc := 77) (0 : Int32) dX5_beat_77 (by decide) ?_
  refine X_aload_n (pc := 78) (i := 0) 1 dX5_beat_78 rfl rfl ?_
  refine X_get (pc := 79) (a := 1) (ci := 5) (j := 11) (.int (q6.2.1 1 11)) (sh_1 hT) (by decide) k_190 rfl dX5_beat_79 ?_
  obtain ⟨q8, c9, hf⟩ := bd_some hf
  refine X_invV_v (pc := 82) (c_Ro_write_9 hT c9) ok_Ro_write (ci := 7) (sh_9 hT) k_782 k_732 k_733 nd_7 (by decide) rfl (Nat.le_of_ble_eq_true rfl) dX5_beat_82 ?_
  refine X_aload_n (pc := 85) (i := 0) 1 dX5_beat_85 rfl rfl ?_
  refine X_getr (pc := 86) (a := 1) (ci := 5) (j := 15) (c := 9) (sh_1 hT) (by decide) k_198 (rf_1_15 hT) (fun _ h => h) dX5_beat_86 ?_
  refine X_iload (pc := 89) 0 dX5_beat_89 rfl ?_
  refine X_iconst (pc := 91) (1 : Int32) dX5_beat_91 (by decide) ?_
  refine X_aload_n (pc := 92) (i := 0) 1 dX5_beat_92 rfl rfl ?_
  refine X_get (pc := 93) (a := 1) (ci := 5) (j := 14) (.int (q8.1 1 14)) (sh_1 hT) (by decide) k_196 rfl dX5_beat_93 ?_
  obtain ⟨q10, c11, hf⟩ := bd_some hf
  refine X_invV_v (pc := 96) (c_Ro_write_9 hT c11) ok_Ro_write (ci := 7) (sh_9 hT) k_782 k_732 k_733 nd_7 (by decide) rfl (Nat.le_of_ble_eq_true rfl) dX5_beat_96 ?_
  refine X_aload_n (pc := 99) (i := 0) 1 dX5_beat_99 rfl rfl ?_
  refine X_iconst (pc := 100) (0 : Int32) dX5_beat_100 (by decide) ?_
  refine X_puti (pc := 101) (a := 1) (ci := 5) (j := 14) 14 rfl false (sh_1 hT) (by decide) k_196 rfl (fun h => by cases h) rfl dX5_beat_101 ?_
  cases hf
  exact X_return (pc := 104) rfl dX5_beat_104
theorem u_Es_beat_L46 {S : List xSh} {s1 : Int64} {I : Nat → Nat → Int32} {L : Nat → Nat → Int64} {q : ((Nat → Nat → Int32) × (Nat → Nat → Int64))} (hf : f_Es_beat_L46 s1 I L = some q) : FR S [10, 1109, 1110, 1112, 1114, 1903] [] I q.1 L q.2 := by
  replace hf := (f_Es_beat_L46.eq_1 _ _ _).symm.trans hf
  obtain ⟨x4, ex4, hf⟩ := bnd_e hf
  obtain ⟨x5, ex5, hf⟩ := bnd_e hf
  obtain ⟨q6, c7, hf⟩ := bd_some hf
  obtain ⟨q8, c9, hf⟩ := bd_some hf
  obtain ⟨q10, c11, hf⟩ := bd_some hf
  cases hf
  exact (FR.fi (FR.tr (FR.tr (FR.tr (FR.fi (FR.fi FR.rf (by decide)) (by decide)) (u_Ro_open_9 (q := q6) c7) (by decide) (by decide)) (u_Ro_write_9 (q := q8) c9) (by decide) (by decide)) (u_Ro_write_9 (q := q10) c11) (by decide) (by decide)) (by decide))
def f_Es_beat (a0 : Int32) (I : Nat → Nat → Int32) (L : Nat → Nat → Int64) : Option ((Nat → Nat → Int32) × (Nat → Nat → Int64)) := (bnd (-(I 1 10)) fun x1 => (bnd (((Int32.toInt64 a0) * (Int32.toInt64 (I 1 3))) >>> (Int32.toInt64 (16 : Int32) &&& 63)) fun x2 => (if (I 1 9) ≤ (0 : Int32) then (f_Es_beat_L46 ((Int32.toInt64 (I 1 9)) - x2) (uI I 1 10 x1) L) else (f_Es_beat_L46 ((Int32.toInt64 (I 1 9)) + x2) (uI I 1 10 x1) L))))
set_option maxRecDepth 100000 in
set_option maxHeartbeats 4000000 in
theorem c_Es_beat {G : xG} {S : List xSh} {Rf : Nat → Nat → Option Nat} (hT : xTH S Rf) {a0 : Int32} {I : Nat → Nat → Int32} {L : Nat → Nat → Int64} {q : ((Nat → Nat → Int32) × (Nat → Nat → Int64))} (hf : f_Es_beat a0 I L = some q) : CT G 2 m_Es_beat [.ref (xP G 1), .int a0] (S, I, L, Rf) (none, (S, q.1, q.2, Rf)) := by
  refine CT.of (by decide +kernel) (Nat.le_of_ble_eq_true rfl) ?_
  show X G 2 m_Es_beat 0 [(0, .ref (xP G 1)), (1, .int a0)] [] (S, I, L, Rf) (none, (S, q.1, q.2, Rf))
  replace hf := (f_Es_beat.eq_1 _ _ _).symm.trans hf
  refine X_aload_n (pc := 0) (i := 0) 0 dX5_beat_0 rfl rfl ?_
  refine X_aload_n (pc := 1) (i := 0) 0 dX5_beat_1 rfl rfl ?_
  refine X_get (pc := 2) (a := 1) (ci := 5) (j := 10) (.int (I 1 10)) (sh_1 hT) (by decide) k_188 rfl dX5_beat_2 ?_
  refine X_ineg (pc := 5) dX5_beat_5 ?_
  obtain ⟨x1, ex1, hf⟩ := bnd_e hf
  refine X_tope ex1 ?_
  refine X_puti (pc := 6) (a := 1) (ci := 5) (j := 10) 10 rfl false (sh_1 hT) (by decide) k_188 rfl (fun h => by cases h) rfl dX5_beat_6 ?_
  refine X_iload_n (pc := 9) (i := 1) 1 dX5_beat_9 rfl rfl ?_
  refine X_i2l (pc := 10) dX5_beat_10 ?_
  refine X_aload_n (pc := 11) (i := 0) 0 dX5_beat_11 rfl rfl ?_
  refine X_get (pc := 12) (a := 1) (ci := 5) (j := 3) (.int (I 1 3)) (sh_1 hT) (by decide) k_177 rfl dX5_beat_12 ?_
  refine X_i2l (pc := 15) dX5_beat_15 ?_
  refine X_lmul (pc := 16) dX5_beat_16 ?_
  refine X_bipush (pc := 17) (16 : Int32) dX5_beat_17 (by decide) ?_
  refine X_lshr (pc := 19) dX5_beat_19 ?_
  obtain ⟨x2, ex2, hf⟩ := bnd_e hf
  refine X_tople ex2 ?_
  refine X_lstore_n (pc := 20) (i := 2) [(2, .long x2), (0, .ref (xP G 1)), (1, .int a0)] dX5_beat_20 rfl (by decide) rfl ?_
  refine X_aload_n (pc := 21) (i := 0) 1 dX5_beat_21 rfl rfl ?_
  refine X_aload_n (pc := 22) (i := 0) 1 dX5_beat_22 rfl rfl ?_
  refine X_get (pc := 23) (a := 1) (ci := 5) (j := 9) (.int (I 1 9)) (sh_1 hT) (by decide) k_186 rfl dX5_beat_23 ?_
  by_cases c3 : (I 1 9) ≤ (0 : Int32)
  · replace hf := (if_pos c3).symm.trans hf
    refine X_if_le_t (pc := 26) 39 dX5_beat_26 (by decide) c3 ?_
    refine X_aload_n (pc := 39) (i := 0) 1 dX5_beat_39 rfl rfl ?_
    refine X_get (pc := 40) (a := 1) (ci := 5) (j := 9) (.int (I 1 9)) (sh_1 hT) (by decide) k_186 rfl dX5_beat_40 ?_
    refine X_i2l (pc := 43) dX5_beat_43 ?_
    refine X_lload_n (pc := 44) (i := 2) 0 dX5_beat_44 rfl rfl ?_
    refine X_lsub (pc := 45) dX5_beat_45 ?_
    exact X_lvs [1] rfl (x_Es_beat_L46 hT hf)
  · replace hf := (if_neg c3).symm.trans hf
    refine X_if_le_f (pc := 26) 39 dX5_beat_26 (by decide) c3 ?_
    refine X_aload_n (pc := 29) (i := 0) 1 dX5_beat_29 rfl rfl ?_
    refine X_get (pc := 30) (a := 1) (ci := 5) (j := 9) (.int (I 1 9)) (sh_1 hT) (by decide) k_186 rfl dX5_beat_30 ?_
    refine X_i2l (pc := 33) dX5_beat_33 ?_
    refine X_lload_n (pc := 34) (i := 2) 0 dX5_beat_34 rfl rfl ?_
    refine X_ladd (pc := 35) dX5_beat_35 ?_
    refine X_goto (pc := 36) 46 dX5_beat_36 (by decide) ?_
    exact X_lvs [1] rfl (x_Es_beat_L46 hT hf)
theorem u_Es_beat {S : List xSh} {a0 : Int32} {I : Nat → Nat → Int32} {L : Nat → Nat → Int64} {q : ((Nat → Nat → Int32) × (Nat → Nat → Int64))} (hf : f_Es_beat a0 I L = some q) : FR S [10, 1109, 1110, 1112, 1114, 1903] [] I q.1 L q.2 := by
  replace hf := (f_Es_beat.eq_1 _ _ _).symm.trans hf
  obtain ⟨x1, ex1, hf⟩ := bnd_e hf
  obtain ⟨x2, ex2, hf⟩ := bnd_e hf
  by_cases c3 : (I 1 9) ≤ (0 : Int32)
  · replace hf := (if_pos c3).symm.trans hf
    exact FR.tr (FR.fi FR.rf (by decide)) (u_Es_beat_L46 hf) (by decide) (by decide)
  · replace hf := (if_neg c3).symm.trans hf
    exact FR.tr (FR.fi FR.rf (by decide)) (u_Es_beat_L46 hf) (by decide) (by decide)
theorem dX6_turned_0 : decode cX6_turned 0 = .ok (.iload_n 1, 1) := by decide +kernel
theorem dX6_turned_1 : decode cX6_turned 1 = .ok (.ifCond .lt 20, 3) := by decide +kernel
theorem dX6_turned_4 : decode cX6_turned 4 = .ok (.iload_n 1, 1) := by decide +kernel
theorem dX6_turned_5 : decode cX6_turned 5 = .ok (.bipush 24, 2) := by decide +kernel
theorem dX6_turned_7 : decode cX6_turned 7 = .ok (.if_icmp .ge 14, 3) := by decide +kernel
theorem dX6_turned_10 : decode cX6_turned 10 = .ok (.aload_n 0, 1) := by decide +kernel
theorem dX6_turned_11 : decode cX6_turned 11 = .ok (.getfield 18, 3) := by decide +kernel
theorem dX6_turned_14 : decode cX6_turned 14 = .ok (.iload_n 1, 1) := by decide +kernel
theorem dX6_turned_15 : decode cX6_turned 15 = .ok (.laload, 1) := by decide +kernel
theorem dX6_turned_16 : decode cX6_turned 16 = .ok (.lconst 0, 1) := by decide +kernel
theorem dX6_turned_17 : decode cX6_turned 17 = .ok (.lcmp, 1) := by decide +kernel
theorem dX6_turned_18 : decode cX6_turned 18 = .ok (.ifCond .gt 5, 3) := by decide +kernel
theorem dX6_turned_21 : decode cX6_turned 21 = .ok (.lconst 0, 1) := by decide +kernel
theorem dX6_turned_22 : decode cX6_turned 22 = .ok (.lreturn, 1) := by decide +kernel
theorem dX6_turned_23 : decode cX6_turned 23 = .ok (.iload_n 3, 1) := by decide +kernel
theorem dX6_turned_24 : decode cX6_turned 24 = .ok (.i2l, 1) := by decide +kernel
theorem dX6_turned_25 : decode cX6_turned 25 = .ok (.aload_n 0, 1) := by decide +kernel
theorem dX6_turned_26 : decode cX6_turned 26 = .ok (.getfield 11, 3) := by decide +kernel
theorem dX6_turned_29 : decode cX6_turned 29 = .ok (.iload_n 1, 1) := by decide +kernel
theorem dX6_turned_30 : decode cX6_turned 30 = .ok (.laload, 1) := by decide +kernel
theorem dX6_turned_31 : decode cX6_turned 31 = .ok (.invokestatic 62, 3) := by decide +kernel
theorem dX6_turned_34 : decode cX6_turned 34 = .ok (.lmul, 1) := by decide +kernel
theorem dX6_turned_35 : decode cX6_turned 35 = .ok (.iload_n 2, 1) := by decide +kernel
theorem dX6_turned_36 : decode cX6_turned 36 = .ok (.i2l, 1) := by decide +kernel
theorem dX6_turned_37 : decode cX6_turned 37 = .ok (.lmul, 1) := by decide +kernel
theorem dX6_turned_38 : decode cX6_turned 38 = .ok (.aload_n 0, 1) := by decide +kernel
theorem dX6_turned_39 : decode cX6_turned 39 = .ok (.getfield 18, 3) := by decide +kernel
theorem dX6_turned_42 : decode cX6_turned 42 = .ok (.iload_n 1, 1) := by decide +kernel
theorem dX6_turned_43 : decode cX6_turned 43 = .ok (.laload, 1) := by decide +kernel
theorem dX6_turned_44 : decode cX6_turned 44 = .ok (.ldiv, 1) := by decide +kernel
theorem dX6_turned_45 : decode cX6_turned 45 = .ok (.lreturn, 1) := by decide +kernel
def f_Ge_turned (a0 : Int32) (a1 : Int32) (a2 : Int32) (I : Nat → Nat → Int32) (L : Nat → Nat → Int64) : Option Int64 := (if a0 < (0 : Int32) then (some (0 : Int64)) else (if (24 : Int32) ≤ a0 then (some (0 : Int64)) else (if (0 ≤ a0 ∧ a0 < (24 : Int32)) then (if (0 : Int64) < (L 5 (a0.toNatClampNeg)) then (if (0 ≤ a0 ∧ a0 < (24 : Int32)) then (if (0 ≤ a0 ∧ a0 < (24 : Int32)) then (if ¬ (L 5 (a0.toNatClampNeg)) = (0 : Int64) then (some ((((Int32.toInt64 a2) * (Jabs (L 3 (a0.toNatClampNeg)))) * (Int32.toInt64 a1)) / (L 5 (a0.toNatClampNeg)))) else none) else none) else none) else (some (0 : Int64))) else none)))
set_option maxRecDepth 100000 in
set_option maxHeartbeats 4000000 in
theorem c_Ge_turned {G : xG} {S : List xSh} {Rf : Nat → Nat → Option Nat} (hT : xTH S Rf) {a0 : Int32} {a1 : Int32} {a2 : Int32} {I : Nat → Nat → Int32} {L : Nat → Nat → Int64} {q : Int64} (hf : f_Ge_turned a0 a1 a2 I L = some q) : CT G 1 m_Ge_turned [.ref (xP G 2), .int a0, .int a1, .int a2] (S, I, L, Rf) (some (.long q), (S, I, L, Rf)) := by
  refine CT.of (by decide +kernel) (Nat.le_of_ble_eq_true rfl) ?_
  show X G 1 m_Ge_turned 0 [(0, .ref (xP G 2)), (1, .int a0), (2, .int a1), (3, .int a2)] [] (S, I, L, Rf) (some (.long q), (S, I, L, Rf))
  replace hf := (f_Ge_turned.eq_1 _ _ _ _ _).symm.trans hf
  refine X_iload_n (pc := 0) (i := 1) 1 dX6_turned_0 rfl rfl ?_
  by_cases c1 : a0 < (0 : Int32)
  · replace hf := (if_pos c1).symm.trans hf
    refine X_if_lt_t (pc := 1) 21 dX6_turned_1 (by decide) c1 ?_
    refine X_lconst (pc := 21) (0 : Int64) dX6_turned_21 (by decide) ?_
    cases hf
    exact X_lreturn (pc := 22) rfl dX6_turned_22
  · replace hf := (if_neg c1).symm.trans hf
    refine X_if_lt_f (pc := 1) 21 dX6_turned_1 (by decide) c1 ?_
    refine X_iload_n (pc := 4) (i := 1) 1 dX6_turned_4 rfl rfl ?_
    refine X_bipush (pc := 5) (24 : Int32) dX6_turned_5 (by decide) ?_
    by_cases c2 : (24 : Int32) ≤ a0
    · replace hf := (if_pos c2).symm.trans hf
      refine X_icmp_ge_t (pc := 7) 21 dX6_turned_7 (by decide) c2 ?_
      refine X_lconst (pc := 21) (0 : Int64) dX6_turned_21 (by decide) ?_
      cases hf
      exact X_lreturn (pc := 22) rfl dX6_turned_22
    · replace hf := (if_neg c2).symm.trans hf
      refine X_icmp_ge_f (pc := 7) 21 dX6_turned_7 (by decide) c2 ?_
      refine X_aload_n (pc := 10) (i := 0) 0 dX6_turned_10 rfl rfl ?_
      refine X_getr (pc := 11) (a := 2) (ci := 6) (j := 7) (c := 5) (sh_2 hT) (by decide) k_120 (rf_2_7 hT) (fun _ h => h) dX6_turned_11 ?_
      refine X_iload_n (pc := 14) (i := 1) 1 dX6_turned_14 rfl rfl ?_
      obtain ⟨c3, hf⟩ := gd_some hf
      refine X_laldj (pc := 15) (j := a0.toNatClampNeg) (L 5 (a0.toNatClampNeg)) (sh_5 hT) (vp_in_lit (N := 24) c3 (by decide)) rfl rfl dX6_turned_15 ?_
      refine X_lconst (pc := 16) (0 : Int64) dX6_turned_16 (by decide) ?_
      refine X_lcmp (pc := 17) dX6_turned_17 ?_
      by_cases c4 : (0 : Int64) < (L 5 (a0.toNatClampNeg))
      · replace hf := (if_pos c4).symm.trans hf
        refine X_if_gt_t (pc := 18) 23 dX6_turned_18 (by decide) ((lg_cmp_gt _ _).mpr c4) ?_
        refine X_iload_n (pc := 23) (i := 3) 3 dX6_turned_23 rfl rfl ?_
        refine X_i2l (pc := 24) dX6_turned_24 ?_
        refine X_aload_n (pc := 25) (i := 0) 0 dX6_turned_25 rfl rfl ?_
        refine X_getr (pc := 26) (a := 2) (ci := 6) (j := 5) (c := 3) (sh_2 hT) (by decide) k_116 (rf_2_5 hT) (fun _ h => h) dX6_turned_26 ?_
        refine X_iload_n (pc := 29) (i := 1) 1 dX6_turned_29 rfl rfl ?_
        obtain ⟨c5, hf⟩ := gd_some hf
        refine X_laldj (pc := 30) (j := a0.toNatClampNeg) (L 3 (a0.toNatClampNeg)) (sh_3 hT) (vp_in_lit (N := 24) c5 (by decide)) rfl rfl dX6_turned_30 ?_
        refine X_Jabs (pc := 31) k_602 (by decide) (Nat.le_of_ble_eq_true rfl) dX6_turned_31 ?_
        refine X_lmul (pc := 34) dX6_turned_34 ?_
        refine X_iload_n (pc := 35) (i := 2) 2 dX6_turned_35 rfl rfl ?_
        refine X_i2l (pc := 36) dX6_turned_36 ?_
        refine X_lmul (pc := 37) dX6_turned_37 ?_
        refine X_aload_n (pc := 38) (i := 0) 0 dX6_turned_38 rfl rfl ?_
        refine X_getr (pc := 39) (a := 2) (ci := 6) (j := 7) (c := 5) (sh_2 hT) (by decide) k_120 (rf_2_7 hT) (fun _ h => h) dX6_turned_39 ?_
        refine X_iload_n (pc := 42) (i := 1) 1 dX6_turned_42 rfl rfl ?_
        obtain ⟨c6, hf⟩ := gd_some hf
        refine X_laldj (pc := 43) (j := a0.toNatClampNeg) (L 5 (a0.toNatClampNeg)) (sh_5 hT) (vp_in_lit (N := 24) c6 (by decide)) rfl rfl dX6_turned_43 ?_
        obtain ⟨c7, hf⟩ := gd_some hf
        refine X_ldiv (pc := 44) dX6_turned_44 c7 ?_
        cases hf
        exact X_lreturn (pc := 45) rfl dX6_turned_45
      · replace hf := (if_neg c4).symm.trans hf
        refine X_if_gt_f (pc := 18) 23 dX6_turned_18 (by decide) (fun h => c4 ((lg_cmp_gt _ _).mp h)) ?_
        refine X_lconst (pc := 21) (0 : Int64) dX6_turned_21 (by decide) ?_
        cases hf
        exact X_lreturn (pc := 22) rfl dX6_turned_22
theorem dX5_letDown_0 : decode cX5_letDown 0 = .ok (.aload_n 0, 1) := by decide +kernel
theorem dX5_letDown_1 : decode cX5_letDown 1 = .ok (.getfield 10, 3) := by decide +kernel
theorem dX5_letDown_4 : decode cX5_letDown 4 = .ok (.aload_n 0, 1) := by decide +kernel
theorem dX5_letDown_5 : decode cX5_letDown 5 = .ok (.getfield 34, 3) := by decide +kernel
theorem dX5_letDown_8 : decode cX5_letDown 8 = .ok (.aload_n 0, 1) := by decide +kernel
theorem dX5_letDown_9 : decode cX5_letDown 9 = .ok (.getfield 75, 3) := by decide +kernel
theorem dX5_letDown_12 : decode cX5_letDown 12 = .ok (.sipush 256, 3) := by decide +kernel
theorem dX5_letDown_15 : decode cX5_letDown 15 = .ok (.invokevirtual 101, 3) := by decide +kernel
theorem dX5_letDown_18 : decode cX5_letDown 18 = .ok (.aload_n 0, 1) := by decide +kernel
theorem dX5_letDown_19 : decode cX5_letDown 19 = .ok (.getfield 59, 3) := by decide +kernel
theorem dX5_letDown_22 : decode cX5_letDown 22 = .ok (.lsub, 1) := by decide +kernel
theorem dX5_letDown_23 : decode cX5_letDown 23 = .ok (.lreturn, 1) := by decide +kernel
def f_Es_letDown (I : Nat → Nat → Int32) (L : Nat → Nat → Int64) : Option Int64 := ((f_Ge_turned (I 1 5) (I 1 12) (256 : Int32) I L).bind fun q1 => (some (q1 - (L 1 7))))
set_option maxRecDepth 100000 in
set_option maxHeartbeats 4000000 in
theorem c_Es_letDown {G : xG} {S : List xSh} {Rf : Nat → Nat → Option Nat} (hT : xTH S Rf) {I : Nat → Nat → Int32} {L : Nat → Nat → Int64} {q : Int64} (hf : f_Es_letDown I L = some q) : CT G 2 m_Es_letDown [.ref (xP G 1)] (S, I, L, Rf) (some (.long q), (S, I, L, Rf)) := by
  refine CT.of (by decide +kernel) (Nat.le_of_ble_eq_true rfl) ?_
  show X G 2 m_Es_letDown 0 [(0, .ref (xP G 1))] [] (S, I, L, Rf) (some (.long q), (S, I, L, Rf))
  replace hf := (f_Es_letDown.eq_1 _ _).symm.trans hf
  refine X_aload_n (pc := 0) (i := 0) 0 dX5_letDown_0 rfl rfl ?_
  refine X_getr (pc := 1) (a := 1) (ci := 5) (j := 0) (c := 2) (sh_1 hT) (by decide) k_173 (rf_1_0 hT) (fun _ h => h) dX5_letDown_1 ?_
  refine X_aload_n (pc := 4) (i := 0) 0 dX5_letDown_4 rfl rfl ?_
  refine X_get (pc := 5) (a := 1) (ci := 5) (j := 5) (.int (I 1 5)) (sh_1 hT) (by decide) k_179 rfl dX5_letDown_5 ?_
  refine X_aload_n (pc := 8) (i := 0) 0 dX5_letDown_8 rfl rfl ?_
  refine X_get (pc := 9) (a := 1) (ci := 5) (j := 12) (.int (I 1 12)) (sh_1 hT) (by decide) k_192 rfl dX5_letDown_9 ?_
  refine X_sipush (pc := 12) (256 : Int32) dX5_letDown_12 (by decide) ?_
  obtain ⟨q1, c2, hf⟩ := bd_some hf
  refine X_invV_l (pc := 15) (c_Ge_turned hT c2) ok_Ge_turned (ci := 6) (sh_2 hT) k_771 k_772 k_773 nd_19 (by decide) rfl (Nat.le_of_ble_eq_true rfl) dX5_letDown_15 ?_
  refine X_aload_n (pc := 18) (i := 0) 0 dX5_letDown_18 rfl rfl ?_
  refine X_get (pc := 19) (a := 1) (ci := 5) (j := 7) (.long (L 1 7)) (sh_1 hT) (by decide) k_183 rfl dX5_letDown_19 ?_
  refine X_lsub (pc := 22) dX5_letDown_22 ?_
  cases hf
  exact X_lreturn (pc := 23) rfl dX5_letDown_23
theorem dX5_torqueNow_0 : decode cX5_torqueNow 0 = .ok (.aload_n 0, 1) := by decide +kernel
theorem dX5_torqueNow_1 : decode cX5_torqueNow 1 = .ok (.invokevirtual 91, 3) := by decide +kernel
theorem dX5_torqueNow_4 : decode cX5_torqueNow 4 = .ok (.lstore_n 1, 1) := by decide +kernel
theorem dX5_torqueNow_5 : decode cX5_torqueNow 5 = .ok (.lload_n 1, 1) := by decide +kernel
theorem dX5_torqueNow_6 : decode cX5_torqueNow 6 = .ok (.lconst 0, 1) := by decide +kernel
theorem dX5_torqueNow_7 : decode cX5_torqueNow 7 = .ok (.lcmp, 1) := by decide +kernel
theorem dX5_torqueNow_8 : decode cX5_torqueNow 8 = .ok (.ifCond .lt 14, 3) := by decide +kernel
theorem dX5_torqueNow_11 : decode cX5_torqueNow 11 = .ok (.lload_n 1, 1) := by decide +kernel
theorem dX5_torqueNow_12 : decode cX5_torqueNow 12 = .ok (.bipush 8, 2) := by decide +kernel
theorem dX5_torqueNow_14 : decode cX5_torqueNow 14 = .ok (.lshr, 1) := by decide +kernel
theorem dX5_torqueNow_15 : decode cX5_torqueNow 15 = .ok (.ldc2_w 105, 3) := by decide +kernel
theorem dX5_torqueNow_18 : decode cX5_torqueNow 18 = .ok (.lcmp, 1) := by decide +kernel
theorem dX5_torqueNow_19 : decode cX5_torqueNow 19 = .ok (.ifCond .le 5, 3) := by decide +kernel
theorem dX5_torqueNow_22 : decode cX5_torqueNow 22 = .ok (.iconst 0, 1) := by decide +kernel
theorem dX5_torqueNow_23 : decode cX5_torqueNow 23 = .ok (.ireturn, 1) := by decide +kernel
theorem dX5_torqueNow_24 : decode cX5_torqueNow 24 = .ok (.lload_n 1, 1) := by decide +kernel
theorem dX5_torqueNow_25 : decode cX5_torqueNow 25 = .ok (.bipush 8, 2) := by decide +kernel
theorem dX5_torqueNow_27 : decode cX5_torqueNow 27 = .ok (.lshr, 1) := by decide +kernel
theorem dX5_torqueNow_28 : decode cX5_torqueNow 28 = .ok (.l2i, 1) := by decide +kernel
theorem dX5_torqueNow_29 : decode cX5_torqueNow 29 = .ok (.istore_n 3, 1) := by decide +kernel
theorem dX5_torqueNow_30 : decode cX5_torqueNow 30 = .ok (.lload_n 1, 1) := by decide +kernel
theorem dX5_torqueNow_31 : decode cX5_torqueNow 31 = .ok (.ldc2_w 107, 3) := by decide +kernel
theorem dX5_torqueNow_34 : decode cX5_torqueNow 34 = .ok (.land, 1) := by decide +kernel
theorem dX5_torqueNow_35 : decode cX5_torqueNow 35 = .ok (.l2i, 1) := by decide +kernel
theorem dX5_torqueNow_36 : decode cX5_torqueNow 36 = .ok (.istore 4, 2) := by decide +kernel
theorem dX5_torqueNow_38 : decode cX5_torqueNow 38 = .ok (.aload_n 0, 1) := by decide +kernel
theorem dX5_torqueNow_39 : decode cX5_torqueNow 39 = .ok (.getfield 16, 3) := by decide +kernel
theorem dX5_torqueNow_42 : decode cX5_torqueNow 42 = .ok (.iload_n 3, 1) := by decide +kernel
theorem dX5_torqueNow_43 : decode cX5_torqueNow 43 = .ok (.iaload, 1) := by decide +kernel
theorem dX5_torqueNow_44 : decode cX5_torqueNow 44 = .ok (.aload_n 0, 1) := by decide +kernel
theorem dX5_torqueNow_45 : decode cX5_torqueNow 45 = .ok (.getfield 16, 3) := by decide +kernel
theorem dX5_torqueNow_48 : decode cX5_torqueNow 48 = .ok (.iload_n 3, 1) := by decide +kernel
theorem dX5_torqueNow_49 : decode cX5_torqueNow 49 = .ok (.iconst 1, 1) := by decide +kernel
theorem dX5_torqueNow_50 : decode cX5_torqueNow 50 = .ok (.iadd, 1) := by decide +kernel
theorem dX5_torqueNow_51 : decode cX5_torqueNow 51 = .ok (.iaload, 1) := by decide +kernel
theorem dX5_torqueNow_52 : decode cX5_torqueNow 52 = .ok (.aload_n 0, 1) := by decide +kernel
theorem dX5_torqueNow_53 : decode cX5_torqueNow 53 = .ok (.getfield 16, 3) := by decide +kernel
theorem dX5_torqueNow_56 : decode cX5_torqueNow 56 = .ok (.iload_n 3, 1) := by decide +kernel
theorem dX5_torqueNow_57 : decode cX5_torqueNow 57 = .ok (.iaload, 1) := by decide +kernel
theorem dX5_torqueNow_58 : decode cX5_torqueNow 58 = .ok (.isub, 1) := by decide +kernel
theorem dX5_torqueNow_59 : decode cX5_torqueNow 59 = .ok (.iload 4, 2) := by decide +kernel
theorem dX5_torqueNow_61 : decode cX5_torqueNow 61 = .ok (.imul, 1) := by decide +kernel
theorem dX5_torqueNow_62 : decode cX5_torqueNow 62 = .ok (.bipush 8, 2) := by decide +kernel
theorem dX5_torqueNow_64 : decode cX5_torqueNow 64 = .ok (.ishr, 1) := by decide +kernel
theorem dX5_torqueNow_65 : decode cX5_torqueNow 65 = .ok (.iadd, 1) := by decide +kernel
theorem dX5_torqueNow_66 : decode cX5_torqueNow 66 = .ok (.ireturn, 1) := by decide +kernel
def f_Es_torqueNow (I : Nat → Nat → Int32) (L : Nat → Nat → Int64) : Option Int32 := ((f_Es_letDown I L).bind fun q1 => (if q1 < (0 : Int64) then (some (0 : Int32)) else (if (q1 >>> (Int32.toInt64 (8 : Int32) &&& 63)) ≤ (7 : Int64) then (bnd (Int64.toInt32 (q1 >>> (Int32.toInt64 (8 : Int32) &&& 63))) fun x5 => (bnd (Int64.toInt32 (q1 &&& (255 : Int64))) fun x6 => (if (0 ≤ x5 ∧ x5 < (9 : Int32)) then (if (0 ≤ (x5 + (1 : Int32)) ∧ (x5 + (1 : Int32)) < (9 : Int32)) then (if (0 ≤ x5 ∧ x5 < (9 : Int32)) then (bnd ((I 8 (x5.toNatClampNeg)) + ((((I 8 ((x5 + (1 : Int32)).toNatClampNeg)) - (I 8 (x5.toNatClampNeg))) * x6) >>> ((8 : Int32) &&& 31))) fun x10 => (some x10)) else none) else none) else none))) else (some (0 : Int32)))))
set_option maxRecDepth 100000 in
set_option maxHeartbeats 4000000 in
theorem c_Es_torqueNow {G : xG} {S : List xSh} {Rf : Nat → Nat → Option Nat} (hT : xTH S Rf) {I : Nat → Nat → Int32} {L : Nat → Nat → Int64} {q : Int32} (hf : f_Es_torqueNow I L = some q) : CT G 3 m_Es_torqueNow [.ref (xP G 1)] (S, I, L, Rf) (some (.int q), (S, I, L, Rf)) := by
  refine CT.of (by decide +kernel) (Nat.le_of_ble_eq_true rfl) ?_
  show X G 3 m_Es_torqueNow 0 [(0, .ref (xP G 1))] [] (S, I, L, Rf) (some (.int q), (S, I, L, Rf))
  replace hf := (f_Es_torqueNow.eq_1 _ _).symm.trans hf
  refine X_aload_n (pc := 0) (i := 0) 0 dX5_torqueNow_0 rfl rfl ?_
  obtain ⟨q1, c2, hf⟩ := bd_some hf
  refine X_invV_l (pc := 1) (c_Es_letDown hT c2) ok_Es_letDown (ci := 5) (sh_1 hT) k_767 k_768 k_769 nd_20 (by decide) rfl (Nat.le_of_ble_eq_true rfl) dX5_torqueNow_1 ?_
  refine X_lstore_n (pc := 4) (i := 1) [(1, .long q1), (0, .ref (xP G 1))] dX5_torqueNow_4 rfl (by decide) rfl ?_
  refine X_lload_n (pc := 5) (i := 1) 0 dX5_torqueNow_5 rfl rfl ?_
  refine X_lconst (pc := 6) (0 : Int64) dX5_torqueNow_6 (by decide) ?_
  refine X_lcmp (pc := 7) dX5_torqueNow_7 ?_
  by_cases c3 : q1 < (0 : Int64)
  · replace hf := (if_pos c3).symm.trans hf
    refine X_if_lt_t (pc := 8) 22 dX5_torqueNow_8 (by decide) ((lg_cmp_lt _ _).mpr c3) ?_
    refine X_iconst (pc := 22) (0 : Int32) dX5_torqueNow_22 (by decide) ?_
    cases hf
    exact X_ireturn (pc := 23) rfl dX5_torqueNow_23
  · replace hf := (if_neg c3).symm.trans hf
    refine X_if_lt_f (pc := 8) 22 dX5_torqueNow_8 (by decide) (fun h => c3 ((lg_cmp_lt _ _).mp h)) ?_
    refine X_lload_n (pc := 11) (i := 1) 0 dX5_torqueNow_11 rfl rfl ?_
    refine X_bipush (pc := 12) (8 : Int32) dX5_torqueNow_12 (by decide) ?_
    refine X_lshr (pc := 14) dX5_torqueNow_14 ?_
    refine X_ldc2 (pc := 15) (7 : Int64) k_775 dX5_torqueNow_15 ?_
    refine X_lcmp (pc := 18) dX5_torqueNow_18 ?_
    by_cases c4 : (q1 >>> (Int32.toInt64 (8 : Int32) &&& 63)) ≤ (7 : Int64)
    · replace hf := (if_pos c4).symm.trans hf
      refine X_if_le_t (pc := 19) 24 dX5_torqueNow_19 (by decide) ((lg_cmp_le _ _).mpr c4) ?_
      refine X_lload_n (pc := 24) (i := 1) 0 dX5_torqueNow_24 rfl rfl ?_
      refine X_bipush (pc := 25) (8 : Int32) dX5_torqueNow_25 (by decide) ?_
      refine X_lshr (pc := 27) dX5_torqueNow_27 ?_
      refine X_l2i (pc := 28) dX5_torqueNow_28 ?_
      obtain ⟨x5, ex5, hf⟩ := bnd_e hf
      refine X_tope ex5 ?_
      refine X_istore_n (pc := 29) (i := 3) [(3, .int x5), (1, .long q1), (0, .ref (xP G 1))] dX5_torqueNow_29 rfl (by decide) rfl ?_
      refine X_lload_n (pc := 30) (i := 1) 1 dX5_torqueNow_30 rfl rfl ?_
      refine X_ldc2 (pc := 31) (255 : Int64) k_776 dX5_torqueNow_31 ?_
      refine X_land (pc := 34) dX5_torqueNow_34 ?_
      refine X_l2i (pc := 35) dX5_torqueNow_35 ?_
      obtain ⟨x6, ex6, hf⟩ := bnd_e hf
      refine X_tope ex6 ?_
      refine X_istore (pc := 36) [(4, .int x6), (3, .int x5), (1, .long q1), (0, .ref (xP G 1))] dX5_torqueNow_36 (by decide) rfl ?_
      refine X_aload_n (pc := 38) (i := 0) 3 dX5_torqueNow_38 rfl rfl ?_
      refine X_getr (pc := 39) (a := 1) (ci := 5) (j := 6) (c := 8) (sh_1 hT) (by decide) k_181 (rf_1_6 hT) (fun _ h => h) dX5_torqueNow_39 ?_
      refine X_iload_n (pc := 42) (i := 3) 1 dX5_torqueNow_42 rfl rfl ?_
      obtain ⟨c7, hf⟩ := gd_some hf
      refine X_ialdj (pc := 43) (j := x5.toNatClampNeg) (I 8 (x5.toNatClampNeg)) (sh_8 hT) (vp_in_lit (N := 9) c7 (by decide)) rfl rfl dX5_torqueNow_43 ?_
      refine X_aload_n (pc := 44) (i := 0) 3 dX5_torqueNow_44 rfl rfl ?_
      refine X_getr (pc := 45) (a := 1) (ci := 5) (j := 6) (c := 8) (sh_1 hT) (by decide) k_181 (rf_1_6 hT) (fun _ h => h) dX5_torqueNow_45 ?_
      refine X_iload_n (pc := 48) (i := 3) 1 dX5_torqueNow_48 rfl rfl ?_
      refine X_iconst (pc := 49) (1 : Int32) dX5_torqueNow_49 (by decide) ?_
      refine X_iadd (pc := 50) dX5_torqueNow_50 ?_
      obtain ⟨c8, hf⟩ := gd_some hf
      refine X_ialdj (pc := 51) (j := (x5 + (1 : Int32)).toNatClampNeg) (I 8 ((x5 + (1 : Int32)).toNatClampNeg)) (sh_8 hT) (vp_in_lit (N := 9) c8 (by decide)) rfl rfl dX5_torqueNow_51 ?_
      refine X_aload_n (pc := 52) (i := 0) 3 dX5_torqueNow_52 rfl rfl ?_
      refine X_getr (pc := 53) (a := 1) (ci := 5) (j := 6) (c := 8) (sh_1 hT) (by decide) k_181 (rf_1_6 hT) (fun _ h => h) dX5_torqueNow_53 ?_
      refine X_iload_n (pc := 56) (i := 3) 1 dX5_torqueNow_56 rfl rfl ?_
      obtain ⟨c9, hf⟩ := gd_some hf
      refine X_ialdj (pc := 57) (j := x5.toNatClampNeg) (I 8 (x5.toNatClampNeg)) (sh_8 hT) (vp_in_lit (N := 9) c9 (by decide)) rfl rfl dX5_torqueNow_57 ?_
      refine X_isub (pc := 58) dX5_torqueNow_58 ?_
      refine X_iload (pc := 59) 0 dX5_torqueNow_59 rfl ?_
      refine X_imul (pc := 61) dX5_torqueNow_61 ?_
      refine X_bipush (pc := 62) (8 : Int32) dX5_torqueNow_62 (by decide) ?_
      refine X_ishr (pc := 64) dX5_torqueNow_64 ?_
      refine X_iadd (pc := 65) dX5_torqueNow_65 ?_
      obtain ⟨x10, ex10, hf⟩ := bnd_e hf
      refine X_tope ex10 ?_
      cases hf
      exact X_ireturn (pc := 66) rfl dX5_torqueNow_66
    · replace hf := (if_neg c4).symm.trans hf
      refine X_if_le_f (pc := 19) 24 dX5_torqueNow_19 (by decide) (fun h => c4 ((lg_cmp_le _ _).mp h)) ?_
      refine X_iconst (pc := 22) (0 : Int32) dX5_torqueNow_22 (by decide) ?_
      cases hf
      exact X_ireturn (pc := 23) rfl dX5_torqueNow_23
theorem dX5_step_0 : decode cX5_step 0 = .ok (.aload_n 0, 1) := by decide +kernel
theorem dX5_step_1 : decode cX5_step 1 = .ok (.dup, 1) := by decide +kernel
theorem dX5_step_2 : decode cX5_step 2 = .ok (.getfield 72, 3) := by decide +kernel
theorem dX5_step_5 : decode cX5_step 5 = .ok (.iconst 1, 1) := by decide +kernel
theorem dX5_step_6 : decode cX5_step 6 = .ok (.iadd, 1) := by decide +kernel
theorem dX5_step_7 : decode cX5_step 7 = .ok (.putfield 72, 3) := by decide +kernel
theorem dX5_step_10 : decode cX5_step 10 = .ok (.aload_n 0, 1) := by decide +kernel
theorem dX5_step_11 : decode cX5_step 11 = .ok (.aload_n 0, 1) := by decide +kernel
theorem dX5_step_12 : decode cX5_step 12 = .ok (.getfield 66, 3) := by decide +kernel
theorem dX5_step_15 : decode cX5_step 15 = .ok (.i2l, 1) := by decide +kernel
theorem dX5_step_16 : decode cX5_step 16 = .ok (.aload_n 0, 1) := by decide +kernel
theorem dX5_step_17 : decode cX5_step 17 = .ok (.getfield 63, 3) := by decide +kernel
theorem dX5_step_20 : decode cX5_step 20 = .ok (.i2l, 1) := by decide +kernel
theorem dX5_step_21 : decode cX5_step 21 = .ok (.aload_n 0, 1) := by decide +kernel
theorem dX5_step_22 : decode cX5_step 22 = .ok (.getfield 47, 3) := by decide +kernel
theorem dX5_step_25 : decode cX5_step 25 = .ok (.i2l, 1) := by decide +kernel
theorem dX5_step_26 : decode cX5_step 26 = .ok (.lmul, 1) := by decide +kernel
theorem dX5_step_27 : decode cX5_step 27 = .ok (.bipush 16, 2) := by decide +kernel
theorem dX5_step_29 : decode cX5_step 29 = .ok (.lshr, 1) := by decide +kernel
theorem dX5_step_30 : decode cX5_step 30 = .ok (.lsub, 1) := by decide +kernel
theorem dX5_step_31 : decode cX5_step 31 = .ok (.invokestatic 87, 3) := by decide +kernel
theorem dX5_step_34 : decode cX5_step 34 = .ok (.putfield 66, 3) := by decide +kernel
theorem dX5_step_37 : decode cX5_step 37 = .ok (.aload_n 0, 1) := by decide +kernel
theorem dX5_step_38 : decode cX5_step 38 = .ok (.aload_n 0, 1) := by decide +kernel
theorem dX5_step_39 : decode cX5_step 39 = .ok (.getfield 66, 3) := by decide +kernel
theorem dX5_step_42 : decode cX5_step 42 = .ok (.ifCond .le 19, 3) := by decide +kernel
theorem dX5_step_45 : decode cX5_step 45 = .ok (.iconst 0, 1) := by decide +kernel
theorem dX5_step_46 : decode cX5_step 46 = .ok (.aload_n 0, 1) := by decide +kernel
theorem dX5_step_47 : decode cX5_step 47 = .ok (.getfield 66, 3) := by decide +kernel
theorem dX5_step_50 : decode cX5_step 50 = .ok (.aload_n 0, 1) := by decide +kernel
theorem dX5_step_51 : decode cX5_step 51 = .ok (.getfield 50, 3) := by decide +kernel
theorem dX5_step_54 : decode cX5_step 54 = .ok (.isub, 1) := by decide +kernel
theorem dX5_step_55 : decode cX5_step 55 = .ok (.invokestatic 109, 3) := by decide +kernel
theorem dX5_step_58 : decode cX5_step 58 = .ok (.goto 16, 3) := by decide +kernel
theorem dX5_step_61 : decode cX5_step 61 = .ok (.iconst 0, 1) := by decide +kernel
theorem dX5_step_62 : decode cX5_step 62 = .ok (.aload_n 0, 1) := by decide +kernel
theorem dX5_step_63 : decode cX5_step 63 = .ok (.getfield 66, 3) := by decide +kernel
theorem dX5_step_66 : decode cX5_step 66 = .ok (.aload_n 0, 1) := by decide +kernel
theorem dX5_step_67 : decode cX5_step 67 = .ok (.getfield 50, 3) := by decide +kernel
theorem dX5_step_70 : decode cX5_step 70 = .ok (.iadd, 1) := by decide +kernel
theorem dX5_step_71 : decode cX5_step 71 = .ok (.invokestatic 113, 3) := by decide +kernel
theorem dX5_step_74 : decode cX5_step 74 = .ok (.putfield 66, 3) := by decide +kernel
theorem dX5_step_77 : decode cX5_step 77 = .ok (.aload_n 0, 1) := by decide +kernel
theorem dX5_step_78 : decode cX5_step 78 = .ok (.dup, 1) := by decide +kernel
theorem dX5_step_79 : decode cX5_step 79 = .ok (.getfield 63, 3) := by decide +kernel
theorem dX5_step_82 : decode cX5_step 82 = .ok (.aload_n 0, 1) := by decide +kernel
theorem dX5_step_83 : decode cX5_step 83 = .ok (.getfield 66, 3) := by decide +kernel
theorem dX5_step_86 : decode cX5_step 86 = .ok (.iadd, 1) := by decide +kernel
theorem dX5_step_87 : decode cX5_step 87 = .ok (.putfield 63, 3) := by decide +kernel
theorem dX5_step_90 : decode cX5_step 90 = .ok (.aload_n 0, 1) := by decide +kernel
theorem dX5_step_91 : decode cX5_step 91 = .ok (.getfield 63, 3) := by decide +kernel
theorem dX5_step_94 : decode cX5_step 94 = .ok (.invokestatic 115, 3) := by decide +kernel
theorem dX5_step_97 : decode cX5_step 97 = .ok (.aload_n 0, 1) := by decide +kernel
theorem dX5_step_98 : decode cX5_step 98 = .ok (.getfield 56, 3) := by decide +kernel
theorem dX5_step_101 : decode cX5_step 101 = .ok (.if_icmp .le 45, 3) := by decide +kernel
theorem dX5_step_104 : decode cX5_step 104 = .ok (.aload_n 0, 1) := by decide +kernel
theorem dX5_step_105 : decode cX5_step 105 = .ok (.aload_n 0, 1) := by decide +kernel
theorem dX5_step_106 : decode cX5_step 106 = .ok (.getfield 63, 3) := by decide +kernel
theorem dX5_step_109 : decode cX5_step 109 = .ok (.ifCond .le 10, 3) := by decide +kernel
theorem dX5_step_112 : decode cX5_step 112 = .ok (.aload_n 0, 1) := by decide +kernel
theorem dX5_step_113 : decode cX5_step 113 = .ok (.getfield 56, 3) := by decide +kernel
theorem dX5_step_116 : decode cX5_step 116 = .ok (.goto 8, 3) := by decide +kernel
theorem dX5_step_119 : decode cX5_step 119 = .ok (.aload_n 0, 1) := by decide +kernel
theorem dX5_step_120 : decode cX5_step 120 = .ok (.getfield 56, 3) := by decide +kernel
theorem dX5_step_123 : decode cX5_step 123 = .ok (.ineg, 1) := by decide +kernel
theorem dX5_step_124 : decode cX5_step 124 = .ok (.putfield 63, 3) := by decide +kernel
theorem dX5_step_127 : decode cX5_step 127 = .ok (.aload_n 0, 1) := by decide +kernel
theorem dX5_step_128 : decode cX5_step 128 = .ok (.aload_n 0, 1) := by decide +kernel
theorem dX5_step_129 : decode cX5_step 129 = .ok (.getfield 66, 3) := by decide +kernel
theorem dX5_step_132 : decode cX5_step 132 = .ok (.ineg, 1) := by decide +kernel
theorem dX5_step_133 : decode cX5_step 133 = .ok (.putfield 66, 3) := by decide +kernel
theorem dX5_step_136 : decode cX5_step 136 = .ok (.aload_n 0, 1) := by decide +kernel
theorem dX5_step_137 : decode cX5_step 137 = .ok (.dup, 1) := by decide +kernel
theorem dX5_step_138 : decode cX5_step 138 = .ok (.getfield 78, 3) := by decide +kernel
theorem dX5_step_141 : decode cX5_step 141 = .ok (.iconst 1, 1) := by decide +kernel
theorem dX5_step_142 : decode cX5_step 142 = .ok (.iadd, 1) := by decide +kernel
theorem dX5_step_143 : decode cX5_step 143 = .ok (.putfield 78, 3) := by decide +kernel
theorem dX5_step_146 : decode cX5_step 146 = .ok (.aload_n 0, 1) := by decide +kernel
theorem dX5_step_147 : decode cX5_step 147 = .ok (.aload_n 0, 1) := by decide +kernel
theorem dX5_step_148 : decode cX5_step 148 = .ok (.getfield 81, 3) := by decide +kernel
theorem dX5_step_151 : decode cX5_step 151 = .ok (.aload_n 0, 1) := by decide +kernel
theorem dX5_step_152 : decode cX5_step 152 = .ok (.getfield 63, 3) := by decide +kernel
theorem dX5_step_155 : decode cX5_step 155 = .ok (.invokestatic 115, 3) := by decide +kernel
theorem dX5_step_158 : decode cX5_step 158 = .ok (.invokestatic 109, 3) := by decide +kernel
theorem dX5_step_161 : decode cX5_step 161 = .ok (.putfield 81, 3) := by decide +kernel
theorem dX5_step_164 : decode cX5_step 164 = .ok (.aload_n 0, 1) := by decide +kernel
theorem dX5_step_165 : decode cX5_step 165 = .ok (.getfield 69, 3) := by decide +kernel
theorem dX5_step_168 : decode cX5_step 168 = .ok (.ifCond .ge 25, 3) := by decide +kernel
theorem dX5_step_171 : decode cX5_step 171 = .ok (.aload_n 0, 1) := by decide +kernel
theorem dX5_step_172 : decode cX5_step 172 = .ok (.getfield 63, 3) := by decide +kernel
theorem dX5_step_175 : decode cX5_step 175 = .ok (.ifCond .lt 14, 3) := by decide +kernel
theorem dX5_step_178 : decode cX5_step 178 = .ok (.aload_n 0, 1) := by decide +kernel
theorem dX5_step_179 : decode cX5_step 179 = .ok (.getfield 66, 3) := by decide +kernel
theorem dX5_step_182 : decode cX5_step 182 = .ok (.ifCond .le 7, 3) := by decide +kernel
theorem dX5_step_185 : decode cX5_step 185 = .ok (.iconst 1, 1) := by decide +kernel
theorem dX5_step_186 : decode cX5_step 186 = .ok (.goto 26, 3) := by decide +kernel
theorem dX5_step_189 : decode cX5_step 189 = .ok (.iconst 0, 1) := by decide +kernel
theorem dX5_step_190 : decode cX5_step 190 = .ok (.goto 22, 3) := by decide +kernel
theorem dX5_step_193 : decode cX5_step 193 = .ok (.aload_n 0, 1) := by decide +kernel
theorem dX5_step_194 : decode cX5_step 194 = .ok (.getfield 63, 3) := by decide +kernel
theorem dX5_step_197 : decode cX5_step 197 = .ok (.ifCond .gt 14, 3) := by decide +kernel
theorem dX5_step_200 : decode cX5_step 200 = .ok (.aload_n 0, 1) := by decide +kernel
theorem dX5_step_201 : decode cX5_step 201 = .ok (.getfield 66, 3) := by decide +kernel
theorem dX5_step_204 : decode cX5_step 204 = .ok (.ifCond .ge 7, 3) := by decide +kernel
theorem dX5_step_207 : decode cX5_step 207 = .ok (.iconst 1, 1) := by decide +kernel
theorem dX5_step_208 : decode cX5_step 208 = .ok (.goto 4, 3) := by decide +kernel
theorem dX5_step_211 : decode cX5_step 211 = .ok (.iconst 0, 1) := by decide +kernel
theorem dX5_step_212 : decode cX5_step 212 = .ok (.istore_n 1, 1) := by decide +kernel
theorem dX5_step_213 : decode cX5_step 213 = .ok (.iload_n 1, 1) := by decide +kernel
theorem dX5_step_214 : decode cX5_step 214 = .ok (.ifCond .eq 10, 3) := by decide +kernel
theorem dX5_step_217 : decode cX5_step 217 = .ok (.aload_n 0, 1) := by decide +kernel
theorem dX5_step_218 : decode cX5_step 218 = .ok (.invokevirtual 119, 3) := by decide +kernel
theorem dX5_step_221 : decode cX5_step 221 = .ok (.goto 4, 3) := by decide +kernel
theorem dX5_step_224 : decode cX5_step 224 = .ok (.iconst 0, 1) := by decide +kernel
theorem dX5_step_225 : decode cX5_step 225 = .ok (.istore_n 2, 1) := by decide +kernel
theorem dX5_step_226 : decode cX5_step 226 = .ok (.iload_n 2, 1) := by decide +kernel
theorem dX5_step_227 : decode cX5_step 227 = .ok (.ifCond .le 8, 3) := by decide +kernel
theorem dX5_step_230 : decode cX5_step 230 = .ok (.aload_n 0, 1) := by decide +kernel
theorem dX5_step_231 : decode cX5_step 231 = .ok (.iload_n 2, 1) := by decide +kernel
theorem dX5_step_232 : decode cX5_step 232 = .ok (.invokevirtual 123, 3) := by decide +kernel
theorem dX5_step_235 : decode cX5_step 235 = .ok (.iload_n 2, 1) := by decide +kernel
theorem dX5_step_236 : decode cX5_step 236 = .ok (.ifCond .le 7, 3) := by decide +kernel
theorem dX5_step_239 : decode cX5_step 239 = .ok (.iconst 1, 1) := by decide +kernel
theorem dX5_step_240 : decode cX5_step 240 = .ok (.goto 4, 3) := by decide +kernel
theorem dX5_step_243 : decode cX5_step 243 = .ok (.iconst 0, 1) := by decide +kernel
theorem dX5_step_244 : decode cX5_step 244 = .ok (.ireturn, 1) := by decide +kernel
def f_Es_step_L235 (l2 : Int32) (I : (Nat → Nat → Int32)) (L : (Nat → Nat → Int64)) : Option (Int32 × (Nat → Nat → Int32) × (Nat → Nat → Int64)) := (if l2 ≤ (0 : Int32) then (some ((0 : Int32), I, L)) else (some ((1 : Int32), I, L)))
set_option maxRecDepth 100000 in
set_option maxHeartbeats 4000000 in
theorem x_Es_step_L235 {G : xG} {S : List xSh} {Rf : Nat → Nat → Option Nat} (hT : xTH S Rf) {l2 : Int32} {I : Nat → Nat → Int32} {L : Nat → Nat → Int64} {q : (Int32 × (Nat → Nat → Int32) × (Nat → Nat → Int64))} (hf : f_Es_step_L235 l2 I L = some q) : X G 4 m_Es_step 235 [(2, .int l2)] [] (S, I, L, Rf) (some (.int q.1), (S, q.2.1, q.2.2, Rf)) := by
  replace hf := (f_Es_step_L235.eq_1 _ _ _).symm.trans hf
  refine X_iload_n (pc := 235) (i := 2) 0 dX5_step_235 rfl rfl ?_
  by_cases c12 : l2 ≤ (0 : Int32)
  · replace hf := (if_pos c12).symm.trans hf
    refine X_if_le_t (pc := 236) 243 dX5_step_236 (by decide) c12 ?_
    refine X_iconst (pc := 243) (0 : Int32) dX5_step_243 (by decide) ?_
    cases hf
    exact X_zreturn (pc := 244) rfl (nar_b (by decide)) dX5_step_244
  · replace hf := (if_neg c12).symm.trans hf
    refine X_if_le_f (pc := 236) 243 dX5_step_236 (by decide) c12 ?_
    refine X_iconst (pc := 239) (1 : Int32) dX5_step_239 (by decide) ?_
    refine X_goto (pc := 240) 244 dX5_step_240 (by decide) ?_
    cases hf
    exact X_zreturn (pc := 244) rfl (nar_b (by decide)) dX5_step_244
theorem u_Es_step_L235 {S : List xSh} {l2 : Int32} {I : Nat → Nat → Int32} {L : Nat → Nat → Int64} {q : (Int32 × (Nat → Nat → Int32) × (Nat → Nat → Int64))} (hf : f_Es_step_L235 l2 I L = some q) : FR S [10, 1108, 1109, 1110, 1111, 1112, 1113, 1114, 1903] [] I q.2.1 L q.2.2 := by
  replace hf := (f_Es_step_L235.eq_1 _ _ _).symm.trans hf
  by_cases c12 : l2 ≤ (0 : Int32)
  · replace hf := (if_pos c12).symm.trans hf
    cases hf
    exact FR.rf
  · replace hf := (if_neg c12).symm.trans hf
    cases hf
    exact FR.rf
def f_Es_step_L225 (s0 : Int32) (I : (Nat → Nat → Int32)) (L : (Nat → Nat → Int64)) : Option (Int32 × (Nat → Nat → Int32) × (Nat → Nat → Int64)) := (if s0 ≤ (0 : Int32) then (f_Es_step_L235 s0 I L) else ((f_Es_beat s0 I L).bind fun q13 => (f_Es_step_L235 s0 q13.1 q13.2)))
set_option maxRecDepth 100000 in
set_option maxHeartbeats 4000000 in
theorem x_Es_step_L225 {G : xG} {S : List xSh} {Rf : Nat → Nat → Option Nat} (hT : xTH S Rf) {s0 : Int32} {I : Nat → Nat → Int32} {L : Nat → Nat → Int64} {q : (Int32 × (Nat → Nat → Int32) × (Nat → Nat → Int64))} (hf : f_Es_step_L225 s0 I L = some q) : X G 4 m_Es_step 225 [(0, .ref (xP G 1))] [.int s0] (S, I, L, Rf) (some (.int q.1), (S, q.2.1, q.2.2, Rf)) := by
  replace hf := (f_Es_step_L225.eq_1 _ _ _).symm.trans hf
  refine X_istore_n (pc := 225) (i := 2) [(2, .int s0), (0, .ref (xP G 1))] dX5_step_225 rfl (by decide) rfl ?_
  refine X_iload_n (pc := 226) (i := 2) 0 dX5_step_226 rfl rfl ?_
  by_cases c11 : s0 ≤ (0 : Int32)
  · replace hf := (if_pos c11).symm.trans hf
    refine X_if_le_t (pc := 227) 235 dX5_step_227 (by decide) c11 ?_
    exact X_lvs [0] rfl (x_Es_step_L235 hT hf)
  · replace hf := (if_neg c11).symm.trans hf
    refine X_if_le_f (pc := 227) 235 dX5_step_227 (by decide) c11 ?_
    refine X_aload_n (pc := 230) (i := 0) 1 dX5_step_230 rfl rfl ?_
    refine X_iload_n (pc := 231) (i := 2) 0 dX5_step_231 rfl rfl ?_
    obtain ⟨q13, c14, hf⟩ := bd_some hf
    refine X_invV_v (pc := 232) (c_Es_beat hT c14) ok_Es_beat (ci := 5) (sh_1 hT) k_777 k_779 k_13 nd_13 (by decide) rfl (Nat.le_of_ble_eq_true rfl) dX5_step_232 ?_
    exact X_lvs [0] rfl (x_Es_step_L235 hT hf)
theorem u_Es_step_L225 {S : List xSh} {s0 : Int32} {I : Nat → Nat → Int32} {L : Nat → Nat → Int64} {q : (Int32 × (Nat → Nat → Int32) × (Nat → Nat → Int64))} (hf : f_Es_step_L225 s0 I L = some q) : FR S [10, 1108, 1109, 1110, 1111, 1112, 1113, 1114, 1903] [] I q.2.1 L q.2.2 := by
  replace hf := (f_Es_step_L225.eq_1 _ _ _).symm.trans hf
  by_cases c11 : s0 ≤ (0 : Int32)
  · replace hf := (if_pos c11).symm.trans hf
    exact FR.tr FR.rf (u_Es_step_L235 hf) (by decide) (by decide)
  · replace hf := (if_neg c11).symm.trans hf
    obtain ⟨q13, c14, hf⟩ := bd_some hf
    exact FR.tr (FR.tr FR.rf (u_Es_beat (q := q13) c14) (by decide) (by decide)) (u_Es_step_L235 hf) (by decide) (by decide)
def f_Es_step_L212 (s0 : Int32) (I : (Nat → Nat → Int32)) (L : (Nat → Nat → Int64)) : Option (Int32 × (Nat → Nat → Int32) × (Nat → Nat → Int64)) := (if s0 = (0 : Int32) then (f_Es_step_L225 (0 : Int32) I L) else ((f_Es_torqueNow I L).bind fun q15 => (f_Es_step_L225 q15 I L)))
set_option maxRecDepth 100000 in
set_option maxHeartbeats 4000000 in
theorem x_Es_step_L212 {G : xG} {S : List xSh} {Rf : Nat → Nat → Option Nat} (hT : xTH S Rf) {s0 : Int32} {I : Nat → Nat → Int32} {L : Nat → Nat → Int64} {q : (Int32 × (Nat → Nat → Int32) × (Nat → Nat → Int64))} (hf : f_Es_step_L212 s0 I L = some q) : X G 4 m_Es_step 212 [(0, .ref (xP G 1))] [.int s0] (S, I, L, Rf) (some (.int q.1), (S, q.2.1, q.2.2, Rf)) := by
  replace hf := (f_Es_step_L212.eq_1 _ _ _).symm.trans hf
  refine X_istore_n (pc := 212) (i := 1) [(1, .int s0), (0, .ref (xP G 1))] dX5_step_212 rfl (by decide) rfl ?_
  refine X_iload_n (pc := 213) (i := 1) 0 dX5_step_213 rfl rfl ?_
  by_cases c10 : s0 = (0 : Int32)
  · replace hf := (if_pos c10).symm.trans hf
    refine X_if_eq_t (pc := 214) 224 dX5_step_214 (by decide) c10 ?_
    refine X_iconst (pc := 224) (0 : Int32) dX5_step_224 (by decide) ?_
    exact X_lvs [1] rfl (x_Es_step_L225 hT hf)
  · replace hf := (if_neg c10).symm.trans hf
    refine X_if_eq_f (pc := 214) 224 dX5_step_214 (by decide) c10 ?_
    refine X_aload_n (pc := 217) (i := 0) 1 dX5_step_217 rfl rfl ?_
    obtain ⟨q15, c16, hf⟩ := bd_some hf
    refine X_invV_i (pc := 218) (c_Es_torqueNow hT c16) ok_Es_torqueNow (ci := 5) (sh_1 hT) k_763 k_764 k_765 nd_4 (by decide) rfl (Nat.le_of_ble_eq_true rfl) dX5_step_218 ?_
    refine X_goto (pc := 221) 225 dX5_step_221 (by decide) ?_
    exact X_lvs [1] rfl (x_Es_step_L225 hT hf)
theorem u_Es_step_L212 {S : List xSh} {s0 : Int32} {I : Nat → Nat → Int32} {L : Nat → Nat → Int64} {q : (Int32 × (Nat → Nat → Int32) × (Nat → Nat → Int64))} (hf : f_Es_step_L212 s0 I L = some q) : FR S [10, 1108, 1109, 1110, 1111, 1112, 1113, 1114, 1903] [] I q.2.1 L q.2.2 := by
  replace hf := (f_Es_step_L212.eq_1 _ _ _).symm.trans hf
  by_cases c10 : s0 = (0 : Int32)
  · replace hf := (if_pos c10).symm.trans hf
    exact FR.tr FR.rf (u_Es_step_L225 hf) (by decide) (by decide)
  · replace hf := (if_neg c10).symm.trans hf
    obtain ⟨q15, c16, hf⟩ := bd_some hf
    exact FR.tr FR.rf (u_Es_step_L225 hf) (by decide) (by decide)
def f_Es_step_L211 (I : (Nat → Nat → Int32)) (L : (Nat → Nat → Int64)) : Option (Int32 × (Nat → Nat → Int32) × (Nat → Nat → Int64)) := (f_Es_step_L212 (0 : Int32) I L)
set_option maxRecDepth 100000 in
set_option maxHeartbeats 4000000 in
theorem x_Es_step_L211 {G : xG} {S : List xSh} {Rf : Nat → Nat → Option Nat} (hT : xTH S Rf) {I : Nat → Nat → Int32} {L : Nat → Nat → Int64} {q : (Int32 × (Nat → Nat → Int32) × (Nat → Nat → Int64))} (hf : f_Es_step_L211 I L = some q) : X G 4 m_Es_step 211 [(0, .ref (xP G 1))] [] (S, I, L, Rf) (some (.int q.1), (S, q.2.1, q.2.2, Rf)) := by
  replace hf := (f_Es_step_L211.eq_1 _ _).symm.trans hf
  refine X_iconst (pc := 211) (0 : Int32) dX5_step_211 (by decide) ?_
  exact X_lvs [0] rfl (x_Es_step_L212 hT hf)
theorem u_Es_step_L211 {S : List xSh} {I : Nat → Nat → Int32} {L : Nat → Nat → Int64} {q : (Int32 × (Nat → Nat → Int32) × (Nat → Nat → Int64))} (hf : f_Es_step_L211 I L = some q) : FR S [10, 1108, 1109, 1110, 1111, 1112, 1113, 1114, 1903] [] I q.2.1 L q.2.2 := by
  replace hf := (f_Es_step_L211.eq_1 _ _).symm.trans hf
  exact FR.tr FR.rf (u_Es_step_L212 hf) (by decide) (by decide)
def f_Es_step_L189 (I : (Nat → Nat → Int32)) (L : (Nat → Nat → Int64)) : Option (Int32 × (Nat → Nat → Int32) × (Nat → Nat → Int64)) := (f_Es_step_L212 (0 : Int32) I L)
set_option maxRecDepth 100000 in
set_option maxHeartbeats 4000000 in
theorem x_Es_step_L189 {G : xG} {S : List xSh} {Rf : Nat → Nat → Option Nat} (hT : xTH S Rf) {I : Nat → Nat → Int32} {L : Nat → Nat → Int64} {q : (Int32 × (Nat → Nat → Int32) × (Nat → Nat → Int64))} (hf : f_Es_step_L189 I L = some q) : X G 4 m_Es_step 189 [(0, .ref (xP G 1))] [] (S, I, L, Rf) (some (.int q.1), (S, q.2.1, q.2.2, Rf)) := by
  replace hf := (f_Es_step_L189.eq_1 _ _).symm.trans hf
  refine X_iconst (pc := 189) (0 : Int32) dX5_step_189 (by decide) ?_
  refine X_goto (pc := 190) 212 dX5_step_190 (by decide) ?_
  exact X_lvs [0] rfl (x_Es_step_L212 hT hf)
theorem u_Es_step_L189 {S : List xSh} {I : Nat → Nat → Int32} {L : Nat → Nat → Int64} {q : (Int32 × (Nat → Nat → Int32) × (Nat → Nat → Int64))} (hf : f_Es_step_L189 I L = some q) : FR S [10, 1108, 1109, 1110, 1111, 1112, 1113, 1114, 1903] [] I q.2.1 L q.2.2 := by
  replace hf := (f_Es_step_L189.eq_1 _ _).symm.trans hf
  exact FR.tr FR.rf (u_Es_step_L212 hf) (by decide) (by decide)
def f_Es_step_L146 (I : (Nat → Nat → Int32)) (L : (Nat → Nat → Int64)) : Option (Int32 × (Nat → Nat → Int32) × (Nat → Nat → Int64)) := (bnd (jmax (I 1 14) (jabs (I 1 8))) fun x7 => (if (0 : Int32) ≤ (I 1 10) then (if (0 : Int32) < (I 1 8) then (f_Es_step_L211 (uI I 1 14 x7) L) else (if (0 : Int32) ≤ (I 1 9) then (f_Es_step_L211 (uI I 1 14 x7) L) else (f_Es_step_L212 (1 : Int32) (uI I 1 14 x7) L))) else (if (I 1 8) < (0 : Int32) then (f_Es_step_L189 (uI I 1 14 x7) L) else (if (I 1 9) ≤ (0 : Int32) then (f_Es_step_L189 (uI I 1 14 x7) L) else (f_Es_step_L212 (1 : Int32) (uI I 1 14 x7) L)))))
set_option maxRecDepth 100000 in
set_option maxHeartbeats 4000000 in
theorem x_Es_step_L146 {G : xG} {S : List xSh} {Rf : Nat → Nat → Option Nat} (hT : xTH S Rf) {I : Nat → Nat → Int32} {L : Nat → Nat → Int64} {q : (Int32 × (Nat → Nat → Int32) × (Nat → Nat → Int64))} (hf : f_Es_step_L146 I L = some q) : X G 4 m_Es_step 146 [(0, .ref (xP G 1))] [] (S, I, L, Rf) (some (.int q.1), (S, q.2.1, q.2.2, Rf)) := by
  replace hf := (f_Es_step_L146.eq_1 _ _).symm.trans hf
  refine X_aload_n (pc := 146) (i := 0) 0 dX5_step_146 rfl rfl ?_
  refine X_aload_n (pc := 147) (i := 0) 0 dX5_step_147 rfl rfl ?_
  refine X_get (pc := 148) (a := 1) (ci := 5) (j := 14) (.int (I 1 14)) (sh_1 hT) (by decide) k_196 rfl dX5_step_148 ?_
  refine X_aload_n (pc := 151) (i := 0) 0 dX5_step_151 rfl rfl ?_
  refine X_get (pc := 152) (a := 1) (ci := 5) (j := 8) (.int (I 1 8)) (sh_1 hT) (by decide) k_184 rfl dX5_step_152 ?_
  refine X_jabs (pc := 155) k_760 (by decide) (Nat.le_of_ble_eq_true rfl) dX5_step_155 ?_
  refine X_jmax (pc := 158) k_754 (by decide) (Nat.le_of_ble_eq_true rfl) dX5_step_158 ?_
  obtain ⟨x7, ex7, hf⟩ := bnd_e hf
  refine X_tope ex7 ?_
  refine X_puti (pc := 161) (a := 1) (ci := 5) (j := 14) 14 rfl false (sh_1 hT) (by decide) k_196 rfl (fun h => by cases h) rfl dX5_step_161 ?_
  refine X_aload_n (pc := 164) (i := 0) 0 dX5_step_164 rfl rfl ?_
  refine X_get (pc := 165) (a := 1) (ci := 5) (j := 10) (.int (I 1 10)) (sh_1 hT) (by decide) k_188 rfl dX5_step_165 ?_
  by_cases c8 : (0 : Int32) ≤ (I 1 10)
  · replace hf := (if_pos c8).symm.trans hf
    refine X_if_ge_t (pc := 168) 193 dX5_step_168 (by decide) c8 ?_
    refine X_aload_n (pc := 193) (i := 0) 0 dX5_step_193 rfl rfl ?_
    refine X_get (pc := 194) (a := 1) (ci := 5) (j := 8) (.int (I 1 8)) (sh_1 hT) (by decide) k_184 rfl dX5_step_194 ?_
    by_cases c9 : (0 : Int32) < (I 1 8)
    · replace hf := (if_pos c9).symm.trans hf
      refine X_if_gt_t (pc := 197) 211 dX5_step_197 (by decide) c9 ?_
      exact X_lvs [0] rfl (x_Es_step_L211 hT hf)
    · replace hf := (if_neg c9).symm.trans hf
      refine X_if_gt_f (pc := 197) 211 dX5_step_197 (by decide) c9 ?_
      refine X_aload_n (pc := 200) (i := 0) 0 dX5_step_200 rfl rfl ?_
      refine X_get (pc := 201) (a := 1) (ci := 5) (j := 9) (.int (I 1 9)) (sh_1 hT) (by decide) k_186 rfl dX5_step_201 ?_
      by_cases c17 : (0 : Int32) ≤ (I 1 9)
      · replace hf := (if_pos c17).symm.trans hf
        refine X_if_ge_t (pc := 204) 211 dX5_step_204 (by decide) c17 ?_
        exact X_lvs [0] rfl (x_Es_step_L211 hT hf)
      · replace hf := (if_neg c17).symm.trans hf
        refine X_if_ge_f (pc := 204) 211 dX5_step_204 (by decide) c17 ?_
        refine X_iconst (pc := 207) (1 : Int32) dX5_step_207 (by decide) ?_
        refine X_goto (pc := 208) 212 dX5_step_208 (by decide) ?_
        exact X_lvs [0] rfl (x_Es_step_L212 hT hf)
  · replace hf := (if_neg c8).symm.trans hf
    refine X_if_ge_f (pc := 168) 193 dX5_step_168 (by decide) c8 ?_
    refine X_aload_n (pc := 171) (i := 0) 0 dX5_step_171 rfl rfl ?_
    refine X_get (pc := 172) (a := 1) (ci := 5) (j := 8) (.int (I 1 8)) (sh_1 hT) (by decide) k_184 rfl dX5_step_172 ?_
    by_cases c18 : (I 1 8) < (0 : Int32)
    · replace hf := (if_pos c18).symm.trans hf
      refine X_if_lt_t (pc := 175) 189 dX5_step_175 (by decide) c18 ?_
      exact X_lvs [0] rfl (x_Es_step_L189 hT hf)
    · replace hf := (if_neg c18).symm.trans hf
      refine X_if_lt_f (pc := 175) 189 dX5_step_175 (by decide) c18 ?_
      refine X_aload_n (pc := 178) (i := 0) 0 dX5_step_178 rfl rfl ?_
      refine X_get (pc := 179) (a := 1) (ci := 5) (j := 9) (.int (I 1 9)) (sh_1 hT) (by decide) k_186 rfl dX5_step_179 ?_
      by_cases c19 : (I 1 9) ≤ (0 : Int32)
      · replace hf := (if_pos c19).symm.trans hf
        refine X_if_le_t (pc := 182) 189 dX5_step_182 (by decide) c19 ?_
        exact X_lvs [0] rfl (x_Es_step_L189 hT hf)
      · replace hf := (if_neg c19).symm.trans hf
        refine X_if_le_f (pc := 182) 189 dX5_step_182 (by decide) c19 ?_
        refine X_iconst (pc := 185) (1 : Int32) dX5_step_185 (by decide) ?_
        refine X_goto (pc := 186) 212 dX5_step_186 (by decide) ?_
        exact X_lvs [0] rfl (x_Es_step_L212 hT hf)
theorem u_Es_step_L146 {S : List xSh} {I : Nat → Nat → Int32} {L : Nat → Nat → Int64} {q : (Int32 × (Nat → Nat → Int32) × (Nat → Nat → Int64))} (hf : f_Es_step_L146 I L = some q) : FR S [10, 1108, 1109, 1110, 1111, 1112, 1113, 1114, 1903] [] I q.2.1 L q.2.2 := by
  replace hf := (f_Es_step_L146.eq_1 _ _).symm.trans hf
  obtain ⟨x7, ex7, hf⟩ := bnd_e hf
  by_cases c8 : (0 : Int32) ≤ (I 1 10)
  · replace hf := (if_pos c8).symm.trans hf
    by_cases c9 : (0 : Int32) < (I 1 8)
    · replace hf := (if_pos c9).symm.trans hf
      exact FR.tr (FR.fi FR.rf (by decide)) (u_Es_step_L211 hf) (by decide) (by decide)
    · replace hf := (if_neg c9).symm.trans hf
      by_cases c17 : (0 : Int32) ≤ (I 1 9)
      · replace hf := (if_pos c17).symm.trans hf
        exact FR.tr (FR.fi FR.rf (by decide)) (u_Es_step_L211 hf) (by decide) (by decide)
      · replace hf := (if_neg c17).symm.trans hf
        exact FR.tr (FR.fi FR.rf (by decide)) (u_Es_step_L212 hf) (by decide) (by decide)
  · replace hf := (if_neg c8).symm.trans hf
    by_cases c18 : (I 1 8) < (0 : Int32)
    · replace hf := (if_pos c18).symm.trans hf
      exact FR.tr (FR.fi FR.rf (by decide)) (u_Es_step_L189 hf) (by decide) (by decide)
    · replace hf := (if_neg c18).symm.trans hf
      by_cases c19 : (I 1 9) ≤ (0 : Int32)
      · replace hf := (if_pos c19).symm.trans hf
        exact FR.tr (FR.fi FR.rf (by decide)) (u_Es_step_L189 hf) (by decide) (by decide)
      · replace hf := (if_neg c19).symm.trans hf
        exact FR.tr (FR.fi FR.rf (by decide)) (u_Es_step_L212 hf) (by decide) (by decide)
def f_Es_step_L124 (s1 : Int32) (I : (Nat → Nat → Int32)) (L : (Nat → Nat → Int64)) : Option (Int32 × (Nat → Nat → Int32) × (Nat → Nat → Int64)) := (bnd (-(I 1 9)) fun x21 => (bnd ((I 1 13) + (1 : Int32)) fun x22 => (f_Es_step_L146 (uI (uI (uI I 1 8 s1) 1 9 x21) 1 13 x22) L)))
set_option maxRecDepth 100000 in
set_option maxHeartbeats 4000000 in
theorem x_Es_step_L124 {G : xG} {S : List xSh} {Rf : Nat → Nat → Option Nat} (hT : xTH S Rf) {s1 : Int32} {I : Nat → Nat → Int32} {L : Nat → Nat → Int64} {q : (Int32 × (Nat → Nat → Int32) × (Nat → Nat → Int64))} (hf : f_Es_step_L124 s1 I L = some q) : X G 4 m_Es_step 124 [(0, .ref (xP G 1))] [.int s1, .ref (xP G 1)] (S, I, L, Rf) (some (.int q.1), (S, q.2.1, q.2.2, Rf)) := by
  replace hf := (f_Es_step_L124.eq_1 _ _ _).symm.trans hf
  refine X_puti (pc := 124) (a := 1) (ci := 5) (j := 8) 8 rfl false (sh_1 hT) (by decide) k_184 rfl (fun h => by cases h) rfl dX5_step_124 ?_
  refine X_aload_n (pc := 127) (i := 0) 0 dX5_step_127 rfl rfl ?_
  refine X_aload_n (pc := 128) (i := 0) 0 dX5_step_128 rfl rfl ?_
  refine X_get (pc := 129) (a := 1) (ci := 5) (j := 9) (.int (I 1 9)) (sh_1 hT) (by decide) k_186 rfl dX5_step_129 ?_
  refine X_ineg (pc := 132) dX5_step_132 ?_
  obtain ⟨x21, ex21, hf⟩ := bnd_e hf
  refine X_tope ex21 ?_
  refine X_puti (pc := 133) (a := 1) (ci := 5) (j := 9) 9 rfl false (sh_1 hT) (by decide) k_186 rfl (fun h => by cases h) rfl dX5_step_133 ?_
  refine X_aload_n (pc := 136) (i := 0) 0 dX5_step_136 rfl rfl ?_
  refine X_dup (pc := 137) dX5_step_137 rfl ?_
  refine X_get (pc := 138) (a := 1) (ci := 5) (j := 13) (.int (I 1 13)) (sh_1 hT) (by decide) k_194 rfl dX5_step_138 ?_
  refine X_iconst (pc := 141) (1 : Int32) dX5_step_141 (by decide) ?_
  refine X_iadd (pc := 142) dX5_step_142 ?_
  obtain ⟨x22, ex22, hf⟩ := bnd_e hf
  refine X_tope ex22 ?_
  refine X_puti (pc := 143) (a := 1) (ci := 5) (j := 13) 13 rfl false (sh_1 hT) (by decide) k_194 rfl (fun h => by cases h) rfl dX5_step_143 ?_
  exact X_lvs [0] rfl (x_Es_step_L146 hT hf)
theorem u_Es_step_L124 {S : List xSh} {s1 : Int32} {I : Nat → Nat → Int32} {L : Nat → Nat → Int64} {q : (Int32 × (Nat → Nat → Int32) × (Nat → Nat → Int64))} (hf : f_Es_step_L124 s1 I L = some q) : FR S [10, 1108, 1109, 1110, 1111, 1112, 1113, 1114, 1903] [] I q.2.1 L q.2.2 := by
  replace hf := (f_Es_step_L124.eq_1 _ _ _).symm.trans hf
  obtain ⟨x21, ex21, hf⟩ := bnd_e hf
  obtain ⟨x22, ex22, hf⟩ := bnd_e hf
  exact FR.tr (FR.fi (FR.fi (FR.fi FR.rf (by decide)) (by decide)) (by decide)) (u_Es_step_L146 hf) (by decide) (by decide)
def f_Es_step_L74 (s1 : Int32) (I : (Nat → Nat → Int32)) (L : (Nat → Nat → Int64)) : Option (Int32 × (Nat → Nat → Int32) × (Nat → Nat → Int64)) := (bnd ((I 1 8) + s1) fun x5 => (if (jabs x5) ≤ (I 1 4) then (f_Es_step_L146 (uI (uI I 1 9 s1) 1 8 x5) L) else (if x5 ≤ (0 : Int32) then (f_Es_step_L124 (-(I 1 4)) (uI (uI I 1 9 s1) 1 8 x5) L) else (f_Es_step_L124 (I 1 4) (uI (uI I 1 9 s1) 1 8 x5) L))))
set_option maxRecDepth 100000 in
set_option maxHeartbeats 4000000 in
theorem x_Es_step_L74 {G : xG} {S : List xSh} {Rf : Nat → Nat → Option Nat} (hT : xTH S Rf) {s1 : Int32} {I : Nat → Nat → Int32} {L : Nat → Nat → Int64} {q : (Int32 × (Nat → Nat → Int32) × (Nat → Nat → Int64))} (hf : f_Es_step_L74 s1 I L = some q) : X G 4 m_Es_step 74 [(0, .ref (xP G 1))] [.int s1, .ref (xP G 1)] (S, I, L, Rf) (some (.int q.1), (S, q.2.1, q.2.2, Rf)) := by
  replace hf := (f_Es_step_L74.eq_1 _ _ _).symm.trans hf
  refine X_puti (pc := 74) (a := 1) (ci := 5) (j := 9) 9 rfl false (sh_1 hT) (by decide) k_186 rfl (fun h => by cases h) rfl dX5_step_74 ?_
  refine X_aload_n (pc := 77) (i := 0) 0 dX5_step_77 rfl rfl ?_
  refine X_dup (pc := 78) dX5_step_78 rfl ?_
  refine X_get (pc := 79) (a := 1) (ci := 5) (j := 8) (.int (I 1 8)) (sh_1 hT) (by decide) k_184 rfl dX5_step_79 ?_
  refine X_aload_n (pc := 82) (i := 0) 0 dX5_step_82 rfl rfl ?_
  refine X_get (pc := 83) (a := 1) (ci := 5) (j := 9) (.int s1) (sh_1 hT) (by decide) k_186 rfl dX5_step_83 ?_
  refine X_iadd (pc := 86) dX5_step_86 ?_
  obtain ⟨x5, ex5, hf⟩ := bnd_e hf
  refine X_tope ex5 ?_
  refine X_puti (pc := 87) (a := 1) (ci := 5) (j := 8) 8 rfl false (sh_1 hT) (by decide) k_184 rfl (fun h => by cases h) rfl dX5_step_87 ?_
  refine X_aload_n (pc := 90) (i := 0) 0 dX5_step_90 rfl rfl ?_
  refine X_get (pc := 91) (a := 1) (ci := 5) (j := 8) (.int x5) (sh_1 hT) (by decide) k_184 rfl dX5_step_91 ?_
  refine X_jabs (pc := 94) k_760 (by decide) (Nat.le_of_ble_eq_true rfl) dX5_step_94 ?_
  refine X_aload_n (pc := 97) (i := 0) 0 dX5_step_97 rfl rfl ?_
  refine X_get (pc := 98) (a := 1) (ci := 5) (j := 4) (.int (I 1 4)) (sh_1 hT) (by decide) k_178 rfl dX5_step_98 ?_
  by_cases c6 : (jabs x5) ≤ (I 1 4)
  · replace hf := (if_pos c6).symm.trans hf
    refine X_icmp_le_t (pc := 101) 146 dX5_step_101 (by decide) c6 ?_
    exact X_lvs [0] rfl (x_Es_step_L146 hT hf)
  · replace hf := (if_neg c6).symm.trans hf
    refine X_icmp_le_f (pc := 101) 146 dX5_step_101 (by decide) c6 ?_
    refine X_aload_n (pc := 104) (i := 0) 0 dX5_step_104 rfl rfl ?_
    refine X_aload_n (pc := 105) (i := 0) 0 dX5_step_105 rfl rfl ?_
    refine X_get (pc := 106) (a := 1) (ci := 5) (j := 8) (.int x5) (sh_1 hT) (by decide) k_184 rfl dX5_step_106 ?_
    by_cases c20 : x5 ≤ (0 : Int32)
    · replace hf := (if_pos c20).symm.trans hf
      refine X_if_le_t (pc := 109) 119 dX5_step_109 (by decide) c20 ?_
      refine X_aload_n (pc := 119) (i := 0) 0 dX5_step_119 rfl rfl ?_
      refine X_get (pc := 120) (a := 1) (ci := 5) (j := 4) (.int (I 1 4)) (sh_1 hT) (by decide) k_178 rfl dX5_step_120 ?_
      refine X_ineg (pc := 123) dX5_step_123 ?_
      exact X_lvs [0] rfl (x_Es_step_L124 hT hf)
    · replace hf := (if_neg c20).symm.trans hf
      refine X_if_le_f (pc := 109) 119 dX5_step_109 (by decide) c20 ?_
      refine X_aload_n (pc := 112) (i := 0) 0 dX5_step_112 rfl rfl ?_
      refine X_get (pc := 113) (a := 1) (ci := 5) (j := 4) (.int (I 1 4)) (sh_1 hT) (by decide) k_178 rfl dX5_step_113 ?_
      refine X_goto (pc := 116) 124 dX5_step_116 (by decide) ?_
      exact X_lvs [0] rfl (x_Es_step_L124 hT hf)
theorem u_Es_step_L74 {S : List xSh} {s1 : Int32} {I : Nat → Nat → Int32} {L : Nat → Nat → Int64} {q : (Int32 × (Nat → Nat → Int32) × (Nat → Nat → Int64))} (hf : f_Es_step_L74 s1 I L = some q) : FR S [10, 1108, 1109, 1110, 1111, 1112, 1113, 1114, 1903] [] I q.2.1 L q.2.2 := by
  replace hf := (f_Es_step_L74.eq_1 _ _ _).symm.trans hf
  obtain ⟨x5, ex5, hf⟩ := bnd_e hf
  by_cases c6 : (jabs x5) ≤ (I 1 4)
  · replace hf := (if_pos c6).symm.trans hf
    exact FR.tr (FR.fi (FR.fi FR.rf (by decide)) (by decide)) (u_Es_step_L146 hf) (by decide) (by decide)
  · replace hf := (if_neg c6).symm.trans hf
    by_cases c20 : x5 ≤ (0 : Int32)
    · replace hf := (if_pos c20).symm.trans hf
      exact FR.tr (FR.fi (FR.fi FR.rf (by decide)) (by decide)) (u_Es_step_L124 hf) (by decide) (by decide)
    · replace hf := (if_neg c20).symm.trans hf
      exact FR.tr (FR.fi (FR.fi FR.rf (by decide)) (by decide)) (u_Es_step_L124 hf) (by decide) (by decide)
def f_Es_step (I : Nat → Nat → Int32) (L : Nat → Nat → Int64) : Option (Int32 × (Nat → Nat → Int32) × (Nat → Nat → Int64)) := (bnd ((I 1 11) + (1 : Int32)) fun x1 => (bnd ((Int32.toInt64 (I 1 9)) - (((Int32.toInt64 (I 1 8)) * (Int32.toInt64 (I 1 1))) >>> (Int32.toInt64 (16 : Int32) &&& 63))) fun x2 => (bnd (f_Es_held x2) fun x3 => (if x3 ≤ (0 : Int32) then (f_Es_step_L74 (jmin (0 : Int32) (x3 + (I 1 2))) (uI (uI I 1 11 x1) 1 9 x3) L) else (f_Es_step_L74 (jmax (0 : Int32) (x3 - (I 1 2))) (uI (uI I 1 11 x1) 1 9 x3) L)))))
set_option maxRecDepth 100000 in
set_option maxHeartbeats 4000000 in
theorem c_Es_step {G : xG} {S : List xSh} {Rf : Nat → Nat → Option Nat} (hT : xTH S Rf) {I : Nat → Nat → Int32} {L : Nat → Nat → Int64} {q : (Int32 × (Nat → Nat → Int32) × (Nat → Nat → Int64))} (hf : f_Es_step I L = some q) : CT G 4 m_Es_step [.ref (xP G 1)] (S, I, L, Rf) (some (.int q.1), (S, q.2.1, q.2.2, Rf)) := by
  refine CT.of (by decide +kernel) (Nat.le_of_ble_eq_true rfl) ?_
  show X G 4 m_Es_step 0 [(0, .ref (xP G 1))] [] (S, I, L, Rf) (some (.int q.1), (S, q.2.1, q.2.2, Rf))
  replace hf := (f_Es_step.eq_1 _ _).symm.trans hf
  refine X_aload_n (pc := 0) (i := 0) 0 dX5_step_0 rfl rfl ?_
  refine X_dup (pc := 1) dX5_step_1 rfl ?_
  refine X_get (pc := 2) (a := 1) (ci := 5) (j := 11) (.int (I 1 11)) (sh_1 hT) (by decide) k_190 rfl dX5_step_2 ?_
  refine X_iconst (pc := 5) (1 : Int32) dX5_step_5 (by decide) ?_
  refine X_iadd (pc := 6) dX5_step_6 ?_
  obtain ⟨x1, ex1, hf⟩ := bnd_e hf
  refine X_tope ex1 ?_
  refine X_puti (pc := 7) (a := 1) (ci := 5) (j := 11) 11 rfl false (sh_1 hT) (by decide) k_190 rfl (fun h => by cases h) rfl dX5_step_7 ?_
  refine X_aload_n (pc := 10) (i := 0) 0 dX5_step_10 rfl rfl ?_
  refine X_aload_n (pc := 11) (i := 0) 0 dX5_step_11 rfl rfl ?_
  refine X_get (pc := 12) (a := 1) (ci := 5) (j := 9) (.int (I 1 9)) (sh_1 hT) (by decide) k_186 rfl dX5_step_12 ?_
  refine X_i2l (pc := 15) dX5_step_15 ?_
  refine X_aload_n (pc := 16) (i := 0) 0 dX5_step_16 rfl rfl ?_
  refine X_get (pc := 17) (a := 1) (ci := 5) (j := 8) (.int (I 1 8)) (sh_1 hT) (by decide) k_184 rfl dX5_step_17 ?_
  refine X_i2l (pc := 20) dX5_step_20 ?_
  refine X_aload_n (pc := 21) (i := 0) 0 dX5_step_21 rfl rfl ?_
  refine X_get (pc := 22) (a := 1) (ci := 5) (j := 1) (.int (I 1 1)) (sh_1 hT) (by decide) k_175 rfl dX5_step_22 ?_
  refine X_i2l (pc := 25) dX5_step_25 ?_
  refine X_lmul (pc := 26) dX5_step_26 ?_
  refine X_bipush (pc := 27) (16 : Int32) dX5_step_27 (by decide) ?_
  refine X_lshr (pc := 29) dX5_step_29 ?_
  refine X_lsub (pc := 30) dX5_step_30 ?_
  obtain ⟨x2, ex2, hf⟩ := bnd_e hf
  refine X_tople ex2 ?_
  refine X_invS_i (pc := 31) (c_Es_held hT rfl) ok_Es_held k_743 k_744 nd_18 (by decide) rfl (Nat.le_of_ble_eq_true rfl) dX5_step_31 ?_
  obtain ⟨x3, ex3, hf⟩ := bnd_e hf
  refine X_tope ex3 ?_
  refine X_puti (pc := 34) (a := 1) (ci := 5) (j := 9) 9 rfl false (sh_1 hT) (by decide) k_186 rfl (fun h => by cases h) rfl dX5_step_34 ?_
  refine X_aload_n (pc := 37) (i := 0) 0 dX5_step_37 rfl rfl ?_
  refine X_aload_n (pc := 38) (i := 0) 0 dX5_step_38 rfl rfl ?_
  refine X_get (pc := 39) (a := 1) (ci := 5) (j := 9) (.int x3) (sh_1 hT) (by decide) k_186 rfl dX5_step_39 ?_
  by_cases c4 : x3 ≤ (0 : Int32)
  · replace hf := (if_pos c4).symm.trans hf
    refine X_if_le_t (pc := 42) 61 dX5_step_42 (by decide) c4 ?_
    refine X_iconst (pc := 61) (0 : Int32) dX5_step_61 (by decide) ?_
    refine X_aload_n (pc := 62) (i := 0) 0 dX5_step_62 rfl rfl ?_
    refine X_get (pc := 63) (a := 1) (ci := 5) (j := 9) (.int x3) (sh_1 hT) (by decide) k_186 rfl dX5_step_63 ?_
    refine X_aload_n (pc := 66) (i := 0) 0 dX5_step_66 rfl rfl ?_
    refine X_get (pc := 67) (a := 1) (ci := 5) (j := 2) (.int (I 1 2)) (sh_1 hT) (by decide) k_176 rfl dX5_step_67 ?_
    refine X_iadd (pc := 70) dX5_step_70 ?_
    refine X_jmin (pc := 71) k_757 (by decide) (Nat.le_of_ble_eq_true rfl) dX5_step_71 ?_
    exact X_lvs [0] rfl (x_Es_step_L74 hT hf)
  · replace hf := (if_neg c4).symm.trans hf
    refine X_if_le_f (pc := 42) 61 dX5_step_42 (by decide) c4 ?_
    refine X_iconst (pc := 45) (0 : Int32) dX5_step_45 (by decide) ?_
    refine X_aload_n (pc := 46) (i := 0) 0 dX5_step_46 rfl rfl ?_
    refine X_get (pc := 47) (a := 1) (ci := 5) (j := 9) (.int x3) (sh_1 hT) (by decide) k_186 rfl dX5_step_47 ?_
    refine X_aload_n (pc := 50) (i := 0) 0 dX5_step_50 rfl rfl ?_
    refine X_get (pc := 51) (a := 1) (ci := 5) (j := 2) (.int (I 1 2)) (sh_1 hT) (by decide) k_176 rfl dX5_step_51 ?_
    refine X_isub (pc := 54) dX5_step_54 ?_
    refine X_jmax (pc := 55) k_754 (by decide) (Nat.le_of_ble_eq_true rfl) dX5_step_55 ?_
    refine X_goto (pc := 58) 74 dX5_step_58 (by decide) ?_
    exact X_lvs [0] rfl (x_Es_step_L74 hT hf)
theorem u_Es_step {S : List xSh} {I : Nat → Nat → Int32} {L : Nat → Nat → Int64} {q : (Int32 × (Nat → Nat → Int32) × (Nat → Nat → Int64))} (hf : f_Es_step I L = some q) : FR S [10, 1108, 1109, 1110, 1111, 1112, 1113, 1114, 1903] [] I q.2.1 L q.2.2 := by
  replace hf := (f_Es_step.eq_1 _ _).symm.trans hf
  obtain ⟨x1, ex1, hf⟩ := bnd_e hf
  obtain ⟨x2, ex2, hf⟩ := bnd_e hf
  obtain ⟨x3, ex3, hf⟩ := bnd_e hf
  by_cases c4 : x3 ≤ (0 : Int32)
  · replace hf := (if_pos c4).symm.trans hf
    exact FR.tr (FR.fi (FR.fi FR.rf (by decide)) (by decide)) (u_Es_step_L74 hf) (by decide) (by decide)
  · replace hf := (if_neg c4).symm.trans hf
    exact FR.tr (FR.fi (FR.fi FR.rf (by decide)) (by decide)) (u_Es_step_L74 hf) (by decide) (by decide)
theorem dX4_advance_0 : decode cX4_advance 0 = .ok (.aload_n 0, 1) := by decide +kernel
theorem dX4_advance_1 : decode cX4_advance 1 = .ok (.aload_n 0, 1) := by decide +kernel
theorem dX4_advance_2 : decode cX4_advance 2 = .ok (.getfield 15, 3) := by decide +kernel
theorem dX4_advance_5 : decode cX4_advance 5 = .ok (.aload_n 0, 1) := by decide +kernel
theorem dX4_advance_6 : decode cX4_advance 6 = .ok (.getfield 9, 3) := by decide +kernel
theorem dX4_advance_9 : decode cX4_advance 9 = .ok (.iconst 1, 1) := by decide +kernel
theorem dX4_advance_10 : decode cX4_advance 10 = .ok (.isub, 1) := by decide +kernel
theorem dX4_advance_11 : decode cX4_advance 11 = .ok (.if_icmp .ge 12, 3) := by decide +kernel
theorem dX4_advance_14 : decode cX4_advance 14 = .ok (.aload_n 0, 1) := by decide +kernel
theorem dX4_advance_15 : decode cX4_advance 15 = .ok (.getfield 15, 3) := by decide +kernel
theorem dX4_advance_18 : decode cX4_advance 18 = .ok (.iconst 1, 1) := by decide +kernel
theorem dX4_advance_19 : decode cX4_advance 19 = .ok (.iadd, 1) := by decide +kernel
theorem dX4_advance_20 : decode cX4_advance 20 = .ok (.goto 4, 3) := by decide +kernel
theorem dX4_advance_23 : decode cX4_advance 23 = .ok (.iconst 0, 1) := by decide +kernel
theorem dX4_advance_24 : decode cX4_advance 24 = .ok (.putfield 15, 3) := by decide +kernel
theorem dX4_advance_27 : decode cX4_advance 27 = .ok (.return_, 1) := by decide +kernel
def f_Di_advance (w0 : Nat) (I : Nat → Nat → Int32) (L : Nat → Nat → Int64) : Option ((Nat → Nat → Int32) × (Nat → Nat → Int64)) := (if ((I w0 2) - (1 : Int32)) ≤ (I w0 3) then (some ((uI I w0 3 (0 : Int32)), L)) else (bnd ((I w0 3) + (1 : Int32)) fun x2 => (some ((uI I w0 3 x2), L))))
set_option maxRecDepth 100000 in
set_option maxHeartbeats 4000000 in
theorem c_Di_advance {G : xG} {S : List xSh} {Rf : Nat → Nat → Option Nat} (hT : xTH S Rf) {w0 : Nat} (hw0 : S[w0]? = some (.inl 4)) {I : Nat → Nat → Int32} {L : Nat → Nat → Int64} {q : ((Nat → Nat → Int32) × (Nat → Nat → Int64))} (hf : f_Di_advance w0 I L = some q) : CT G 1 m_Di_advance [.ref (xP G w0)] (S, I, L, Rf) (none, (S, q.1, q.2, Rf)) := by
  refine CT.of (by decide +kernel) (Nat.le_of_ble_eq_true rfl) ?_
  show X G 1 m_Di_advance 0 [(0, .ref (xP G w0))] [] (S, I, L, Rf) (none, (S, q.1, q.2, Rf))
  replace hf := (f_Di_advance.eq_1 _ _ _).symm.trans hf
  refine X_aload_n (pc := 0) (i := 0) 0 dX4_advance_0 rfl rfl ?_
  refine X_aload_n (pc := 1) (i := 0) 0 dX4_advance_1 rfl rfl ?_
  refine X_get (pc := 2) (a := w0) (ci := 4) (j := 3) (.int (I w0 3)) hw0 (by decide) k_362 rfl dX4_advance_2 ?_
  refine X_aload_n (pc := 5) (i := 0) 0 dX4_advance_5 rfl rfl ?_
  refine X_get (pc := 6) (a := w0) (ci := 4) (j := 2) (.int (I w0 2)) hw0 (by decide) k_361 rfl dX4_advance_6 ?_
  refine X_iconst (pc := 9) (1 : Int32) dX4_advance_9 (by decide) ?_
  refine X_isub (pc := 10) dX4_advance_10 ?_
  by_cases c1 : ((I w0 2) - (1 : Int32)) ≤ (I w0 3)
  · replace hf := (if_pos c1).symm.trans hf
    refine X_icmp_ge_t (pc := 11) 23 dX4_advance_11 (by decide) c1 ?_
    refine X_iconst (pc := 23) (0 : Int32) dX4_advance_23 (by decide) ?_
    refine X_puti (pc := 24) (a := w0) (ci := 4) (j := 3) 3 rfl false hw0 (by decide) k_362 rfl (fun h => by cases h) rfl dX4_advance_24 ?_
    cases hf
    exact X_return (pc := 27) rfl dX4_advance_27
  · replace hf := (if_neg c1).symm.trans hf
    refine X_icmp_ge_f (pc := 11) 23 dX4_advance_11 (by decide) c1 ?_
    refine X_aload_n (pc := 14) (i := 0) 0 dX4_advance_14 rfl rfl ?_
    refine X_get (pc := 15) (a := w0) (ci := 4) (j := 3) (.int (I w0 3)) hw0 (by decide) k_362 rfl dX4_advance_15 ?_
    refine X_iconst (pc := 18) (1 : Int32) dX4_advance_18 (by decide) ?_
    refine X_iadd (pc := 19) dX4_advance_19 ?_
    refine X_goto (pc := 20) 24 dX4_advance_20 (by decide) ?_
    obtain ⟨x2, ex2, hf⟩ := bnd_e hf
    refine X_tope ex2 ?_
    refine X_puti (pc := 24) (a := w0) (ci := 4) (j := 3) 3 rfl false hw0 (by decide) k_362 rfl (fun h => by cases h) rfl dX4_advance_24 ?_
    cases hf
    exact X_return (pc := 27) rfl dX4_advance_27
theorem u_Di_advance {S : List xSh} {w0 : Nat} (hw0 : S[w0]? = some (.inl 4)) {I : Nat → Nat → Int32} {L : Nat → Nat → Int64} {q : ((Nat → Nat → Int32) × (Nat → Nat → Int64))} (hf : f_Di_advance w0 I L = some q) : FR S [] [] I q.1 L q.2 := by
  replace hf := (f_Di_advance.eq_1 _ _ _).symm.trans hf
  by_cases c1 : ((I w0 2) - (1 : Int32)) ≤ (I w0 3)
  · replace hf := (if_pos c1).symm.trans hf
    cases hf
    exact (FR.dy FR.rf hw0 (by decide))
  · replace hf := (if_neg c1).symm.trans hf
    obtain ⟨x2, ex2, hf⟩ := bnd_e hf
    cases hf
    exact (FR.dy FR.rf hw0 (by decide))
theorem dX1_nextMonth_0 : decode cX1_nextMonth 0 = .ok (.iload_n 0, 1) := by decide +kernel
theorem dX1_nextMonth_1 : decode cX1_nextMonth 1 = .ok (.bipush 12, 2) := by decide +kernel
theorem dX1_nextMonth_3 : decode cX1_nextMonth 3 = .ok (.if_icmp .ge 9, 3) := by decide +kernel
theorem dX1_nextMonth_6 : decode cX1_nextMonth 6 = .ok (.iload_n 0, 1) := by decide +kernel
theorem dX1_nextMonth_7 : decode cX1_nextMonth 7 = .ok (.iconst 1, 1) := by decide +kernel
theorem dX1_nextMonth_8 : decode cX1_nextMonth 8 = .ok (.iadd, 1) := by decide +kernel
theorem dX1_nextMonth_9 : decode cX1_nextMonth 9 = .ok (.goto 4, 3) := by decide +kernel
theorem dX1_nextMonth_12 : decode cX1_nextMonth 12 = .ok (.iconst 1, 1) := by decide +kernel
theorem dX1_nextMonth_13 : decode cX1_nextMonth 13 = .ok (.ireturn, 1) := by decide +kernel
def f_Ca_nextMonth (a0 : Int32) : Int32 := (if (12 : Int32) ≤ a0 then (1 : Int32) else (a0 + (1 : Int32)))
set_option maxRecDepth 100000 in
set_option maxHeartbeats 4000000 in
theorem c_Ca_nextMonth {G : xG} {S : List xSh} {Rf : Nat → Nat → Option Nat} (hT : xTH S Rf) {a0 : Int32} {I : Nat → Nat → Int32} {L : Nat → Nat → Int64} {q : Int32} (hf : f_Ca_nextMonth a0 = q) : CT G 1 m_Ca_nextMonth [.int a0] (S, I, L, Rf) (some (.int q), (S, I, L, Rf)) := by
  refine CT.of (by decide +kernel) (Nat.le_of_ble_eq_true rfl) ?_
  show X G 1 m_Ca_nextMonth 0 [(0, .int a0)] [] (S, I, L, Rf) (some (.int q), (S, I, L, Rf))
  replace hf := (f_Ca_nextMonth.eq_1 _).symm.trans hf
  refine X_iload_n (pc := 0) (i := 0) 0 dX1_nextMonth_0 rfl rfl ?_
  refine X_bipush (pc := 1) (12 : Int32) dX1_nextMonth_1 (by decide) ?_
  by_cases c1 : (12 : Int32) ≤ a0
  · replace hf := (if_pos c1).symm.trans hf
    refine X_icmp_ge_t (pc := 3) 12 dX1_nextMonth_3 (by decide) c1 ?_
    refine X_iconst (pc := 12) (1 : Int32) dX1_nextMonth_12 (by decide) ?_
    subst hf
    exact X_ireturn (pc := 13) rfl dX1_nextMonth_13
  · replace hf := (if_neg c1).symm.trans hf
    refine X_icmp_ge_f (pc := 3) 12 dX1_nextMonth_3 (by decide) c1 ?_
    refine X_iload_n (pc := 6) (i := 0) 0 dX1_nextMonth_6 rfl rfl ?_
    refine X_iconst (pc := 7) (1 : Int32) dX1_nextMonth_7 (by decide) ?_
    refine X_iadd (pc := 8) dX1_nextMonth_8 ?_
    refine X_goto (pc := 9) 13 dX1_nextMonth_9 (by decide) ?_
    subst hf
    exact X_ireturn (pc := 13) rfl dX1_nextMonth_13
theorem dX1_yearBehind_0 : decode cX1_yearBehind 0 = .ok (.iload_n 0, 1) := by decide +kernel
theorem dX1_yearBehind_1 : decode cX1_yearBehind 1 = .ok (.iconst 1, 1) := by decide +kernel
theorem dX1_yearBehind_2 : decode cX1_yearBehind 2 = .ok (.if_icmp .eq 5, 3) := by decide +kernel
theorem dX1_yearBehind_5 : decode cX1_yearBehind 5 = .ok (.iload_n 1, 1) := by decide +kernel
theorem dX1_yearBehind_6 : decode cX1_yearBehind 6 = .ok (.ireturn, 1) := by decide +kernel
theorem dX1_yearBehind_7 : decode cX1_yearBehind 7 = .ok (.iload_n 1, 1) := by decide +kernel
theorem dX1_yearBehind_8 : decode cX1_yearBehind 8 = .ok (.sipush 9999, 3) := by decide +kernel
theorem dX1_yearBehind_11 : decode cX1_yearBehind 11 = .ok (.if_icmp .ge 9, 3) := by decide +kernel
theorem dX1_yearBehind_14 : decode cX1_yearBehind 14 = .ok (.iload_n 1, 1) := by decide +kernel
theorem dX1_yearBehind_15 : decode cX1_yearBehind 15 = .ok (.iconst 1, 1) := by decide +kernel
theorem dX1_yearBehind_16 : decode cX1_yearBehind 16 = .ok (.iadd, 1) := by decide +kernel
theorem dX1_yearBehind_17 : decode cX1_yearBehind 17 = .ok (.goto 4, 3) := by decide +kernel
theorem dX1_yearBehind_20 : decode cX1_yearBehind 20 = .ok (.iconst 1, 1) := by decide +kernel
theorem dX1_yearBehind_21 : decode cX1_yearBehind 21 = .ok (.ireturn, 1) := by decide +kernel
def f_Ca_yearBehind (a0 : Int32) (a1 : Int32) : Int32 := (if a0 = (1 : Int32) then (if (9999 : Int32) ≤ a1 then (1 : Int32) else (a1 + (1 : Int32))) else a1)
set_option maxRecDepth 100000 in
set_option maxHeartbeats 4000000 in
theorem c_Ca_yearBehind {G : xG} {S : List xSh} {Rf : Nat → Nat → Option Nat} (hT : xTH S Rf) {a0 : Int32} {a1 : Int32} {I : Nat → Nat → Int32} {L : Nat → Nat → Int64} {q : Int32} (hf : f_Ca_yearBehind a0 a1 = q) : CT G 1 m_Ca_yearBehind [.int a0, .int a1] (S, I, L, Rf) (some (.int q), (S, I, L, Rf)) := by
  refine CT.of (by decide +kernel) (Nat.le_of_ble_eq_true rfl) ?_
  show X G 1 m_Ca_yearBehind 0 [(0, .int a0), (1, .int a1)] [] (S, I, L, Rf) (some (.int q), (S, I, L, Rf))
  replace hf := (f_Ca_yearBehind.eq_1 _ _).symm.trans hf
  refine X_iload_n (pc := 0) (i := 0) 0 dX1_yearBehind_0 rfl rfl ?_
  refine X_iconst (pc := 1) (1 : Int32) dX1_yearBehind_1 (by decide) ?_
  by_cases c1 : a0 = (1 : Int32)
  · replace hf := (if_pos c1).symm.trans hf
    refine X_icmp_eq_t (pc := 2) 7 dX1_yearBehind_2 (by decide) c1 ?_
    refine X_iload_n (pc := 7) (i := 1) 1 dX1_yearBehind_7 rfl rfl ?_
    refine X_sipush (pc := 8) (9999 : Int32) dX1_yearBehind_8 (by decide) ?_
    by_cases c2 : (9999 : Int32) ≤ a1
    · replace hf := (if_pos c2).symm.trans hf
      refine X_icmp_ge_t (pc := 11) 20 dX1_yearBehind_11 (by decide) c2 ?_
      refine X_iconst (pc := 20) (1 : Int32) dX1_yearBehind_20 (by decide) ?_
      subst hf
      exact X_ireturn (pc := 21) rfl dX1_yearBehind_21
    · replace hf := (if_neg c2).symm.trans hf
      refine X_icmp_ge_f (pc := 11) 20 dX1_yearBehind_11 (by decide) c2 ?_
      refine X_iload_n (pc := 14) (i := 1) 1 dX1_yearBehind_14 rfl rfl ?_
      refine X_iconst (pc := 15) (1 : Int32) dX1_yearBehind_15 (by decide) ?_
      refine X_iadd (pc := 16) dX1_yearBehind_16 ?_
      refine X_goto (pc := 17) 21 dX1_yearBehind_17 (by decide) ?_
      subst hf
      exact X_ireturn (pc := 21) rfl dX1_yearBehind_21
  · replace hf := (if_neg c1).symm.trans hf
    refine X_icmp_eq_f (pc := 2) 7 dX1_yearBehind_2 (by decide) c1 ?_
    refine X_iload_n (pc := 5) (i := 1) 1 dX1_yearBehind_5 rfl rfl ?_
    subst hf
    exact X_ireturn (pc := 6) rfl dX1_yearBehind_6

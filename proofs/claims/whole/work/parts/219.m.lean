theorem dX12_isBookFull_0 : decode cX12_isBookFull 0 = .ok (.aload_n 0, 1) := by decide +kernel
theorem dX12_isBookFull_1 : decode cX12_isBookFull 1 = .ok (.getfield 144, 3) := by decide +kernel
theorem dX12_isBookFull_4 : decode cX12_isBookFull 4 = .ok (.sipush 2000, 3) := by decide +kernel
theorem dX12_isBookFull_7 : decode cX12_isBookFull 7 = .ok (.if_icmp .ne 14, 3) := by decide +kernel
theorem dX12_isBookFull_10 : decode cX12_isBookFull 10 = .ok (.aload_n 0, 1) := by decide +kernel
theorem dX12_isBookFull_11 : decode cX12_isBookFull 11 = .ok (.getfield 373, 3) := by decide +kernel
theorem dX12_isBookFull_14 : decode cX12_isBookFull 14 = .ok (.ifCond .ne 7, 3) := by decide +kernel
theorem dX12_isBookFull_17 : decode cX12_isBookFull 17 = .ok (.iconst 1, 1) := by decide +kernel
theorem dX12_isBookFull_18 : decode cX12_isBookFull 18 = .ok (.goto 4, 3) := by decide +kernel
theorem dX12_isBookFull_21 : decode cX12_isBookFull 21 = .ok (.iconst 0, 1) := by decide +kernel
theorem dX12_isBookFull_22 : decode cX12_isBookFull 22 = .ok (.ireturn, 1) := by decide +kernel
def f_Md_isBookFull (I : Nat → Nat → Int32) (L : Nat → Nat → Int64) : Int32 := (if (I 34 42) = (2000 : Int32) then (if (I 34 43) = (0 : Int32) then (1 : Int32) else (0 : Int32)) else (0 : Int32))
set_option maxRecDepth 100000 in
set_option maxHeartbeats 4000000 in
theorem c_Md_isBookFull {G : xG} {S : List xSh} {Rf : Nat → Nat → Option Nat} (hT : xTM S Rf) {I : Nat → Nat → Int32} {L : Nat → Nat → Int64} {q : Int32} (hf : f_Md_isBookFull I L = q) : CT G 1 m_Md_isBookFull [.ref (xP G 34)] (S, I, L, Rf) (some (.int q), (S, I, L, Rf)) := by
  refine CT.of (by decide +kernel) (Nat.le_of_ble_eq_true rfl) ?_
  show X G 1 m_Md_isBookFull 0 [(0, .ref (xP G 34))] [] (S, I, L, Rf) (some (.int q), (S, I, L, Rf))
  replace hf := (f_Md_isBookFull.eq_1 _ _).symm.trans hf
  refine X_aload_n (pc := 0) (i := 0) 0 dX12_isBookFull_0 rfl rfl ?_
  refine X_get (pc := 1) (a := 34) (ci := 11) (j := 42) (.int (I 34 42)) (sh_34 hT) (by decide) k_1270 rfl dX12_isBookFull_1 ?_
  refine X_sipush (pc := 4) (2000 : Int32) dX12_isBookFull_4 (by decide) ?_
  by_cases c1 : (I 34 42) = (2000 : Int32)
  · replace hf := (if_pos c1).symm.trans hf
    refine X_icmp_ne_f (pc := 7) 21 dX12_isBookFull_7 (by decide) c1 ?_
    refine X_aload_n (pc := 10) (i := 0) 0 dX12_isBookFull_10 rfl rfl ?_
    refine X_get (pc := 11) (a := 34) (ci := 11) (j := 43) (.int (I 34 43)) (sh_34 hT) (by decide) k_1271 rfl dX12_isBookFull_11 ?_
    by_cases c2 : (I 34 43) = (0 : Int32)
    · replace hf := (if_pos c2).symm.trans hf
      refine X_if_ne_f (pc := 14) 21 dX12_isBookFull_14 (by decide) c2 ?_
      refine X_iconst (pc := 17) (1 : Int32) dX12_isBookFull_17 (by decide) ?_
      refine X_goto (pc := 18) 22 dX12_isBookFull_18 (by decide) ?_
      subst hf
      exact X_zreturn (pc := 22) rfl (nar_b (by decide)) dX12_isBookFull_22
    · replace hf := (if_neg c2).symm.trans hf
      refine X_if_ne_t (pc := 14) 21 dX12_isBookFull_14 (by decide) c2 ?_
      refine X_iconst (pc := 21) (0 : Int32) dX12_isBookFull_21 (by decide) ?_
      subst hf
      exact X_zreturn (pc := 22) rfl (nar_b (by decide)) dX12_isBookFull_22
  · replace hf := (if_neg c1).symm.trans hf
    refine X_icmp_ne_t (pc := 7) 21 dX12_isBookFull_7 (by decide) c1 ?_
    refine X_iconst (pc := 21) (0 : Int32) dX12_isBookFull_21 (by decide) ?_
    subst hf
    exact X_zreturn (pc := 22) rfl (nar_b (by decide)) dX12_isBookFull_22
theorem dX12_write_0 : decode cX12_write 0 = .ok (.aload_n 0, 1) := by decide +kernel
theorem dX12_write_1 : decode cX12_write 1 = .ok (.getfield 373, 3) := by decide +kernel
theorem dX12_write_4 : decode cX12_write 4 = .ok (.ifCond .eq 4, 3) := by decide +kernel
theorem dX12_write_7 : decode cX12_write 7 = .ok (.return_, 1) := by decide +kernel
theorem dX12_write_8 : decode cX12_write 8 = .ok (.aload_n 0, 1) := by decide +kernel
theorem dX12_write_9 : decode cX12_write 9 = .ok (.getfield 71, 3) := by decide +kernel
theorem dX12_write_12 : decode cX12_write 12 = .ok (.iconst 4, 1) := by decide +kernel
theorem dX12_write_13 : decode cX12_write 13 = .ok (.aload_n 0, 1) := by decide +kernel
theorem dX12_write_14 : decode cX12_write 14 = .ok (.getfield 144, 3) := by decide +kernel
theorem dX12_write_17 : decode cX12_write 17 = .ok (.imul, 1) := by decide +kernel
theorem dX12_write_18 : decode cX12_write 18 = .ok (.iload_n 1, 1) := by decide +kernel
theorem dX12_write_19 : decode cX12_write 19 = .ok (.iastore, 1) := by decide +kernel
theorem dX12_write_20 : decode cX12_write 20 = .ok (.aload_n 0, 1) := by decide +kernel
theorem dX12_write_21 : decode cX12_write 21 = .ok (.getfield 71, 3) := by decide +kernel
theorem dX12_write_24 : decode cX12_write 24 = .ok (.iconst 4, 1) := by decide +kernel
theorem dX12_write_25 : decode cX12_write 25 = .ok (.aload_n 0, 1) := by decide +kernel
theorem dX12_write_26 : decode cX12_write 26 = .ok (.getfield 144, 3) := by decide +kernel
theorem dX12_write_29 : decode cX12_write 29 = .ok (.imul, 1) := by decide +kernel
theorem dX12_write_30 : decode cX12_write 30 = .ok (.iconst 1, 1) := by decide +kernel
theorem dX12_write_31 : decode cX12_write 31 = .ok (.iadd, 1) := by decide +kernel
theorem dX12_write_32 : decode cX12_write 32 = .ok (.iload_n 2, 1) := by decide +kernel
theorem dX12_write_33 : decode cX12_write 33 = .ok (.iastore, 1) := by decide +kernel
theorem dX12_write_34 : decode cX12_write 34 = .ok (.aload_n 0, 1) := by decide +kernel
theorem dX12_write_35 : decode cX12_write 35 = .ok (.getfield 71, 3) := by decide +kernel
theorem dX12_write_38 : decode cX12_write 38 = .ok (.iconst 4, 1) := by decide +kernel
theorem dX12_write_39 : decode cX12_write 39 = .ok (.aload_n 0, 1) := by decide +kernel
theorem dX12_write_40 : decode cX12_write 40 = .ok (.getfield 144, 3) := by decide +kernel
theorem dX12_write_43 : decode cX12_write 43 = .ok (.imul, 1) := by decide +kernel
theorem dX12_write_44 : decode cX12_write 44 = .ok (.iconst 2, 1) := by decide +kernel
theorem dX12_write_45 : decode cX12_write 45 = .ok (.iadd, 1) := by decide +kernel
theorem dX12_write_46 : decode cX12_write 46 = .ok (.iload_n 3, 1) := by decide +kernel
theorem dX12_write_47 : decode cX12_write 47 = .ok (.iastore, 1) := by decide +kernel
theorem dX12_write_48 : decode cX12_write 48 = .ok (.aload_n 0, 1) := by decide +kernel
theorem dX12_write_49 : decode cX12_write 49 = .ok (.getfield 71, 3) := by decide +kernel
theorem dX12_write_52 : decode cX12_write 52 = .ok (.iconst 4, 1) := by decide +kernel
theorem dX12_write_53 : decode cX12_write 53 = .ok (.aload_n 0, 1) := by decide +kernel
theorem dX12_write_54 : decode cX12_write 54 = .ok (.getfield 144, 3) := by decide +kernel
theorem dX12_write_57 : decode cX12_write 57 = .ok (.imul, 1) := by decide +kernel
theorem dX12_write_58 : decode cX12_write 58 = .ok (.iconst 3, 1) := by decide +kernel
theorem dX12_write_59 : decode cX12_write 59 = .ok (.iadd, 1) := by decide +kernel
theorem dX12_write_60 : decode cX12_write 60 = .ok (.iload 4, 2) := by decide +kernel
theorem dX12_write_62 : decode cX12_write 62 = .ok (.iastore, 1) := by decide +kernel
theorem dX12_write_63 : decode cX12_write 63 = .ok (.aload_n 0, 1) := by decide +kernel
theorem dX12_write_64 : decode cX12_write 64 = .ok (.dup, 1) := by decide +kernel
theorem dX12_write_65 : decode cX12_write 65 = .ok (.getfield 144, 3) := by decide +kernel
theorem dX12_write_68 : decode cX12_write 68 = .ok (.iconst 1, 1) := by decide +kernel
theorem dX12_write_69 : decode cX12_write 69 = .ok (.iadd, 1) := by decide +kernel
theorem dX12_write_70 : decode cX12_write 70 = .ok (.putfield 144, 3) := by decide +kernel
theorem dX12_write_73 : decode cX12_write 73 = .ok (.return_, 1) := by decide +kernel
def f_Md_write (a0 : Int32) (a1 : Int32) (a2 : Int32) (a3 : Int32) (I : Nat → Nat → Int32) (L : Nat → Nat → Int64) : Option ((Nat → Nat → Int32) × (Nat → Nat → Int64)) := (if (I 34 43) = (0 : Int32) then (if (0 ≤ ((4 : Int32) * (I 34 42)) ∧ ((4 : Int32) * (I 34 42)) < (8000 : Int32)) then (if (0 ≤ (((4 : Int32) * (I 34 42)) + (1 : Int32)) ∧ (((4 : Int32) * (I 34 42)) + (1 : Int32)) < (8000 : Int32)) then (if (0 ≤ (((4 : Int32) * (I 34 42)) + (2 : Int32)) ∧ (((4 : Int32) * (I 34 42)) + (2 : Int32)) < (8000 : Int32)) then (if (0 ≤ (((4 : Int32) * (I 34 42)) + (3 : Int32)) ∧ (((4 : Int32) * (I 34 42)) + (3 : Int32)) < (8000 : Int32)) then (bnd ((I 34 42) + (1 : Int32)) fun x6 => (some ((uI (uI (uI (uI (uI I 55 (((4 : Int32) * (I 34 42)).toNatClampNeg) a0) 55 ((((4 : Int32) * (I 34 42)) + (1 : Int32)).toNatClampNeg) a1) 55 ((((4 : Int32) * (I 34 42)) + (2 : Int32)).toNatClampNeg) a2) 55 ((((4 : Int32) * (I 34 42)) + (3 : Int32)).toNatClampNeg) a3) 34 42 x6), L))) else none) else none) else none) else none) else (some (I, L)))
set_option maxRecDepth 100000 in
set_option maxHeartbeats 4000000 in
theorem c_Md_write {G : xG} {S : List xSh} {Rf : Nat → Nat → Option Nat} (hT : xTM S Rf) {a0 : Int32} {a1 : Int32} {a2 : Int32} {a3 : Int32} {I : Nat → Nat → Int32} {L : Nat → Nat → Int64} {q : ((Nat → Nat → Int32) × (Nat → Nat → Int64))} (hf : f_Md_write a0 a1 a2 a3 I L = some q) : CT G 1 m_Md_write [.ref (xP G 34), .int a0, .int a1, .int a2, .int a3] (S, I, L, Rf) (none, (S, q.1, q.2, Rf)) := by
  refine CT.of (by decide +kernel) (Nat.le_of_ble_eq_true rfl) ?_
  show X G 1 m_Md_write 0 [(0, .ref (xP G 34)), (1, .int a0), (2, .int a1), (3, .int a2), (4, .int a3)] [] (S, I, L, Rf) (none, (S, q.1, q.2, Rf))
  replace hf := (f_Md_write.eq_1 _ _ _ _ _ _).symm.trans hf
  refine X_aload_n (pc := 0) (i := 0) 0 dX12_write_0 rfl rfl ?_
  refine X_get (pc := 1) (a := 34) (ci := 11) (j := 43) (.int (I 34 43)) (sh_34 hT) (by decide) k_1271 rfl dX12_write_1 ?_
  by_cases c1 : (I 34 43) = (0 : Int32)
  · replace hf := (if_pos c1).symm.trans hf
    refine X_if_eq_t (pc := 4) 8 dX12_write_4 (by decide) c1 ?_
    refine X_aload_n (pc := 8) (i := 0) 0 dX12_write_8 rfl rfl ?_
    refine X_getr (pc := 9) (a := 34) (ci := 11) (j := 41) (c := 55) (sh_34 hT) (by decide) k_1269 (rf_34_41 hT) (fun _ h => h) dX12_write_9 ?_
    refine X_iconst (pc := 12) (4 : Int32) dX12_write_12 (by decide) ?_
    refine X_aload_n (pc := 13) (i := 0) 0 dX12_write_13 rfl rfl ?_
    refine X_get (pc := 14) (a := 34) (ci := 11) (j := 42) (.int (I 34 42)) (sh_34 hT) (by decide) k_1270 rfl dX12_write_14 ?_
    refine X_imul (pc := 17) dX12_write_17 ?_
    refine X_iload_n (pc := 18) (i := 1) 1 dX12_write_18 rfl rfl ?_
    obtain ⟨c2, hf⟩ := gd_some hf
    refine X_iastj (pc := 19) (j := (((4 : Int32) * (I 34 42)).toNatClampNeg)) (sh_55 hT) (vp_in_lit (N := 8000) c2 (by decide)) rfl dX12_write_19 ?_
    refine X_aload_n (pc := 20) (i := 0) 0 dX12_write_20 rfl rfl ?_
    refine X_getr (pc := 21) (a := 34) (ci := 11) (j := 41) (c := 55) (sh_34 hT) (by decide) k_1269 (rf_34_41 hT) (fun _ h => h) dX12_write_21 ?_
    refine X_iconst (pc := 24) (4 : Int32) dX12_write_24 (by decide) ?_
    refine X_aload_n (pc := 25) (i := 0) 0 dX12_write_25 rfl rfl ?_
    refine X_get (pc := 26) (a := 34) (ci := 11) (j := 42) (.int (I 34 42)) (sh_34 hT) (by decide) k_1270 rfl dX12_write_26 ?_
    refine X_imul (pc := 29) dX12_write_29 ?_
    refine X_iconst (pc := 30) (1 : Int32) dX12_write_30 (by decide) ?_
    refine X_iadd (pc := 31) dX12_write_31 ?_
    refine X_iload_n (pc := 32) (i := 2) 2 dX12_write_32 rfl rfl ?_
    obtain ⟨c3, hf⟩ := gd_some hf
    refine X_iastj (pc := 33) (j := ((((4 : Int32) * (I 34 42)) + (1 : Int32)).toNatClampNeg)) (sh_55 hT) (vp_in_lit (N := 8000) c3 (by decide)) rfl dX12_write_33 ?_
    refine X_aload_n (pc := 34) (i := 0) 0 dX12_write_34 rfl rfl ?_
    refine X_getr (pc := 35) (a := 34) (ci := 11) (j := 41) (c := 55) (sh_34 hT) (by decide) k_1269 (rf_34_41 hT) (fun _ h => h) dX12_write_35 ?_
    refine X_iconst (pc := 38) (4 : Int32) dX12_write_38 (by decide) ?_
    refine X_aload_n (pc := 39) (i := 0) 0 dX12_write_39 rfl rfl ?_
    refine X_get (pc := 40) (a := 34) (ci := 11) (j := 42) (.int (I 34 42)) (sh_34 hT) (by decide) k_1270 rfl dX12_write_40 ?_
    refine X_imul (pc := 43) dX12_write_43 ?_
    refine X_iconst (pc := 44) (2 : Int32) dX12_write_44 (by decide) ?_
    refine X_iadd (pc := 45) dX12_write_45 ?_
    refine X_iload_n (pc := 46) (i := 3) 3 dX12_write_46 rfl rfl ?_
    obtain ⟨c4, hf⟩ := gd_some hf
    refine X_iastj (pc := 47) (j := ((((4 : Int32) * (I 34 42)) + (2 : Int32)).toNatClampNeg)) (sh_55 hT) (vp_in_lit (N := 8000) c4 (by decide)) rfl dX12_write_47 ?_
    refine X_aload_n (pc := 48) (i := 0) 0 dX12_write_48 rfl rfl ?_
    refine X_getr (pc := 49) (a := 34) (ci := 11) (j := 41) (c := 55) (sh_34 hT) (by decide) k_1269 (rf_34_41 hT) (fun _ h => h) dX12_write_49 ?_
    refine X_iconst (pc := 52) (4 : Int32) dX12_write_52 (by decide) ?_
    refine X_aload_n (pc := 53) (i := 0) 0 dX12_write_53 rfl rfl ?_
    refine X_get (pc := 54) (a := 34) (ci := 11) (j := 42) (.int (I 34 42)) (sh_34 hT) (by decide) k_1270 rfl dX12_write_54 ?_
    refine X_imul (pc := 57) dX12_write_57 ?_
    refine X_iconst (pc := 58) (3 : Int32) dX12_write_58 (by decide) ?_
    refine X_iadd (pc := 59) dX12_write_59 ?_
    refine X_iload (pc := 60) 4 dX12_write_60 rfl ?_
    obtain ⟨c5, hf⟩ := gd_some hf
    refine X_iastj (pc := 62) (j := ((((4 : Int32) * (I 34 42)) + (3 : Int32)).toNatClampNeg)) (sh_55 hT) (vp_in_lit (N := 8000) c5 (by decide)) rfl dX12_write_62 ?_
    refine X_aload_n (pc := 63) (i := 0) 0 dX12_write_63 rfl rfl ?_
    refine X_dup (pc := 64) dX12_write_64 rfl ?_
    refine X_get (pc := 65) (a := 34) (ci := 11) (j := 42) (.int (I 34 42)) (sh_34 hT) (by decide) k_1270 rfl dX12_write_65 ?_
    refine X_iconst (pc := 68) (1 : Int32) dX12_write_68 (by decide) ?_
    refine X_iadd (pc := 69) dX12_write_69 ?_
    obtain ⟨x6, ex6, hf⟩ := bnd_e hf
    refine X_tope ex6 ?_
    refine X_puti (pc := 70) (a := 34) (ci := 11) (j := 42) 42 rfl false (sh_34 hT) (by decide) k_1270 rfl (fun h => by cases h) rfl dX12_write_70 ?_
    cases hf
    exact X_return (pc := 73) rfl dX12_write_73
  · replace hf := (if_neg c1).symm.trans hf
    refine X_if_eq_f (pc := 4) 8 dX12_write_4 (by decide) c1 ?_
    cases hf
    exact X_return (pc := 7) rfl dX12_write_7
theorem u_Md_write {S : List xSh} {a0 : Int32} {a1 : Int32} {a2 : Int32} {a3 : Int32} {I : Nat → Nat → Int32} {L : Nat → Nat → Int64} {q : ((Nat → Nat → Int32) × (Nat → Nat → Int64))} (hf : f_Md_write a0 a1 a2 a3 I L = some q) : FR S [55, 4442] [] I q.1 L q.2 := by
  replace hf := (f_Md_write.eq_1 _ _ _ _ _ _).symm.trans hf
  by_cases c1 : (I 34 43) = (0 : Int32)
  · replace hf := (if_pos c1).symm.trans hf
    obtain ⟨c2, hf⟩ := gd_some hf
    obtain ⟨c3, hf⟩ := gd_some hf
    obtain ⟨c4, hf⟩ := gd_some hf
    obtain ⟨c5, hf⟩ := gd_some hf
    obtain ⟨x6, ex6, hf⟩ := bnd_e hf
    cases hf
    exact (FR.fi (FR.ai (FR.ai (FR.ai (FR.ai FR.rf (by decide)) (by decide)) (by decide)) (by decide)) (by decide))
  · replace hf := (if_neg c1).symm.trans hf
    cases hf
    exact FR.rf
theorem dX12_setV_0 : decode cX12_setV 0 = .ok (.aload_n 0, 1) := by decide +kernel
theorem dX12_setV_1 : decode cX12_setV 1 = .ok (.ldc2_w 334, 3) := by decide +kernel
theorem dX12_setV_4 : decode cX12_setV 4 = .ok (.ldc2_w 251, 3) := by decide +kernel
theorem dX12_setV_7 : decode cX12_setV 7 = .ok (.lload_n 1, 1) := by decide +kernel
theorem dX12_setV_8 : decode cX12_setV 8 = .ok (.invokestatic 336, 3) := by decide +kernel
theorem dX12_setV_11 : decode cX12_setV 11 = .ok (.invokestatic 339, 3) := by decide +kernel
theorem dX12_setV_14 : decode cX12_setV 14 = .ok (.l2i, 1) := by decide +kernel
theorem dX12_setV_15 : decode cX12_setV 15 = .ok (.putfield 194, 3) := by decide +kernel
theorem dX12_setV_18 : decode cX12_setV 18 = .ok (.return_, 1) := by decide +kernel
def f_Md_setV (a0 : Int64) (I : Nat → Nat → Int32) (L : Nat → Nat → Int64) : Option ((Nat → Nat → Int32) × (Nat → Nat → Int64)) := (bnd (Jmax (-1000000 : Int64) (Jmin (1000000 : Int64) a0)) fun x1 => (bnd (Int64.toInt32 x1) fun x2 => (some ((uI I 34 28 x2), L))))
set_option maxRecDepth 100000 in
set_option maxHeartbeats 4000000 in
theorem c_Md_setV {G : xG} {S : List xSh} {Rf : Nat → Nat → Option Nat} (hT : xTM S Rf) {a0 : Int64} {I : Nat → Nat → Int32} {L : Nat → Nat → Int64} {q : ((Nat → Nat → Int32) × (Nat → Nat → Int64))} (hf : f_Md_setV a0 I L = some q) : CT G 1 m_Md_setV [.ref (xP G 34), .long a0] (S, I, L, Rf) (none, (S, q.1, q.2, Rf)) := by
  refine CT.of (by decide +kernel) (Nat.le_of_ble_eq_true rfl) ?_
  show X G 1 m_Md_setV 0 [(0, .ref (xP G 34)), (1, .long a0)] [] (S, I, L, Rf) (none, (S, q.1, q.2, Rf))
  replace hf := (f_Md_setV.eq_1 _ _ _).symm.trans hf
  refine X_aload_n (pc := 0) (i := 0) 0 dX12_setV_0 rfl rfl ?_
  refine X_ldc2 (pc := 1) (-1000000 : Int64) k_1591 dX12_setV_1 ?_
  refine X_ldc2 (pc := 4) (1000000 : Int64) k_1516 dX12_setV_4 ?_
  refine X_lload_n (pc := 7) (i := 1) 1 dX12_setV_7 rfl rfl ?_
  refine X_Jmin (pc := 8) k_1592 (by decide) (Nat.le_of_ble_eq_true rfl) dX12_setV_8 ?_
  refine X_Jmax (pc := 11) k_1593 (by decide) (Nat.le_of_ble_eq_true rfl) dX12_setV_11 ?_
  obtain ⟨x1, ex1, hf⟩ := bnd_e hf
  refine X_tople ex1 ?_
  refine X_l2i (pc := 14) dX12_setV_14 ?_
  obtain ⟨x2, ex2, hf⟩ := bnd_e hf
  refine X_tope ex2 ?_
  refine X_puti (pc := 15) (a := 34) (ci := 11) (j := 28) 28 rfl false (sh_34 hT) (by decide) k_1256 rfl (fun h => by cases h) rfl dX12_setV_15 ?_
  cases hf
  exact X_return (pc := 18) rfl dX12_setV_18
theorem u_Md_setV {S : List xSh} {a0 : Int64} {I : Nat → Nat → Int32} {L : Nat → Nat → Int64} {q : ((Nat → Nat → Int32) × (Nat → Nat → Int64))} (hf : f_Md_setV a0 I L = some q) : FR S [4428] [] I q.1 L q.2 := by
  replace hf := (f_Md_setV.eq_1 _ _ _).symm.trans hf
  obtain ⟨x1, ex1, hf⟩ := bnd_e hf
  obtain ⟨x2, ex2, hf⟩ := bnd_e hf
  cases hf
  exact (FR.fi FR.rf (by decide))
theorem dX12_isKnown_0 : decode cX12_isKnown 0 = .ok (.iload_n 1, 1) := by decide +kernel
theorem dX12_isKnown_1 : decode cX12_isKnown 1 = .ok (.ifCond .lt 16, 3) := by decide +kernel
theorem dX12_isKnown_4 : decode cX12_isKnown 4 = .ok (.aload_n 0, 1) := by decide +kernel
theorem dX12_isKnown_5 : decode cX12_isKnown 5 = .ok (.getfield 77, 3) := by decide +kernel
theorem dX12_isKnown_8 : decode cX12_isKnown 8 = .ok (.iload_n 1, 1) := by decide +kernel
theorem dX12_isKnown_9 : decode cX12_isKnown 9 = .ok (.baload, 1) := by decide +kernel
theorem dX12_isKnown_10 : decode cX12_isKnown 10 = .ok (.ifCond .eq 7, 3) := by decide +kernel
theorem dX12_isKnown_13 : decode cX12_isKnown 13 = .ok (.iconst 1, 1) := by decide +kernel
theorem dX12_isKnown_14 : decode cX12_isKnown 14 = .ok (.goto 4, 3) := by decide +kernel
theorem dX12_isKnown_17 : decode cX12_isKnown 17 = .ok (.iconst 0, 1) := by decide +kernel
theorem dX12_isKnown_18 : decode cX12_isKnown 18 = .ok (.ireturn, 1) := by decide +kernel
def f_Md_isKnown (a0 : Int32) (I : Nat → Nat → Int32) (L : Nat → Nat → Int64) : Option Int32 := (if a0 < (0 : Int32) then (some (0 : Int32)) else (if (0 ≤ a0 ∧ a0 < (24 : Int32)) then (if (I 57 (a0.toNatClampNeg)) = (0 : Int32) then (some (0 : Int32)) else (some (1 : Int32))) else none))
set_option maxRecDepth 100000 in
set_option maxHeartbeats 4000000 in
theorem c_Md_isKnown {G : xG} {S : List xSh} {Rf : Nat → Nat → Option Nat} (hT : xTM S Rf) {a0 : Int32} {I : Nat → Nat → Int32} {L : Nat → Nat → Int64} {q : Int32} (hf : f_Md_isKnown a0 I L = some q) : CT G 1 m_Md_isKnown [.ref (xP G 34), .int a0] (S, I, L, Rf) (some (.int q), (S, I, L, Rf)) := by
  refine CT.of (by decide +kernel) (Nat.le_of_ble_eq_true rfl) ?_
  show X G 1 m_Md_isKnown 0 [(0, .ref (xP G 34)), (1, .int a0)] [] (S, I, L, Rf) (some (.int q), (S, I, L, Rf))
  replace hf := (f_Md_isKnown.eq_1 _ _ _).symm.trans hf
  refine X_iload_n (pc := 0) (i := 1) 1 dX12_isKnown_0 rfl rfl ?_
  by_cases c1 : a0 < (0 : Int32)
  · replace hf := (if_pos c1).symm.trans hf
    refine X_if_lt_t (pc := 1) 17 dX12_isKnown_1 (by decide) c1 ?_
    refine X_iconst (pc := 17) (0 : Int32) dX12_isKnown_17 (by decide) ?_
    cases hf
    exact X_zreturn (pc := 18) rfl (nar_b (by decide)) dX12_isKnown_18
  · replace hf := (if_neg c1).symm.trans hf
    refine X_if_lt_f (pc := 1) 17 dX12_isKnown_1 (by decide) c1 ?_
    refine X_aload_n (pc := 4) (i := 0) 0 dX12_isKnown_4 rfl rfl ?_
    refine X_getr (pc := 5) (a := 34) (ci := 11) (j := 48) (c := 57) (sh_34 hT) (by decide) k_1276 (rf_34_48 hT) (fun _ h => h) dX12_isKnown_5 ?_
    refine X_iload_n (pc := 8) (i := 1) 1 dX12_isKnown_8 rfl rfl ?_
    obtain ⟨c2, hf⟩ := gd_some hf
    refine X_zaldj (pc := 9) (j := a0.toNatClampNeg) (I 57 (a0.toNatClampNeg)) (sh_57 hT) (vp_in_lit (N := 24) c2 (by decide)) rfl rfl dX12_isKnown_9 ?_
    by_cases c3 : (I 57 (a0.toNatClampNeg)) = (0 : Int32)
    · replace hf := (if_pos c3).symm.trans hf
      refine X_if_eq_t (pc := 10) 17 dX12_isKnown_10 (by decide) c3 ?_
      refine X_iconst (pc := 17) (0 : Int32) dX12_isKnown_17 (by decide) ?_
      cases hf
      exact X_zreturn (pc := 18) rfl (nar_b (by decide)) dX12_isKnown_18
    · replace hf := (if_neg c3).symm.trans hf
      refine X_if_eq_f (pc := 10) 17 dX12_isKnown_10 (by decide) c3 ?_
      refine X_iconst (pc := 13) (1 : Int32) dX12_isKnown_13 (by decide) ?_
      refine X_goto (pc := 14) 18 dX12_isKnown_14 (by decide) ?_
      cases hf
      exact X_zreturn (pc := 18) rfl (nar_b (by decide)) dX12_isKnown_18
theorem dX12_hasBarrel_0 : decode cX12_hasBarrel 0 = .ok (.aload_n 0, 1) := by decide +kernel
theorem dX12_hasBarrel_1 : decode cX12_hasBarrel 1 = .ok (.aload_n 0, 1) := by decide +kernel
theorem dX12_hasBarrel_2 : decode cX12_hasBarrel 2 = .ok (.getfield 169, 3) := by decide +kernel
theorem dX12_hasBarrel_5 : decode cX12_hasBarrel 5 = .ok (.invokevirtual 316, 3) := by decide +kernel
theorem dX12_hasBarrel_8 : decode cX12_hasBarrel 8 = .ok (.ireturn, 1) := by decide +kernel
def f_Md_hasBarrel (I : Nat → Nat → Int32) (L : Nat → Nat → Int64) : Option Int32 := ((f_Md_isKnown (I 34 14) I L).bind fun q1 => (if (q1 = (0 : Int32) ∨ q1 = (1 : Int32)) then (some q1) else none))
set_option maxRecDepth 100000 in
set_option maxHeartbeats 4000000 in
theorem c_Md_hasBarrel {G : xG} {S : List xSh} {Rf : Nat → Nat → Option Nat} (hT : xTM S Rf) {I : Nat → Nat → Int32} {L : Nat → Nat → Int64} {q : Int32} (hf : f_Md_hasBarrel I L = some q) : CT G 2 m_Md_hasBarrel [.ref (xP G 34)] (S, I, L, Rf) (some (.int q), (S, I, L, Rf)) := by
  refine CT.of (by decide +kernel) (Nat.le_of_ble_eq_true rfl) ?_
  show X G 2 m_Md_hasBarrel 0 [(0, .ref (xP G 34))] [] (S, I, L, Rf) (some (.int q), (S, I, L, Rf))
  replace hf := (f_Md_hasBarrel.eq_1 _ _).symm.trans hf
  refine X_aload_n (pc := 0) (i := 0) 0 dX12_hasBarrel_0 rfl rfl ?_
  refine X_aload_n (pc := 1) (i := 0) 0 dX12_hasBarrel_1 rfl rfl ?_
  refine X_get (pc := 2) (a := 34) (ci := 11) (j := 14) (.int (I 34 14)) (sh_34 hT) (by decide) k_1242 rfl dX12_hasBarrel_2 ?_
  obtain ⟨q1, c2, hf⟩ := bd_some hf
  refine X_invV_i (pc := 5) (c_Md_isKnown hT c2) ok_Md_isKnown (ci := 11) (sh_34 hT) k_1605 k_1607 k_56 nd_5 (by decide) rfl (Nat.le_of_ble_eq_true rfl) dX12_hasBarrel_5 ?_
  obtain ⟨c3, hf⟩ := gd_some hf
  cases hf
  exact X_zreturn (pc := 8) rfl (nar_b c3) dX12_hasBarrel_8
theorem dX12_letDown_0 : decode cX12_letDown 0 = .ok (.aload_n 0, 1) := by decide +kernel
theorem dX12_letDown_1 : decode cX12_letDown 1 = .ok (.invokevirtual 321, 3) := by decide +kernel
theorem dX12_letDown_4 : decode cX12_letDown 4 = .ok (.ifCond .eq 53, 3) := by decide +kernel
theorem dX12_letDown_7 : decode cX12_letDown 7 = .ok (.ldc2_w 324, 3) := by decide +kernel
theorem dX12_letDown_10 : decode cX12_letDown 10 = .ok (.aload_n 0, 1) := by decide +kernel
theorem dX12_letDown_11 : decode cX12_letDown 11 = .ok (.getfield 80, 3) := by decide +kernel
theorem dX12_letDown_14 : decode cX12_letDown 14 = .ok (.aload_n 0, 1) := by decide +kernel
theorem dX12_letDown_15 : decode cX12_letDown 15 = .ok (.getfield 169, 3) := by decide +kernel
theorem dX12_letDown_18 : decode cX12_letDown 18 = .ok (.laload, 1) := by decide +kernel
theorem dX12_letDown_19 : decode cX12_letDown 19 = .ok (.invokestatic 287, 3) := by decide +kernel
theorem dX12_letDown_22 : decode cX12_letDown 22 = .ok (.lmul, 1) := by decide +kernel
theorem dX12_letDown_23 : decode cX12_letDown 23 = .ok (.aload_n 0, 1) := by decide +kernel
theorem dX12_letDown_24 : decode cX12_letDown 24 = .ok (.getfield 185, 3) := by decide +kernel
theorem dX12_letDown_27 : decode cX12_letDown 27 = .ok (.i2l, 1) := by decide +kernel
theorem dX12_letDown_28 : decode cX12_letDown 28 = .ok (.lmul, 1) := by decide +kernel
theorem dX12_letDown_29 : decode cX12_letDown 29 = .ok (.aload_n 0, 1) := by decide +kernel
theorem dX12_letDown_30 : decode cX12_letDown 30 = .ok (.getfield 84, 3) := by decide +kernel
theorem dX12_letDown_33 : decode cX12_letDown 33 = .ok (.aload_n 0, 1) := by decide +kernel
theorem dX12_letDown_34 : decode cX12_letDown 34 = .ok (.getfield 169, 3) := by decide +kernel
theorem dX12_letDown_37 : decode cX12_letDown 37 = .ok (.laload, 1) := by decide +kernel
theorem dX12_letDown_38 : decode cX12_letDown 38 = .ok (.ldc2_w 253, 3) := by decide +kernel
theorem dX12_letDown_41 : decode cX12_letDown 41 = .ok (.lmul, 1) := by decide +kernel
theorem dX12_letDown_42 : decode cX12_letDown 42 = .ok (.aload_n 0, 1) := by decide +kernel
theorem dX12_letDown_43 : decode cX12_letDown 43 = .ok (.getfield 153, 3) := by decide +kernel
theorem dX12_letDown_46 : decode cX12_letDown 46 = .ok (.i2l, 1) := by decide +kernel
theorem dX12_letDown_47 : decode cX12_letDown 47 = .ok (.lmul, 1) := by decide +kernel
theorem dX12_letDown_48 : decode cX12_letDown 48 = .ok (.ldiv, 1) := by decide +kernel
theorem dX12_letDown_49 : decode cX12_letDown 49 = .ok (.aload_n 0, 1) := by decide +kernel
theorem dX12_letDown_50 : decode cX12_letDown 50 = .ok (.getfield 206, 3) := by decide +kernel
theorem dX12_letDown_53 : decode cX12_letDown 53 = .ok (.lsub, 1) := by decide +kernel
theorem dX12_letDown_54 : decode cX12_letDown 54 = .ok (.goto 4, 3) := by decide +kernel
theorem dX12_letDown_57 : decode cX12_letDown 57 = .ok (.lconst 0, 1) := by decide +kernel
theorem dX12_letDown_58 : decode cX12_letDown 58 = .ok (.lreturn, 1) := by decide +kernel
def f_Md_letDown (I : Nat → Nat → Int32) (L : Nat → Nat → Int64) : Option Int64 := ((f_Md_hasBarrel I L).bind fun q1 => (if q1 = (0 : Int32) then (some (0 : Int64)) else (if (0 ≤ (I 34 14) ∧ (I 34 14) < (24 : Int32)) then (bnd (((256 : Int64) * (Jabs (L 58 ((I 34 14).toNatClampNeg)))) * (Int32.toInt64 (I 34 25))) fun x5 => (if (0 ≤ (I 34 14) ∧ (I 34 14) < (24 : Int32)) then (if ¬ (((L 59 ((I 34 14).toNatClampNeg)) * (2 : Int64)) * (Int32.toInt64 (I 34 9))) = (0 : Int64) then (bnd ((x5 / (((L 59 ((I 34 14).toNatClampNeg)) * (2 : Int64)) * (Int32.toInt64 (I 34 9)))) - (L 34 32)) fun x8 => (some x8)) else none) else none)) else none)))
set_option maxRecDepth 100000 in
set_option maxHeartbeats 4000000 in
theorem c_Md_letDown {G : xG} {S : List xSh} {Rf : Nat → Nat → Option Nat} (hT : xTM S Rf) {I : Nat → Nat → Int32} {L : Nat → Nat → Int64} {q : Int64} (hf : f_Md_letDown I L = some q) : CT G 3 m_Md_letDown [.ref (xP G 34)] (S, I, L, Rf) (some (.long q), (S, I, L, Rf)) := by
  refine CT.of (by decide +kernel) (Nat.le_of_ble_eq_true rfl) ?_
  show X G 3 m_Md_letDown 0 [(0, .ref (xP G 34))] [] (S, I, L, Rf) (some (.long q), (S, I, L, Rf))
  replace hf := (f_Md_letDown.eq_1 _ _).symm.trans hf
  refine X_aload_n (pc := 0) (i := 0) 0 dX12_letDown_0 rfl rfl ?_
  obtain ⟨q1, c2, hf⟩ := bd_some hf
  refine X_invV_i (pc := 1) (c_Md_hasBarrel hT c2) ok_Md_hasBarrel (ci := 11) (sh_34 hT) k_1601 k_1603 k_55 nd_11 (by decide) rfl (Nat.le_of_ble_eq_true rfl) dX12_letDown_1 ?_
  by_cases c3 : q1 = (0 : Int32)
  · replace hf := (if_pos c3).symm.trans hf
    refine X_if_eq_t (pc := 4) 57 dX12_letDown_4 (by decide) c3 ?_
    refine X_lconst (pc := 57) (0 : Int64) dX12_letDown_57 (by decide) ?_
    cases hf
    exact X_lreturn (pc := 58) rfl dX12_letDown_58
  · replace hf := (if_neg c3).symm.trans hf
    refine X_if_eq_f (pc := 4) 57 dX12_letDown_4 (by decide) c3 ?_
    refine X_ldc2 (pc := 7) (256 : Int64) k_1613 dX12_letDown_7 ?_
    refine X_aload_n (pc := 10) (i := 0) 0 dX12_letDown_10 rfl rfl ?_
    refine X_getr (pc := 11) (a := 34) (ci := 11) (j := 49) (c := 58) (sh_34 hT) (by decide) k_1277 (rf_34_49 hT) (fun _ h => h) dX12_letDown_11 ?_
    refine X_aload_n (pc := 14) (i := 0) 0 dX12_letDown_14 rfl rfl ?_
    refine X_get (pc := 15) (a := 34) (ci := 11) (j := 14) (.int (I 34 14)) (sh_34 hT) (by decide) k_1242 rfl dX12_letDown_15 ?_
    obtain ⟨c4, hf⟩ := gd_some hf
    refine X_laldj (pc := 18) (j := (I 34 14).toNatClampNeg) (L 58 ((I 34 14).toNatClampNeg)) (sh_58 hT) (vp_in_lit (N := 24) c4 (by decide)) rfl rfl dX12_letDown_18 ?_
    refine X_Jabs (pc := 19) k_1568 (by decide) (Nat.le_of_ble_eq_true rfl) dX12_letDown_19 ?_
    refine X_lmul (pc := 22) dX12_letDown_22 ?_
    refine X_aload_n (pc := 23) (i := 0) 0 dX12_letDown_23 rfl rfl ?_
    refine X_get (pc := 24) (a := 34) (ci := 11) (j := 25) (.int (I 34 25)) (sh_34 hT) (by decide) k_1253 rfl dX12_letDown_24 ?_
    refine X_i2l (pc := 27) dX12_letDown_27 ?_
    refine X_lmul (pc := 28) dX12_letDown_28 ?_
    obtain ⟨x5, ex5, hf⟩ := bnd_e hf
    refine X_tople ex5 ?_
    refine X_aload_n (pc := 29) (i := 0) 0 dX12_letDown_29 rfl rfl ?_
    refine X_getr (pc := 30) (a := 34) (ci := 11) (j := 50) (c := 59) (sh_34 hT) (by decide) k_1278 (rf_34_50 hT) (fun _ h => h) dX12_letDown_30 ?_
    refine X_aload_n (pc := 33) (i := 0) 0 dX12_letDown_33 rfl rfl ?_
    refine X_get (pc := 34) (a := 34) (ci := 11) (j := 14) (.int (I 34 14)) (sh_34 hT) (by decide) k_1242 rfl dX12_letDown_34 ?_
    obtain ⟨c6, hf⟩ := gd_some hf
    refine X_laldj (pc := 37) (j := (I 34 14).toNatClampNeg) (L 59 ((I 34 14).toNatClampNeg)) (sh_59 hT) (vp_in_lit (N := 24) c6 (by decide)) rfl rfl dX12_letDown_37 ?_
    refine X_ldc2 (pc := 38) (2 : Int64) k_1521 dX12_letDown_38 ?_
    refine X_lmul (pc := 41) dX12_letDown_41 ?_
    refine X_aload_n (pc := 42) (i := 0) 0 dX12_letDown_42 rfl rfl ?_
    refine X_get (pc := 43) (a := 34) (ci := 11) (j := 9) (.int (I 34 9)) (sh_34 hT) (by decide) k_1237 rfl dX12_letDown_43 ?_
    refine X_i2l (pc := 46) dX12_letDown_46 ?_
    refine X_lmul (pc := 47) dX12_letDown_47 ?_
    obtain ⟨c7, hf⟩ := gd_some hf
    refine X_ldiv (pc := 48) dX12_letDown_48 c7 ?_
    refine X_aload_n (pc := 49) (i := 0) 0 dX12_letDown_49 rfl rfl ?_
    refine X_get (pc := 50) (a := 34) (ci := 11) (j := 32) (.long (L 34 32)) (sh_34 hT) (by decide) k_1260 rfl dX12_letDown_50 ?_
    refine X_lsub (pc := 53) dX12_letDown_53 ?_
    obtain ⟨x8, ex8, hf⟩ := bnd_e hf
    refine X_tople ex8 ?_
    refine X_goto (pc := 54) 58 dX12_letDown_54 (by decide) ?_
    cases hf
    exact X_lreturn (pc := 58) rfl dX12_letDown_58
theorem dX12_torqueNow_0 : decode cX12_torqueNow 0 = .ok (.aload_n 0, 1) := by decide +kernel
theorem dX12_torqueNow_1 : decode cX12_torqueNow 1 = .ok (.invokevirtual 321, 3) := by decide +kernel
theorem dX12_torqueNow_4 : decode cX12_torqueNow 4 = .ok (.ifCond .ne 10, 3) := by decide +kernel
theorem dX12_torqueNow_7 : decode cX12_torqueNow 7 = .ok (.aload_n 0, 1) := by decide +kernel
theorem dX12_torqueNow_8 : decode cX12_torqueNow 8 = .ok (.getfield 28, 3) := by decide +kernel
theorem dX12_torqueNow_11 : decode cX12_torqueNow 11 = .ok (.iconst 0, 1) := by decide +kernel
theorem dX12_torqueNow_12 : decode cX12_torqueNow 12 = .ok (.iaload, 1) := by decide +kernel
theorem dX12_torqueNow_13 : decode cX12_torqueNow 13 = .ok (.ireturn, 1) := by decide +kernel
theorem dX12_torqueNow_14 : decode cX12_torqueNow 14 = .ok (.aload_n 0, 1) := by decide +kernel
theorem dX12_torqueNow_15 : decode cX12_torqueNow 15 = .ok (.invokevirtual 326, 3) := by decide +kernel
theorem dX12_torqueNow_18 : decode cX12_torqueNow 18 = .ok (.lstore_n 1, 1) := by decide +kernel
theorem dX12_torqueNow_19 : decode cX12_torqueNow 19 = .ok (.lload_n 1, 1) := by decide +kernel
theorem dX12_torqueNow_20 : decode cX12_torqueNow 20 = .ok (.bipush 8, 2) := by decide +kernel
theorem dX12_torqueNow_22 : decode cX12_torqueNow 22 = .ok (.lshr, 1) := by decide +kernel
theorem dX12_torqueNow_23 : decode cX12_torqueNow 23 = .ok (.lstore_n 3, 1) := by decide +kernel
theorem dX12_torqueNow_24 : decode cX12_torqueNow 24 = .ok (.lload_n 1, 1) := by decide +kernel
theorem dX12_torqueNow_25 : decode cX12_torqueNow 25 = .ok (.ldc2_w 330, 3) := by decide +kernel
theorem dX12_torqueNow_28 : decode cX12_torqueNow 28 = .ok (.land, 1) := by decide +kernel
theorem dX12_torqueNow_29 : decode cX12_torqueNow 29 = .ok (.l2i, 1) := by decide +kernel
theorem dX12_torqueNow_30 : decode cX12_torqueNow 30 = .ok (.istore 5, 2) := by decide +kernel
theorem dX12_torqueNow_32 : decode cX12_torqueNow 32 = .ok (.lload_n 3, 1) := by decide +kernel
theorem dX12_torqueNow_33 : decode cX12_torqueNow 33 = .ok (.ldc2_w 332, 3) := by decide +kernel
theorem dX12_torqueNow_36 : decode cX12_torqueNow 36 = .ok (.lcmp, 1) := by decide +kernel
theorem dX12_torqueNow_37 : decode cX12_torqueNow 37 = .ok (.ifCond .le 5, 3) := by decide +kernel
theorem dX12_torqueNow_40 : decode cX12_torqueNow 40 = .ok (.iconst 0, 1) := by decide +kernel
theorem dX12_torqueNow_41 : decode cX12_torqueNow 41 = .ok (.ireturn, 1) := by decide +kernel
theorem dX12_torqueNow_42 : decode cX12_torqueNow 42 = .ok (.lload_n 3, 1) := by decide +kernel
theorem dX12_torqueNow_43 : decode cX12_torqueNow 43 = .ok (.l2i, 1) := by decide +kernel
theorem dX12_torqueNow_44 : decode cX12_torqueNow 44 = .ok (.istore 6, 2) := by decide +kernel
theorem dX12_torqueNow_46 : decode cX12_torqueNow 46 = .ok (.aload_n 0, 1) := by decide +kernel
theorem dX12_torqueNow_47 : decode cX12_torqueNow 47 = .ok (.getfield 28, 3) := by decide +kernel
theorem dX12_torqueNow_50 : decode cX12_torqueNow 50 = .ok (.iload 6, 2) := by decide +kernel
theorem dX12_torqueNow_52 : decode cX12_torqueNow 52 = .ok (.iaload, 1) := by decide +kernel
theorem dX12_torqueNow_53 : decode cX12_torqueNow 53 = .ok (.aload_n 0, 1) := by decide +kernel
theorem dX12_torqueNow_54 : decode cX12_torqueNow 54 = .ok (.getfield 28, 3) := by decide +kernel
theorem dX12_torqueNow_57 : decode cX12_torqueNow 57 = .ok (.iload 6, 2) := by decide +kernel
theorem dX12_torqueNow_59 : decode cX12_torqueNow 59 = .ok (.iconst 1, 1) := by decide +kernel
theorem dX12_torqueNow_60 : decode cX12_torqueNow 60 = .ok (.iadd, 1) := by decide +kernel
theorem dX12_torqueNow_61 : decode cX12_torqueNow 61 = .ok (.iaload, 1) := by decide +kernel
theorem dX12_torqueNow_62 : decode cX12_torqueNow 62 = .ok (.aload_n 0, 1) := by decide +kernel
theorem dX12_torqueNow_63 : decode cX12_torqueNow 63 = .ok (.getfield 28, 3) := by decide +kernel
theorem dX12_torqueNow_66 : decode cX12_torqueNow 66 = .ok (.iload 6, 2) := by decide +kernel
theorem dX12_torqueNow_68 : decode cX12_torqueNow 68 = .ok (.iaload, 1) := by decide +kernel
theorem dX12_torqueNow_69 : decode cX12_torqueNow 69 = .ok (.isub, 1) := by decide +kernel
theorem dX12_torqueNow_70 : decode cX12_torqueNow 70 = .ok (.iload 5, 2) := by decide +kernel
theorem dX12_torqueNow_72 : decode cX12_torqueNow 72 = .ok (.imul, 1) := by decide +kernel
theorem dX12_torqueNow_73 : decode cX12_torqueNow 73 = .ok (.bipush 8, 2) := by decide +kernel
theorem dX12_torqueNow_75 : decode cX12_torqueNow 75 = .ok (.ishr, 1) := by decide +kernel
theorem dX12_torqueNow_76 : decode cX12_torqueNow 76 = .ok (.iadd, 1) := by decide +kernel
theorem dX12_torqueNow_77 : decode cX12_torqueNow 77 = .ok (.ireturn, 1) := by decide +kernel
def f_Md_torqueNow (I : Nat → Nat → Int32) (L : Nat → Nat → Int64) : Option Int32 := ((f_Md_hasBarrel I L).bind fun q1 => (if q1 = (0 : Int32) then (some (I 41 0)) else ((f_Md_letDown I L).bind fun q4 => (bnd (q4 >>> (Int32.toInt64 (8 : Int32) &&& 63)) fun x6 => (bnd (Int64.toInt32 (q4 &&& (255 : Int64))) fun x7 => (if x6 ≤ (7 : Int64) then (bnd (Int64.toInt32 x6) fun x9 => (if (0 ≤ x9 ∧ x9 < (9 : Int32)) then (if (0 ≤ (x9 + (1 : Int32)) ∧ (x9 + (1 : Int32)) < (9 : Int32)) then (if (0 ≤ x9 ∧ x9 < (9 : Int32)) then (bnd ((I 41 (x9.toNatClampNeg)) + ((((I 41 ((x9 + (1 : Int32)).toNatClampNeg)) - (I 41 (x9.toNatClampNeg))) * x7) >>> ((8 : Int32) &&& 31))) fun x13 => (some x13)) else none) else none) else none)) else (some (0 : Int32))))))))
set_option maxRecDepth 100000 in
set_option maxHeartbeats 4000000 in
theorem c_Md_torqueNow {G : xG} {S : List xSh} {Rf : Nat → Nat → Option Nat} (hT : xTM S Rf) {I : Nat → Nat → Int32} {L : Nat → Nat → Int64} {q : Int32} (hf : f_Md_torqueNow I L = some q) : CT G 4 m_Md_torqueNow [.ref (xP G 34)] (S, I, L, Rf) (some (.int q), (S, I, L, Rf)) := by
  refine CT.of (by decide +kernel) (Nat.le_of_ble_eq_true rfl) ?_
  show X G 4 m_Md_torqueNow 0 [(0, .ref (xP G 34))] [] (S, I, L, Rf) (some (.int q), (S, I, L, Rf))
  replace hf := (f_Md_torqueNow.eq_1 _ _).symm.trans hf
  refine X_aload_n (pc := 0) (i := 0) 0 dX12_torqueNow_0 rfl rfl ?_
  obtain ⟨q1, c2, hf⟩ := bd_some hf
  refine X_invV_i (pc := 1) (c_Md_hasBarrel hT c2) ok_Md_hasBarrel (ci := 11) (sh_34 hT) k_1601 k_1603 k_55 nd_11 (by decide) rfl (Nat.le_of_ble_eq_true rfl) dX12_torqueNow_1 ?_
  by_cases c3 : q1 = (0 : Int32)
  · replace hf := (if_pos c3).symm.trans hf
    refine X_if_ne_f (pc := 4) 14 dX12_torqueNow_4 (by decide) c3 ?_
    refine X_aload_n (pc := 7) (i := 0) 0 dX12_torqueNow_7 rfl rfl ?_
    refine X_getr (pc := 8) (a := 34) (ci := 11) (j := 15) (c := 41) (sh_34 hT) (by decide) k_1243 (rf_34_15 hT) (fun _ h => h) dX12_torqueNow_8 ?_
    refine X_iconst (pc := 11) (0 : Int32) dX12_torqueNow_11 (by decide) ?_
    refine X_ialdj (pc := 12) (j := 0) (I 41 0) (sh_41 hT) (vp_in_lit (N := 9) (by decide) (by decide)) (by decide) rfl dX12_torqueNow_12 ?_
    cases hf
    exact X_ireturn (pc := 13) rfl dX12_torqueNow_13
  · replace hf := (if_neg c3).symm.trans hf
    refine X_if_ne_t (pc := 4) 14 dX12_torqueNow_4 (by decide) c3 ?_
    refine X_aload_n (pc := 14) (i := 0) 0 dX12_torqueNow_14 rfl rfl ?_
    obtain ⟨q4, c5, hf⟩ := bd_some hf
    refine X_invV_l (pc := 15) (c_Md_letDown hT c5) ok_Md_letDown (ci := 11) (sh_34 hT) k_1609 k_1611 k_57 nd_20 (by decide) rfl (Nat.le_of_ble_eq_true rfl) dX12_torqueNow_15 ?_
    refine X_lstore_n (pc := 18) (i := 1) [(1, .long q4), (0, .ref (xP G 34))] dX12_torqueNow_18 rfl (by decide) rfl ?_
    refine X_lload_n (pc := 19) (i := 1) 0 dX12_torqueNow_19 rfl rfl ?_
    refine X_bipush (pc := 20) (8 : Int32) dX12_torqueNow_20 (by decide) ?_
    refine X_lshr (pc := 22) dX12_torqueNow_22 ?_
    obtain ⟨x6, ex6, hf⟩ := bnd_e hf
    refine X_tople ex6 ?_
    refine X_lstore_n (pc := 23) (i := 3) [(3, .long x6), (1, .long q4), (0, .ref (xP G 34))] dX12_torqueNow_23 rfl (by decide) rfl ?_
    refine X_lload_n (pc := 24) (i := 1) 1 dX12_torqueNow_24 rfl rfl ?_
    refine X_ldc2 (pc := 25) (255 : Int64) k_1614 dX12_torqueNow_25 ?_
    refine X_land (pc := 28) dX12_torqueNow_28 ?_
    refine X_l2i (pc := 29) dX12_torqueNow_29 ?_
    obtain ⟨x7, ex7, hf⟩ := bnd_e hf
    refine X_tope ex7 ?_
    refine X_istore (pc := 30) [(5, .int x7), (3, .long x6), (1, .long q4), (0, .ref (xP G 34))] dX12_torqueNow_30 (by decide) rfl ?_
    refine X_lload_n (pc := 32) (i := 3) 1 dX12_torqueNow_32 rfl rfl ?_
    refine X_ldc2 (pc := 33) (7 : Int64) k_1615 dX12_torqueNow_33 ?_
    refine X_lcmp (pc := 36) dX12_torqueNow_36 ?_
    by_cases c8 : x6 ≤ (7 : Int64)
    · replace hf := (if_pos c8).symm.trans hf
      refine X_if_le_t (pc := 37) 42 dX12_torqueNow_37 (by decide) ((lg_cmp_le _ _).mpr c8) ?_
      refine X_lload_n (pc := 42) (i := 3) 1 dX12_torqueNow_42 rfl rfl ?_
      refine X_l2i (pc := 43) dX12_torqueNow_43 ?_
      obtain ⟨x9, ex9, hf⟩ := bnd_e hf
      refine X_tope ex9 ?_
      refine X_istore (pc := 44) [(6, .int x9), (5, .int x7), (3, .long x6), (1, .long q4), (0, .ref (xP G 34))] dX12_torqueNow_44 (by decide) rfl ?_
      refine X_aload_n (pc := 46) (i := 0) 4 dX12_torqueNow_46 rfl rfl ?_
      refine X_getr (pc := 47) (a := 34) (ci := 11) (j := 15) (c := 41) (sh_34 hT) (by decide) k_1243 (rf_34_15 hT) (fun _ h => h) dX12_torqueNow_47 ?_
      refine X_iload (pc := 50) 0 dX12_torqueNow_50 rfl ?_
      obtain ⟨c10, hf⟩ := gd_some hf
      refine X_ialdj (pc := 52) (j := x9.toNatClampNeg) (I 41 (x9.toNatClampNeg)) (sh_41 hT) (vp_in_lit (N := 9) c10 (by decide)) rfl rfl dX12_torqueNow_52 ?_
      refine X_aload_n (pc := 53) (i := 0) 4 dX12_torqueNow_53 rfl rfl ?_
      refine X_getr (pc := 54) (a := 34) (ci := 11) (j := 15) (c := 41) (sh_34 hT) (by decide) k_1243 (rf_34_15 hT) (fun _ h => h) dX12_torqueNow_54 ?_
      refine X_iload (pc := 57) 0 dX12_torqueNow_57 rfl ?_
      refine X_iconst (pc := 59) (1 : Int32) dX12_torqueNow_59 (by decide) ?_
      refine X_iadd (pc := 60) dX12_torqueNow_60 ?_
      obtain ⟨c11, hf⟩ := gd_some hf
      refine X_ialdj (pc := 61) (j := (x9 + (1 : Int32)).toNatClampNeg) (I 41 ((x9 + (1 : Int32)).toNatClampNeg)) (sh_41 hT) (vp_in_lit (N := 9) c11 (by decide)) rfl rfl dX12_torqueNow_61 ?_
      refine X_aload_n (pc := 62) (i := 0) 4 dX12_torqueNow_62 rfl rfl ?_
      refine X_getr (pc := 63) (a := 34) (ci := 11) (j := 15) (c := 41) (sh_34 hT) (by decide) k_1243 (rf_34_15 hT) (fun _ h => h) dX12_torqueNow_63 ?_
      refine X_iload (pc := 66) 0 dX12_torqueNow_66 rfl ?_
      obtain ⟨c12, hf⟩ := gd_some hf
      refine X_ialdj (pc := 68) (j := x9.toNatClampNeg) (I 41 (x9.toNatClampNeg)) (sh_41 hT) (vp_in_lit (N := 9) c12 (by decide)) rfl rfl dX12_torqueNow_68 ?_
      refine X_isub (pc := 69) dX12_torqueNow_69 ?_
      refine X_iload (pc := 70) 1 dX12_torqueNow_70 rfl ?_
      refine X_imul (pc := 72) dX12_torqueNow_72 ?_
      refine X_bipush (pc := 73) (8 : Int32) dX12_torqueNow_73 (by decide) ?_
      refine X_ishr (pc := 75) dX12_torqueNow_75 ?_
      refine X_iadd (pc := 76) dX12_torqueNow_76 ?_
      obtain ⟨x13, ex13, hf⟩ := bnd_e hf
      refine X_tope ex13 ?_
      cases hf
      exact X_ireturn (pc := 77) rfl dX12_torqueNow_77
    · replace hf := (if_neg c8).symm.trans hf
      refine X_if_le_f (pc := 37) 42 dX12_torqueNow_37 (by decide) (fun h => c8 ((lg_cmp_le _ _).mp h)) ?_
      refine X_iconst (pc := 40) (0 : Int32) dX12_torqueNow_40 (by decide) ?_
      cases hf
      exact X_ireturn (pc := 41) rfl dX12_torqueNow_41
theorem dX12_turnsAt_0 : decode cX12_turnsAt 0 = .ok (.aload_n 0, 1) := by decide +kernel
theorem dX12_turnsAt_1 : decode cX12_turnsAt 1 = .ok (.getfield 80, 3) := by decide +kernel
theorem dX12_turnsAt_4 : decode cX12_turnsAt 4 = .ok (.iload_n 1, 1) := by decide +kernel
theorem dX12_turnsAt_5 : decode cX12_turnsAt 5 = .ok (.laload, 1) := by decide +kernel
theorem dX12_turnsAt_6 : decode cX12_turnsAt 6 = .ok (.invokestatic 287, 3) := by decide +kernel
theorem dX12_turnsAt_9 : decode cX12_turnsAt 9 = .ok (.lload_n 2, 1) := by decide +kernel
theorem dX12_turnsAt_10 : decode cX12_turnsAt 10 = .ok (.lmul, 1) := by decide +kernel
theorem dX12_turnsAt_11 : decode cX12_turnsAt 11 = .ok (.aload_n 0, 1) := by decide +kernel
theorem dX12_turnsAt_12 : decode cX12_turnsAt 12 = .ok (.getfield 84, 3) := by decide +kernel
theorem dX12_turnsAt_15 : decode cX12_turnsAt 15 = .ok (.iload_n 1, 1) := by decide +kernel
theorem dX12_turnsAt_16 : decode cX12_turnsAt 16 = .ok (.laload, 1) := by decide +kernel
theorem dX12_turnsAt_17 : decode cX12_turnsAt 17 = .ok (.ldc2_w 253, 3) := by decide +kernel
theorem dX12_turnsAt_20 : decode cX12_turnsAt 20 = .ok (.lmul, 1) := by decide +kernel
theorem dX12_turnsAt_21 : decode cX12_turnsAt 21 = .ok (.aload_n 0, 1) := by decide +kernel
theorem dX12_turnsAt_22 : decode cX12_turnsAt 22 = .ok (.getfield 153, 3) := by decide +kernel
theorem dX12_turnsAt_25 : decode cX12_turnsAt 25 = .ok (.i2l, 1) := by decide +kernel
theorem dX12_turnsAt_26 : decode cX12_turnsAt 26 = .ok (.lmul, 1) := by decide +kernel
theorem dX12_turnsAt_27 : decode cX12_turnsAt 27 = .ok (.ldiv, 1) := by decide +kernel
theorem dX12_turnsAt_28 : decode cX12_turnsAt 28 = .ok (.lreturn, 1) := by decide +kernel
def f_Md_turnsAt (a0 : Int32) (a1 : Int64) (I : Nat → Nat → Int32) (L : Nat → Nat → Int64) : Option Int64 := (if (0 ≤ a0 ∧ a0 < (24 : Int32)) then (if (0 ≤ a0 ∧ a0 < (24 : Int32)) then (if ¬ (((L 59 (a0.toNatClampNeg)) * (2 : Int64)) * (Int32.toInt64 (I 34 9))) = (0 : Int64) then (some (((Jabs (L 58 (a0.toNatClampNeg))) * a1) / (((L 59 (a0.toNatClampNeg)) * (2 : Int64)) * (Int32.toInt64 (I 34 9))))) else none) else none) else none)
set_option maxRecDepth 100000 in
set_option maxHeartbeats 4000000 in
theorem c_Md_turnsAt {G : xG} {S : List xSh} {Rf : Nat → Nat → Option Nat} (hT : xTM S Rf) {a0 : Int32} {a1 : Int64} {I : Nat → Nat → Int32} {L : Nat → Nat → Int64} {q : Int64} (hf : f_Md_turnsAt a0 a1 I L = some q) : CT G 1 m_Md_turnsAt [.ref (xP G 34), .int a0, .long a1] (S, I, L, Rf) (some (.long q), (S, I, L, Rf)) := by
  refine CT.of (by decide +kernel) (Nat.le_of_ble_eq_true rfl) ?_
  show X G 1 m_Md_turnsAt 0 [(0, .ref (xP G 34)), (1, .int a0), (2, .long a1)] [] (S, I, L, Rf) (some (.long q), (S, I, L, Rf))
  replace hf := (f_Md_turnsAt.eq_1 _ _ _ _).symm.trans hf
  refine X_aload_n (pc := 0) (i := 0) 0 dX12_turnsAt_0 rfl rfl ?_
  refine X_getr (pc := 1) (a := 34) (ci := 11) (j := 49) (c := 58) (sh_34 hT) (by decide) k_1277 (rf_34_49 hT) (fun _ h => h) dX12_turnsAt_1 ?_
  refine X_iload_n (pc := 4) (i := 1) 1 dX12_turnsAt_4 rfl rfl ?_
  obtain ⟨c1, hf⟩ := gd_some hf
  refine X_laldj (pc := 5) (j := a0.toNatClampNeg) (L 58 (a0.toNatClampNeg)) (sh_58 hT) (vp_in_lit (N := 24) c1 (by decide)) rfl rfl dX12_turnsAt_5 ?_
  refine X_Jabs (pc := 6) k_1568 (by decide) (Nat.le_of_ble_eq_true rfl) dX12_turnsAt_6 ?_
  refine X_lload_n (pc := 9) (i := 2) 2 dX12_turnsAt_9 rfl rfl ?_
  refine X_lmul (pc := 10) dX12_turnsAt_10 ?_
  refine X_aload_n (pc := 11) (i := 0) 0 dX12_turnsAt_11 rfl rfl ?_
  refine X_getr (pc := 12) (a := 34) (ci := 11) (j := 50) (c := 59) (sh_34 hT) (by decide) k_1278 (rf_34_50 hT) (fun _ h => h) dX12_turnsAt_12 ?_
  refine X_iload_n (pc := 15) (i := 1) 1 dX12_turnsAt_15 rfl rfl ?_
  obtain ⟨c2, hf⟩ := gd_some hf
  refine X_laldj (pc := 16) (j := a0.toNatClampNeg) (L 59 (a0.toNatClampNeg)) (sh_59 hT) (vp_in_lit (N := 24) c2 (by decide)) rfl rfl dX12_turnsAt_16 ?_
  refine X_ldc2 (pc := 17) (2 : Int64) k_1521 dX12_turnsAt_17 ?_
  refine X_lmul (pc := 20) dX12_turnsAt_20 ?_
  refine X_aload_n (pc := 21) (i := 0) 0 dX12_turnsAt_21 rfl rfl ?_
  refine X_get (pc := 22) (a := 34) (ci := 11) (j := 9) (.int (I 34 9)) (sh_34 hT) (by decide) k_1237 rfl dX12_turnsAt_22 ?_
  refine X_i2l (pc := 25) dX12_turnsAt_25 ?_
  refine X_lmul (pc := 26) dX12_turnsAt_26 ?_
  obtain ⟨c3, hf⟩ := gd_some hf
  refine X_ldiv (pc := 27) dX12_turnsAt_27 c3 ?_
  cases hf
  exact X_lreturn (pc := 28) rfl dX12_turnsAt_28
theorem dX12_length_0 : decode cX12_length 0 = .ok (.iload_n 1, 1) := by decide +kernel
theorem dX12_length_1 : decode cX12_length 1 = .ok (.iconst 4, 1) := by decide +kernel
theorem dX12_length_2 : decode cX12_length 2 = .ok (.if_icmp .eq 21, 3) := by decide +kernel
theorem dX12_length_5 : decode cX12_length 5 = .ok (.iload_n 1, 1) := by decide +kernel
theorem dX12_length_6 : decode cX12_length 6 = .ok (.bipush 6, 2) := by decide +kernel
theorem dX12_length_8 : decode cX12_length 8 = .ok (.if_icmp .eq 15, 3) := by decide +kernel
theorem dX12_length_11 : decode cX12_length 11 = .ok (.iload_n 1, 1) := by decide +kernel
theorem dX12_length_12 : decode cX12_length 12 = .ok (.bipush 9, 2) := by decide +kernel
theorem dX12_length_14 : decode cX12_length 14 = .ok (.if_icmp .eq 9, 3) := by decide +kernel
theorem dX12_length_17 : decode cX12_length 17 = .ok (.iload_n 1, 1) := by decide +kernel
theorem dX12_length_18 : decode cX12_length 18 = .ok (.bipush 11, 2) := by decide +kernel
theorem dX12_length_20 : decode cX12_length 20 = .ok (.if_icmp .ne 7, 3) := by decide +kernel
theorem dX12_length_23 : decode cX12_length 23 = .ok (.iconst 1, 1) := by decide +kernel
theorem dX12_length_24 : decode cX12_length 24 = .ok (.goto 4, 3) := by decide +kernel
theorem dX12_length_27 : decode cX12_length 27 = .ok (.iconst 0, 1) := by decide +kernel
theorem dX12_length_28 : decode cX12_length 28 = .ok (.istore_n 3, 1) := by decide +kernel
theorem dX12_length_29 : decode cX12_length 29 = .ok (.iload_n 0, 1) := by decide +kernel
theorem dX12_length_30 : decode cX12_length 30 = .ok (.ifCond .ne 6, 3) := by decide +kernel
theorem dX12_length_33 : decode cX12_length 33 = .ok (.bipush 31, 2) := by decide +kernel
theorem dX12_length_35 : decode cX12_length 35 = .ok (.ireturn, 1) := by decide +kernel
theorem dX12_length_36 : decode cX12_length 36 = .ok (.iload_n 0, 1) := by decide +kernel
theorem dX12_length_37 : decode cX12_length 37 = .ok (.iconst 3, 1) := by decide +kernel
theorem dX12_length_38 : decode cX12_length 38 = .ok (.if_icmp .ne 9, 3) := by decide +kernel
theorem dX12_length_41 : decode cX12_length 41 = .ok (.iload_n 1, 1) := by decide +kernel
theorem dX12_length_42 : decode cX12_length 42 = .ok (.iload_n 2, 1) := by decide +kernel
theorem dX12_length_43 : decode cX12_length 43 = .ok (.invokestatic 265, 3) := by decide +kernel
theorem dX12_length_46 : decode cX12_length 46 = .ok (.ireturn, 1) := by decide +kernel
theorem dX12_length_47 : decode cX12_length 47 = .ok (.iload_n 3, 1) := by decide +kernel
theorem dX12_length_48 : decode cX12_length 48 = .ok (.ifCond .eq 8, 3) := by decide +kernel
theorem dX12_length_51 : decode cX12_length 51 = .ok (.bipush 30, 2) := by decide +kernel
theorem dX12_length_53 : decode cX12_length 53 = .ok (.goto 36, 3) := by decide +kernel
theorem dX12_length_56 : decode cX12_length 56 = .ok (.iload_n 1, 1) := by decide +kernel
theorem dX12_length_57 : decode cX12_length 57 = .ok (.iconst 2, 1) := by decide +kernel
theorem dX12_length_58 : decode cX12_length 58 = .ok (.if_icmp .eq 8, 3) := by decide +kernel
theorem dX12_length_61 : decode cX12_length 61 = .ok (.bipush 31, 2) := by decide +kernel
theorem dX12_length_63 : decode cX12_length 63 = .ok (.goto 26, 3) := by decide +kernel
theorem dX12_length_66 : decode cX12_length 66 = .ok (.iload_n 0, 1) := by decide +kernel
theorem dX12_length_67 : decode cX12_length 67 = .ok (.iconst 1, 1) := by decide +kernel
theorem dX12_length_68 : decode cX12_length 68 = .ok (.if_icmp .ne 8, 3) := by decide +kernel
theorem dX12_length_71 : decode cX12_length 71 = .ok (.bipush 30, 2) := by decide +kernel
theorem dX12_length_73 : decode cX12_length 73 = .ok (.goto 16, 3) := by decide +kernel
theorem dX12_length_76 : decode cX12_length 76 = .ok (.iload_n 2, 1) := by decide +kernel
theorem dX12_length_77 : decode cX12_length 77 = .ok (.iconst 4, 1) := by decide +kernel
theorem dX12_length_78 : decode cX12_length 78 = .ok (.irem, 1) := by decide +kernel
theorem dX12_length_79 : decode cX12_length 79 = .ok (.ifCond .ne 8, 3) := by decide +kernel
theorem dX12_length_82 : decode cX12_length 82 = .ok (.bipush 29, 2) := by decide +kernel
theorem dX12_length_84 : decode cX12_length 84 = .ok (.goto 5, 3) := by decide +kernel
theorem dX12_length_87 : decode cX12_length 87 = .ok (.bipush 28, 2) := by decide +kernel
theorem dX12_length_89 : decode cX12_length 89 = .ok (.ireturn, 1) := by decide +kernel
def f_Md_length_L28 (l0 : Int32) (l1 : Int32) (l2 : Int32) (s0 : Int32) : Int32 := (if l0 = (0 : Int32) then (31 : Int32) else (if l0 = (3 : Int32) then (f_Md_trueLength l1 l2) else (if s0 = (0 : Int32) then (if l1 = (2 : Int32) then (if l0 = (1 : Int32) then (30 : Int32) else (if (irem l2 (4 : Int32)) = (0 : Int32) then (29 : Int32) else (28 : Int32))) else (31 : Int32)) else (30 : Int32))))
set_option maxRecDepth 100000 in
set_option maxHeartbeats 4000000 in
theorem x_Md_length_L28 {G : xG} {S : List xSh} {Rf : Nat → Nat → Option Nat} (hT : xTM S Rf) {l0 : Int32} {l1 : Int32} {l2 : Int32} {s0 : Int32} {I : Nat → Nat → Int32} {L : Nat → Nat → Int64} {q : Int32} (hf : f_Md_length_L28 l0 l1 l2 s0 = q) : X G 3 m_Md_length 28 [(0, .int l0), (1, .int l1), (2, .int l2)] [.int s0] (S, I, L, Rf) (some (.int q), (S, I, L, Rf)) := by
  replace hf := (f_Md_length_L28.eq_1 _ _ _ _).symm.trans hf
  refine X_istore_n (pc := 28) (i := 3) [(3, .int s0), (0, .int l0), (1, .int l1), (2, .int l2)] dX12_length_28 rfl (by decide) rfl ?_
  refine X_iload_n (pc := 29) (i := 0) 1 dX12_length_29 rfl rfl ?_
  by_cases c2 : l0 = (0 : Int32)
  · replace hf := (if_pos c2).symm.trans hf
    refine X_if_ne_f (pc := 30) 36 dX12_length_30 (by decide) c2 ?_
    refine X_bipush (pc := 33) (31 : Int32) dX12_length_33 (by decide) ?_
    subst hf
    exact X_ireturn (pc := 35) rfl dX12_length_35
  · replace hf := (if_neg c2).symm.trans hf
    refine X_if_ne_t (pc := 30) 36 dX12_length_30 (by decide) c2 ?_
    refine X_iload_n (pc := 36) (i := 0) 1 dX12_length_36 rfl rfl ?_
    refine X_iconst (pc := 37) (3 : Int32) dX12_length_37 (by decide) ?_
    by_cases c3 : l0 = (3 : Int32)
    · replace hf := (if_pos c3).symm.trans hf
      refine X_icmp_ne_f (pc := 38) 47 dX12_length_38 (by decide) c3 ?_
      refine X_iload_n (pc := 41) (i := 1) 2 dX12_length_41 rfl rfl ?_
      refine X_iload_n (pc := 42) (i := 2) 3 dX12_length_42 rfl rfl ?_
      refine X_invS_i (pc := 43) (c_Md_trueLength hT rfl) ok_Md_trueLength k_1222 k_1223 nd_21 (by decide) rfl (Nat.le_of_ble_eq_true rfl) dX12_length_43 ?_
      subst hf
      exact X_ireturn (pc := 46) rfl dX12_length_46
    · replace hf := (if_neg c3).symm.trans hf
      refine X_icmp_ne_t (pc := 38) 47 dX12_length_38 (by decide) c3 ?_
      refine X_iload_n (pc := 47) (i := 3) 0 dX12_length_47 rfl rfl ?_
      by_cases c4 : s0 = (0 : Int32)
      · replace hf := (if_pos c4).symm.trans hf
        refine X_if_eq_t (pc := 48) 56 dX12_length_48 (by decide) c4 ?_
        refine X_iload_n (pc := 56) (i := 1) 2 dX12_length_56 rfl rfl ?_
        refine X_iconst (pc := 57) (2 : Int32) dX12_length_57 (by decide) ?_
        by_cases c5 : l1 = (2 : Int32)
        · replace hf := (if_pos c5).symm.trans hf
          refine X_icmp_eq_t (pc := 58) 66 dX12_length_58 (by decide) c5 ?_
          refine X_iload_n (pc := 66) (i := 0) 1 dX12_length_66 rfl rfl ?_
          refine X_iconst (pc := 67) (1 : Int32) dX12_length_67 (by decide) ?_
          by_cases c6 : l0 = (1 : Int32)
          · replace hf := (if_pos c6).symm.trans hf
            refine X_icmp_ne_f (pc := 68) 76 dX12_length_68 (by decide) c6 ?_
            refine X_bipush (pc := 71) (30 : Int32) dX12_length_71 (by decide) ?_
            refine X_goto (pc := 73) 89 dX12_length_73 (by decide) ?_
            subst hf
            exact X_ireturn (pc := 89) rfl dX12_length_89
          · replace hf := (if_neg c6).symm.trans hf
            refine X_icmp_ne_t (pc := 68) 76 dX12_length_68 (by decide) c6 ?_
            refine X_iload_n (pc := 76) (i := 2) 3 dX12_length_76 rfl rfl ?_
            refine X_iconst (pc := 77) (4 : Int32) dX12_length_77 (by decide) ?_
            refine X_irem (pc := 78) dX12_length_78 (by decide) ?_
            by_cases c7 : (irem l2 (4 : Int32)) = (0 : Int32)
            · replace hf := (if_pos c7).symm.trans hf
              refine X_if_ne_f (pc := 79) 87 dX12_length_79 (by decide) c7 ?_
              refine X_bipush (pc := 82) (29 : Int32) dX12_length_82 (by decide) ?_
              refine X_goto (pc := 84) 89 dX12_length_84 (by decide) ?_
              subst hf
              exact X_ireturn (pc := 89) rfl dX12_length_89
            · replace hf := (if_neg c7).symm.trans hf
              refine X_if_ne_t (pc := 79) 87 dX12_length_79 (by decide) c7 ?_
              refine X_bipush (pc := 87) (28 : Int32) dX12_length_87 (by decide) ?_
              subst hf
              exact X_ireturn (pc := 89) rfl dX12_length_89
        · replace hf := (if_neg c5).symm.trans hf
          refine X_icmp_eq_f (pc := 58) 66 dX12_length_58 (by decide) c5 ?_
          refine X_bipush (pc := 61) (31 : Int32) dX12_length_61 (by decide) ?_
          refine X_goto (pc := 63) 89 dX12_length_63 (by decide) ?_
          subst hf
          exact X_ireturn (pc := 89) rfl dX12_length_89
      · replace hf := (if_neg c4).symm.trans hf
        refine X_if_eq_f (pc := 48) 56 dX12_length_48 (by decide) c4 ?_
        refine X_bipush (pc := 51) (30 : Int32) dX12_length_51 (by decide) ?_
        refine X_goto (pc := 53) 89 dX12_length_53 (by decide) ?_
        subst hf
        exact X_ireturn (pc := 89) rfl dX12_length_89
def f_Md_length_L23 (l0 : Int32) (l1 : Int32) (l2 : Int32) : Int32 := (f_Md_length_L28 l0 l1 l2 (1 : Int32))
set_option maxRecDepth 100000 in
set_option maxHeartbeats 4000000 in
theorem x_Md_length_L23 {G : xG} {S : List xSh} {Rf : Nat → Nat → Option Nat} (hT : xTM S Rf) {l0 : Int32} {l1 : Int32} {l2 : Int32} {I : Nat → Nat → Int32} {L : Nat → Nat → Int64} {q : Int32} (hf : f_Md_length_L23 l0 l1 l2 = q) : X G 3 m_Md_length 23 [(0, .int l0), (1, .int l1), (2, .int l2)] [] (S, I, L, Rf) (some (.int q), (S, I, L, Rf)) := by
  replace hf := (f_Md_length_L23.eq_1 _ _ _).symm.trans hf
  refine X_iconst (pc := 23) (1 : Int32) dX12_length_23 (by decide) ?_
  refine X_goto (pc := 24) 28 dX12_length_24 (by decide) ?_
  exact X_lvs [0, 1, 2] rfl (x_Md_length_L28 hT hf)
def f_Md_length (a0 : Int32) (a1 : Int32) (a2 : Int32) : Int32 := (if a1 = (4 : Int32) then (f_Md_length_L23 a0 a1 a2) else (if a1 = (6 : Int32) then (f_Md_length_L23 a0 a1 a2) else (if a1 = (9 : Int32) then (f_Md_length_L23 a0 a1 a2) else (if a1 = (11 : Int32) then (f_Md_length_L23 a0 a1 a2) else (f_Md_length_L28 a0 a1 a2 (0 : Int32))))))
set_option maxRecDepth 100000 in
set_option maxHeartbeats 4000000 in
theorem c_Md_length {G : xG} {S : List xSh} {Rf : Nat → Nat → Option Nat} (hT : xTM S Rf) {a0 : Int32} {a1 : Int32} {a2 : Int32} {I : Nat → Nat → Int32} {L : Nat → Nat → Int64} {q : Int32} (hf : f_Md_length a0 a1 a2 = q) : CT G 3 m_Md_length [.int a0, .int a1, .int a2] (S, I, L, Rf) (some (.int q), (S, I, L, Rf)) := by
  refine CT.of (by decide +kernel) (Nat.le_of_ble_eq_true rfl) ?_
  show X G 3 m_Md_length 0 [(0, .int a0), (1, .int a1), (2, .int a2)] [] (S, I, L, Rf) (some (.int q), (S, I, L, Rf))
  replace hf := (f_Md_length.eq_1 _ _ _).symm.trans hf
  refine X_iload_n (pc := 0) (i := 1) 1 dX12_length_0 rfl rfl ?_
  refine X_iconst (pc := 1) (4 : Int32) dX12_length_1 (by decide) ?_
  by_cases c1 : a1 = (4 : Int32)
  · replace hf := (if_pos c1).symm.trans hf
    refine X_icmp_eq_t (pc := 2) 23 dX12_length_2 (by decide) c1 ?_
    exact X_lvs [0, 1, 2] rfl (x_Md_length_L23 hT hf)
  · replace hf := (if_neg c1).symm.trans hf
    refine X_icmp_eq_f (pc := 2) 23 dX12_length_2 (by decide) c1 ?_
    refine X_iload_n (pc := 5) (i := 1) 1 dX12_length_5 rfl rfl ?_
    refine X_bipush (pc := 6) (6 : Int32) dX12_length_6 (by decide) ?_
    by_cases c8 : a1 = (6 : Int32)
    · replace hf := (if_pos c8).symm.trans hf
      refine X_icmp_eq_t (pc := 8) 23 dX12_length_8 (by decide) c8 ?_
      exact X_lvs [0, 1, 2] rfl (x_Md_length_L23 hT hf)
    · replace hf := (if_neg c8).symm.trans hf
      refine X_icmp_eq_f (pc := 8) 23 dX12_length_8 (by decide) c8 ?_
      refine X_iload_n (pc := 11) (i := 1) 1 dX12_length_11 rfl rfl ?_
      refine X_bipush (pc := 12) (9 : Int32) dX12_length_12 (by decide) ?_
      by_cases c9 : a1 = (9 : Int32)
      · replace hf := (if_pos c9).symm.trans hf
        refine X_icmp_eq_t (pc := 14) 23 dX12_length_14 (by decide) c9 ?_
        exact X_lvs [0, 1, 2] rfl (x_Md_length_L23 hT hf)
      · replace hf := (if_neg c9).symm.trans hf
        refine X_icmp_eq_f (pc := 14) 23 dX12_length_14 (by decide) c9 ?_
        refine X_iload_n (pc := 17) (i := 1) 1 dX12_length_17 rfl rfl ?_
        refine X_bipush (pc := 18) (11 : Int32) dX12_length_18 (by decide) ?_
        by_cases c10 : a1 = (11 : Int32)
        · replace hf := (if_pos c10).symm.trans hf
          refine X_icmp_ne_f (pc := 20) 27 dX12_length_20 (by decide) c10 ?_
          exact X_lvs [0, 1, 2] rfl (x_Md_length_L23 hT hf)
        · replace hf := (if_neg c10).symm.trans hf
          refine X_icmp_ne_t (pc := 20) 27 dX12_length_20 (by decide) c10 ?_
          refine X_iconst (pc := 27) (0 : Int32) dX12_length_27 (by decide) ?_
          exact X_lvs [0, 1, 2] rfl (x_Md_length_L28 hT hf)
theorem dX12_nextDay_0 : decode cX12_nextDay 0 = .ok (.bipush 10, 2) := by decide +kernel
theorem dX12_nextDay_2 : decode cX12_nextDay 2 = .ok (.iload_n 1, 1) := by decide +kernel
theorem dX12_nextDay_3 : decode cX12_nextDay 3 = .ok (.imul, 1) := by decide +kernel
theorem dX12_nextDay_4 : decode cX12_nextDay 4 = .ok (.istore_n 2, 1) := by decide +kernel
theorem dX12_nextDay_5 : decode cX12_nextDay 5 = .ok (.aload_n 0, 1) := by decide +kernel
theorem dX12_nextDay_6 : decode cX12_nextDay 6 = .ok (.getfield 49, 3) := by decide +kernel
theorem dX12_nextDay_9 : decode cX12_nextDay 9 = .ok (.iload_n 2, 1) := by decide +kernel
theorem dX12_nextDay_10 : decode cX12_nextDay 10 = .ok (.iconst 4, 1) := by decide +kernel
theorem dX12_nextDay_11 : decode cX12_nextDay 11 = .ok (.iadd, 1) := by decide +kernel
theorem dX12_nextDay_12 : decode cX12_nextDay 12 = .ok (.aload_n 0, 1) := by decide +kernel
theorem dX12_nextDay_13 : decode cX12_nextDay 13 = .ok (.getfield 49, 3) := by decide +kernel
theorem dX12_nextDay_16 : decode cX12_nextDay 16 = .ok (.iload_n 2, 1) := by decide +kernel
theorem dX12_nextDay_17 : decode cX12_nextDay 17 = .ok (.iconst 4, 1) := by decide +kernel
theorem dX12_nextDay_18 : decode cX12_nextDay 18 = .ok (.iadd, 1) := by decide +kernel
theorem dX12_nextDay_19 : decode cX12_nextDay 19 = .ok (.iaload, 1) := by decide +kernel
theorem dX12_nextDay_20 : decode cX12_nextDay 20 = .ok (.sipush 10000, 3) := by decide +kernel
theorem dX12_nextDay_23 : decode cX12_nextDay 23 = .ok (.invokestatic 283, 3) := by decide +kernel
theorem dX12_nextDay_26 : decode cX12_nextDay 26 = .ok (.iconst 1, 1) := by decide +kernel
theorem dX12_nextDay_27 : decode cX12_nextDay 27 = .ok (.isub, 1) := by decide +kernel
theorem dX12_nextDay_28 : decode cX12_nextDay 28 = .ok (.if_icmp .ne 7, 3) := by decide +kernel
theorem dX12_nextDay_31 : decode cX12_nextDay 31 = .ok (.iconst 0, 1) := by decide +kernel
theorem dX12_nextDay_32 : decode cX12_nextDay 32 = .ok (.goto 13, 3) := by decide +kernel
theorem dX12_nextDay_35 : decode cX12_nextDay 35 = .ok (.aload_n 0, 1) := by decide +kernel
theorem dX12_nextDay_36 : decode cX12_nextDay 36 = .ok (.getfield 49, 3) := by decide +kernel
theorem dX12_nextDay_39 : decode cX12_nextDay 39 = .ok (.iload_n 2, 1) := by decide +kernel
theorem dX12_nextDay_40 : decode cX12_nextDay 40 = .ok (.iconst 4, 1) := by decide +kernel
theorem dX12_nextDay_41 : decode cX12_nextDay 41 = .ok (.iadd, 1) := by decide +kernel
theorem dX12_nextDay_42 : decode cX12_nextDay 42 = .ok (.iaload, 1) := by decide +kernel
theorem dX12_nextDay_43 : decode cX12_nextDay 43 = .ok (.iconst 1, 1) := by decide +kernel
theorem dX12_nextDay_44 : decode cX12_nextDay 44 = .ok (.iadd, 1) := by decide +kernel
theorem dX12_nextDay_45 : decode cX12_nextDay 45 = .ok (.iastore, 1) := by decide +kernel
theorem dX12_nextDay_46 : decode cX12_nextDay 46 = .ok (.aload_n 0, 1) := by decide +kernel
theorem dX12_nextDay_47 : decode cX12_nextDay 47 = .ok (.getfield 49, 3) := by decide +kernel
theorem dX12_nextDay_50 : decode cX12_nextDay 50 = .ok (.iload_n 2, 1) := by decide +kernel
theorem dX12_nextDay_51 : decode cX12_nextDay 51 = .ok (.iconst 3, 1) := by decide +kernel
theorem dX12_nextDay_52 : decode cX12_nextDay 52 = .ok (.iadd, 1) := by decide +kernel
theorem dX12_nextDay_53 : decode cX12_nextDay 53 = .ok (.aload_n 0, 1) := by decide +kernel
theorem dX12_nextDay_54 : decode cX12_nextDay 54 = .ok (.getfield 49, 3) := by decide +kernel
theorem dX12_nextDay_57 : decode cX12_nextDay 57 = .ok (.iload_n 2, 1) := by decide +kernel
theorem dX12_nextDay_58 : decode cX12_nextDay 58 = .ok (.iconst 3, 1) := by decide +kernel
theorem dX12_nextDay_59 : decode cX12_nextDay 59 = .ok (.iadd, 1) := by decide +kernel
theorem dX12_nextDay_60 : decode cX12_nextDay 60 = .ok (.iaload, 1) := by decide +kernel
theorem dX12_nextDay_61 : decode cX12_nextDay 61 = .ok (.iconst 1, 1) := by decide +kernel
theorem dX12_nextDay_62 : decode cX12_nextDay 62 = .ok (.iadd, 1) := by decide +kernel
theorem dX12_nextDay_63 : decode cX12_nextDay 63 = .ok (.bipush 7, 2) := by decide +kernel
theorem dX12_nextDay_65 : decode cX12_nextDay 65 = .ok (.irem, 1) := by decide +kernel
theorem dX12_nextDay_66 : decode cX12_nextDay 66 = .ok (.iastore, 1) := by decide +kernel
theorem dX12_nextDay_67 : decode cX12_nextDay 67 = .ok (.aload_n 0, 1) := by decide +kernel
theorem dX12_nextDay_68 : decode cX12_nextDay 68 = .ok (.getfield 49, 3) := by decide +kernel
theorem dX12_nextDay_71 : decode cX12_nextDay 71 = .ok (.iload_n 2, 1) := by decide +kernel
theorem dX12_nextDay_72 : decode cX12_nextDay 72 = .ok (.iaload, 1) := by decide +kernel
theorem dX12_nextDay_73 : decode cX12_nextDay 73 = .ok (.aload_n 0, 1) := by decide +kernel
theorem dX12_nextDay_74 : decode cX12_nextDay 74 = .ok (.getfield 37, 3) := by decide +kernel
theorem dX12_nextDay_77 : decode cX12_nextDay 77 = .ok (.iload_n 1, 1) := by decide +kernel
theorem dX12_nextDay_78 : decode cX12_nextDay 78 = .ok (.iaload, 1) := by decide +kernel
theorem dX12_nextDay_79 : decode cX12_nextDay 79 = .ok (.aload_n 0, 1) := by decide +kernel
theorem dX12_nextDay_80 : decode cX12_nextDay 80 = .ok (.getfield 49, 3) := by decide +kernel
theorem dX12_nextDay_83 : decode cX12_nextDay 83 = .ok (.iload_n 2, 1) := by decide +kernel
theorem dX12_nextDay_84 : decode cX12_nextDay 84 = .ok (.iconst 1, 1) := by decide +kernel
theorem dX12_nextDay_85 : decode cX12_nextDay 85 = .ok (.iadd, 1) := by decide +kernel
theorem dX12_nextDay_86 : decode cX12_nextDay 86 = .ok (.iaload, 1) := by decide +kernel
theorem dX12_nextDay_87 : decode cX12_nextDay 87 = .ok (.aload_n 0, 1) := by decide +kernel
theorem dX12_nextDay_88 : decode cX12_nextDay 88 = .ok (.getfield 49, 3) := by decide +kernel
theorem dX12_nextDay_91 : decode cX12_nextDay 91 = .ok (.iload_n 2, 1) := by decide +kernel
theorem dX12_nextDay_92 : decode cX12_nextDay 92 = .ok (.iconst 2, 1) := by decide +kernel
theorem dX12_nextDay_93 : decode cX12_nextDay 93 = .ok (.iadd, 1) := by decide +kernel
theorem dX12_nextDay_94 : decode cX12_nextDay 94 = .ok (.iaload, 1) := by decide +kernel
theorem dX12_nextDay_95 : decode cX12_nextDay 95 = .ok (.invokestatic 370, 3) := by decide +kernel
theorem dX12_nextDay_98 : decode cX12_nextDay 98 = .ok (.if_icmp .ge 16, 3) := by decide +kernel
theorem dX12_nextDay_101 : decode cX12_nextDay 101 = .ok (.aload_n 0, 1) := by decide +kernel
theorem dX12_nextDay_102 : decode cX12_nextDay 102 = .ok (.getfield 49, 3) := by decide +kernel
theorem dX12_nextDay_105 : decode cX12_nextDay 105 = .ok (.iload_n 2, 1) := by decide +kernel
theorem dX12_nextDay_106 : decode cX12_nextDay 106 = .ok (.dup2, 1) := by decide +kernel
theorem dX12_nextDay_107 : decode cX12_nextDay 107 = .ok (.iaload, 1) := by decide +kernel
theorem dX12_nextDay_108 : decode cX12_nextDay 108 = .ok (.iconst 1, 1) := by decide +kernel
theorem dX12_nextDay_109 : decode cX12_nextDay 109 = .ok (.iadd, 1) := by decide +kernel
theorem dX12_nextDay_110 : decode cX12_nextDay 110 = .ok (.iastore, 1) := by decide +kernel
theorem dX12_nextDay_111 : decode cX12_nextDay 111 = .ok (.goto 65, 3) := by decide +kernel
theorem dX12_nextDay_114 : decode cX12_nextDay 114 = .ok (.aload_n 0, 1) := by decide +kernel
theorem dX12_nextDay_115 : decode cX12_nextDay 115 = .ok (.getfield 49, 3) := by decide +kernel
theorem dX12_nextDay_118 : decode cX12_nextDay 118 = .ok (.iload_n 2, 1) := by decide +kernel
theorem dX12_nextDay_119 : decode cX12_nextDay 119 = .ok (.iconst 1, 1) := by decide +kernel
theorem dX12_nextDay_120 : decode cX12_nextDay 120 = .ok (.iastore, 1) := by decide +kernel
theorem dX12_nextDay_121 : decode cX12_nextDay 121 = .ok (.aload_n 0, 1) := by decide +kernel
theorem dX12_nextDay_122 : decode cX12_nextDay 122 = .ok (.getfield 49, 3) := by decide +kernel
theorem dX12_nextDay_125 : decode cX12_nextDay 125 = .ok (.iload_n 2, 1) := by decide +kernel
theorem dX12_nextDay_126 : decode cX12_nextDay 126 = .ok (.iconst 1, 1) := by decide +kernel
theorem dX12_nextDay_127 : decode cX12_nextDay 127 = .ok (.iadd, 1) := by decide +kernel
theorem dX12_nextDay_128 : decode cX12_nextDay 128 = .ok (.aload_n 0, 1) := by decide +kernel
theorem dX12_nextDay_129 : decode cX12_nextDay 129 = .ok (.getfield 49, 3) := by decide +kernel
theorem dX12_nextDay_132 : decode cX12_nextDay 132 = .ok (.iload_n 2, 1) := by decide +kernel
theorem dX12_nextDay_133 : decode cX12_nextDay 133 = .ok (.iconst 1, 1) := by decide +kernel
theorem dX12_nextDay_134 : decode cX12_nextDay 134 = .ok (.iadd, 1) := by decide +kernel
theorem dX12_nextDay_135 : decode cX12_nextDay 135 = .ok (.iaload, 1) := by decide +kernel
theorem dX12_nextDay_136 : decode cX12_nextDay 136 = .ok (.bipush 12, 2) := by decide +kernel
theorem dX12_nextDay_138 : decode cX12_nextDay 138 = .ok (.irem, 1) := by decide +kernel
theorem dX12_nextDay_139 : decode cX12_nextDay 139 = .ok (.iconst 1, 1) := by decide +kernel
theorem dX12_nextDay_140 : decode cX12_nextDay 140 = .ok (.iadd, 1) := by decide +kernel
theorem dX12_nextDay_141 : decode cX12_nextDay 141 = .ok (.iastore, 1) := by decide +kernel
theorem dX12_nextDay_142 : decode cX12_nextDay 142 = .ok (.aload_n 0, 1) := by decide +kernel
theorem dX12_nextDay_143 : decode cX12_nextDay 143 = .ok (.getfield 49, 3) := by decide +kernel
theorem dX12_nextDay_146 : decode cX12_nextDay 146 = .ok (.iload_n 2, 1) := by decide +kernel
theorem dX12_nextDay_147 : decode cX12_nextDay 147 = .ok (.iconst 1, 1) := by decide +kernel
theorem dX12_nextDay_148 : decode cX12_nextDay 148 = .ok (.iadd, 1) := by decide +kernel
theorem dX12_nextDay_149 : decode cX12_nextDay 149 = .ok (.iaload, 1) := by decide +kernel
theorem dX12_nextDay_150 : decode cX12_nextDay 150 = .ok (.iconst 1, 1) := by decide +kernel
theorem dX12_nextDay_151 : decode cX12_nextDay 151 = .ok (.if_icmp .ne 25, 3) := by decide +kernel
theorem dX12_nextDay_154 : decode cX12_nextDay 154 = .ok (.aload_n 0, 1) := by decide +kernel
theorem dX12_nextDay_155 : decode cX12_nextDay 155 = .ok (.getfield 49, 3) := by decide +kernel
theorem dX12_nextDay_158 : decode cX12_nextDay 158 = .ok (.iload_n 2, 1) := by decide +kernel
theorem dX12_nextDay_159 : decode cX12_nextDay 159 = .ok (.iconst 2, 1) := by decide +kernel
theorem dX12_nextDay_160 : decode cX12_nextDay 160 = .ok (.iadd, 1) := by decide +kernel
theorem dX12_nextDay_161 : decode cX12_nextDay 161 = .ok (.aload_n 0, 1) := by decide +kernel
theorem dX12_nextDay_162 : decode cX12_nextDay 162 = .ok (.getfield 49, 3) := by decide +kernel
theorem dX12_nextDay_165 : decode cX12_nextDay 165 = .ok (.iload_n 2, 1) := by decide +kernel
theorem dX12_nextDay_166 : decode cX12_nextDay 166 = .ok (.iconst 2, 1) := by decide +kernel
theorem dX12_nextDay_167 : decode cX12_nextDay 167 = .ok (.iadd, 1) := by decide +kernel
theorem dX12_nextDay_168 : decode cX12_nextDay 168 = .ok (.iaload, 1) := by decide +kernel
theorem dX12_nextDay_169 : decode cX12_nextDay 169 = .ok (.sipush 9999, 3) := by decide +kernel
theorem dX12_nextDay_172 : decode cX12_nextDay 172 = .ok (.irem, 1) := by decide +kernel
theorem dX12_nextDay_173 : decode cX12_nextDay 173 = .ok (.iconst 1, 1) := by decide +kernel
theorem dX12_nextDay_174 : decode cX12_nextDay 174 = .ok (.iadd, 1) := by decide +kernel
theorem dX12_nextDay_175 : decode cX12_nextDay 175 = .ok (.iastore, 1) := by decide +kernel
theorem dX12_nextDay_176 : decode cX12_nextDay 176 = .ok (.aload_n 0, 1) := by decide +kernel
theorem dX12_nextDay_177 : decode cX12_nextDay 177 = .ok (.aload_n 0, 1) := by decide +kernel
theorem dX12_nextDay_178 : decode cX12_nextDay 178 = .ok (.getfield 49, 3) := by decide +kernel
theorem dX12_nextDay_181 : decode cX12_nextDay 181 = .ok (.iload_n 2, 1) := by decide +kernel
theorem dX12_nextDay_182 : decode cX12_nextDay 182 = .ok (.iconst 4, 1) := by decide +kernel
theorem dX12_nextDay_183 : decode cX12_nextDay 183 = .ok (.iadd, 1) := by decide +kernel
theorem dX12_nextDay_184 : decode cX12_nextDay 184 = .ok (.iaload, 1) := by decide +kernel
theorem dX12_nextDay_185 : decode cX12_nextDay 185 = .ok (.invokevirtual 217, 3) := by decide +kernel
theorem dX12_nextDay_188 : decode cX12_nextDay 188 = .ok (.aload_n 0, 1) := by decide +kernel
theorem dX12_nextDay_189 : decode cX12_nextDay 189 = .ok (.getfield 220, 3) := by decide +kernel
theorem dX12_nextDay_192 : decode cX12_nextDay 192 = .ok (.aload_n 0, 1) := by decide +kernel
theorem dX12_nextDay_193 : decode cX12_nextDay 193 = .ok (.getfield 49, 3) := by decide +kernel
theorem dX12_nextDay_196 : decode cX12_nextDay 196 = .ok (.iload_n 2, 1) := by decide +kernel
theorem dX12_nextDay_197 : decode cX12_nextDay 197 = .ok (.iaload, 1) := by decide +kernel
theorem dX12_nextDay_198 : decode cX12_nextDay 198 = .ok (.if_icmp .ne 18, 3) := by decide +kernel
theorem dX12_nextDay_201 : decode cX12_nextDay 201 = .ok (.aload_n 0, 1) := by decide +kernel
theorem dX12_nextDay_202 : decode cX12_nextDay 202 = .ok (.getfield 223, 3) := by decide +kernel
theorem dX12_nextDay_205 : decode cX12_nextDay 205 = .ok (.aload_n 0, 1) := by decide +kernel
theorem dX12_nextDay_206 : decode cX12_nextDay 206 = .ok (.getfield 49, 3) := by decide +kernel
theorem dX12_nextDay_209 : decode cX12_nextDay 209 = .ok (.iload_n 2, 1) := by decide +kernel
theorem dX12_nextDay_210 : decode cX12_nextDay 210 = .ok (.iconst 1, 1) := by decide +kernel
theorem dX12_nextDay_211 : decode cX12_nextDay 211 = .ok (.iadd, 1) := by decide +kernel
theorem dX12_nextDay_212 : decode cX12_nextDay 212 = .ok (.iaload, 1) := by decide +kernel
theorem dX12_nextDay_213 : decode cX12_nextDay 213 = .ok (.if_icmp .eq 58, 3) := by decide +kernel
theorem dX12_nextDay_216 : decode cX12_nextDay 216 = .ok (.aload_n 0, 1) := by decide +kernel
theorem dX12_nextDay_217 : decode cX12_nextDay 217 = .ok (.getfield 49, 3) := by decide +kernel
theorem dX12_nextDay_220 : decode cX12_nextDay 220 = .ok (.iload_n 2, 1) := by decide +kernel
theorem dX12_nextDay_221 : decode cX12_nextDay 221 = .ok (.iconst 5, 1) := by decide +kernel
theorem dX12_nextDay_222 : decode cX12_nextDay 222 = .ok (.iadd, 1) := by decide +kernel
theorem dX12_nextDay_223 : decode cX12_nextDay 223 = .ok (.dup2, 1) := by decide +kernel
theorem dX12_nextDay_224 : decode cX12_nextDay 224 = .ok (.iaload, 1) := by decide +kernel
theorem dX12_nextDay_225 : decode cX12_nextDay 225 = .ok (.iconst 1, 1) := by decide +kernel
theorem dX12_nextDay_226 : decode cX12_nextDay 226 = .ok (.iadd, 1) := by decide +kernel
theorem dX12_nextDay_227 : decode cX12_nextDay 227 = .ok (.iastore, 1) := by decide +kernel
theorem dX12_nextDay_228 : decode cX12_nextDay 228 = .ok (.aload_n 0, 1) := by decide +kernel
theorem dX12_nextDay_229 : decode cX12_nextDay 229 = .ok (.getfield 74, 3) := by decide +kernel
theorem dX12_nextDay_232 : decode cX12_nextDay 232 = .ok (.iconst 2, 1) := by decide +kernel
theorem dX12_nextDay_233 : decode cX12_nextDay 233 = .ok (.dup2, 1) := by decide +kernel
theorem dX12_nextDay_234 : decode cX12_nextDay 234 = .ok (.iaload, 1) := by decide +kernel
theorem dX12_nextDay_235 : decode cX12_nextDay 235 = .ok (.aload_n 0, 1) := by decide +kernel
theorem dX12_nextDay_236 : decode cX12_nextDay 236 = .ok (.getfield 37, 3) := by decide +kernel
theorem dX12_nextDay_239 : decode cX12_nextDay 239 = .ok (.iload_n 1, 1) := by decide +kernel
theorem dX12_nextDay_240 : decode cX12_nextDay 240 = .ok (.iaload, 1) := by decide +kernel
theorem dX12_nextDay_241 : decode cX12_nextDay 241 = .ok (.iconst 3, 1) := by decide +kernel
theorem dX12_nextDay_242 : decode cX12_nextDay 242 = .ok (.if_icmp .ne 26, 3) := by decide +kernel
theorem dX12_nextDay_245 : decode cX12_nextDay 245 = .ok (.aload_n 0, 1) := by decide +kernel
theorem dX12_nextDay_246 : decode cX12_nextDay 246 = .ok (.getfield 49, 3) := by decide +kernel
theorem dX12_nextDay_249 : decode cX12_nextDay 249 = .ok (.iload_n 2, 1) := by decide +kernel
theorem dX12_nextDay_250 : decode cX12_nextDay 250 = .ok (.bipush 7, 2) := by decide +kernel
theorem dX12_nextDay_252 : decode cX12_nextDay 252 = .ok (.iadd, 1) := by decide +kernel
theorem dX12_nextDay_253 : decode cX12_nextDay 253 = .ok (.iaload, 1) := by decide +kernel
theorem dX12_nextDay_254 : decode cX12_nextDay 254 = .ok (.ifCond .ne 14, 3) := by decide +kernel
theorem dX12_nextDay_257 : decode cX12_nextDay 257 = .ok (.aload_n 0, 1) := by decide +kernel
theorem dX12_nextDay_258 : decode cX12_nextDay 258 = .ok (.getfield 373, 3) := by decide +kernel
theorem dX12_nextDay_261 : decode cX12_nextDay 261 = .ok (.ifCond .ne 7, 3) := by decide +kernel
theorem dX12_nextDay_264 : decode cX12_nextDay 264 = .ok (.iconst 1, 1) := by decide +kernel
theorem dX12_nextDay_265 : decode cX12_nextDay 265 = .ok (.goto 4, 3) := by decide +kernel
theorem dX12_nextDay_268 : decode cX12_nextDay 268 = .ok (.iconst 0, 1) := by decide +kernel
theorem dX12_nextDay_269 : decode cX12_nextDay 269 = .ok (.iadd, 1) := by decide +kernel
theorem dX12_nextDay_270 : decode cX12_nextDay 270 = .ok (.iastore, 1) := by decide +kernel
theorem dX12_nextDay_271 : decode cX12_nextDay 271 = .ok (.return_, 1) := by decide +kernel
def f_Md_nextDay_L216 (l1 : Int32) (l2 : Int32) (I : (Nat → Nat → Int32)) (L : (Nat → Nat → Int64)) : Option ((Nat → Nat → Int32) × (Nat → Nat → Int64)) := (if (0 ≤ (l2 + (5 : Int32)) ∧ (l2 + (5 : Int32)) < (80 : Int32)) then (bnd ((I 48 ((l2 + (5 : Int32)).toNatClampNeg)) + (1 : Int32)) fun x38 => (if (0 ≤ (l2 + (5 : Int32)) ∧ (l2 + (5 : Int32)) < (80 : Int32)) then (if (0 ≤ l1 ∧ l1 < (8 : Int32)) then (if (I 44 (l1.toNatClampNeg)) = (3 : Int32) then (if (0 ≤ (l2 + (7 : Int32)) ∧ (l2 + (7 : Int32)) < (80 : Int32)) then (bnd ((uI I 48 ((l2 + (5 : Int32)).toNatClampNeg) x38) 48 ((l2 + (7 : Int32)).toNatClampNeg)) fun x43 => (if x43 = (0 : Int32) then (if (I 34 43) = (0 : Int32) then (bnd ((I 56 2) + (1 : Int32)) fun x46 => (some ((uI (uI I 48 ((l2 + (5 : Int32)).toNatClampNeg) x38) 56 2 x46), L))) else (bnd ((I 56 2) + (0 : Int32)) fun x47 => (some ((uI (uI I 48 ((l2 + (5 : Int32)).toNatClampNeg) x38) 56 2 x47), L)))) else (bnd ((I 56 2) + (0 : Int32)) fun x48 => (some ((uI (uI I 48 ((l2 + (5 : Int32)).toNatClampNeg) x38) 56 2 x48), L))))) else none) else (bnd ((I 56 2) + (0 : Int32)) fun x49 => (some ((uI (uI I 48 ((l2 + (5 : Int32)).toNatClampNeg) x38) 56 2 x49), L)))) else none) else none)) else none)
set_option maxRecDepth 100000 in
set_option maxHeartbeats 4000000 in
theorem x_Md_nextDay_L216 {G : xG} {S : List xSh} {Rf : Nat → Nat → Option Nat} (hT : xTM S Rf) {l1 : Int32} {l2 : Int32} {I : Nat → Nat → Int32} {L : Nat → Nat → Int64} {q : ((Nat → Nat → Int32) × (Nat → Nat → Int64))} (hf : f_Md_nextDay_L216 l1 l2 I L = some q) : X G 4 m_Md_nextDay 216 [(0, .ref (xP G 34)), (1, .int l1), (2, .int l2)] [] (S, I, L, Rf) (none, (S, q.1, q.2, Rf)) := by
  replace hf := (f_Md_nextDay_L216.eq_1 _ _ _ _).symm.trans hf
  refine X_aload_n (pc := 216) (i := 0) 0 dX12_nextDay_216 rfl rfl ?_
  refine X_getr (pc := 217) (a := 34) (ci := 11) (j := 33) (c := 48) (sh_34 hT) (by decide) k_1261 (rf_34_33 hT) (fun _ h => h) dX12_nextDay_217 ?_
  refine X_iload_n (pc := 220) (i := 2) 2 dX12_nextDay_220 rfl rfl ?_
  refine X_iconst (pc := 221) (5 : Int32) dX12_nextDay_221 (by decide) ?_
  refine X_iadd (pc := 222) dX12_nextDay_222 ?_
  refine X_dup2 (pc := 223) dX12_nextDay_223 rfl rfl ?_
  obtain ⟨c37, hf⟩ := gd_some hf
  refine X_ialdj (pc := 224) (j := (l2 + (5 : Int32)).toNatClampNeg) (I 48 ((l2 + (5 : Int32)).toNatClampNeg)) (sh_48 hT) (vp_in_lit (N := 80) c37 (by decide)) rfl rfl dX12_nextDay_224 ?_
  refine X_iconst (pc := 225) (1 : Int32) dX12_nextDay_225 (by decide) ?_
  refine X_iadd (pc := 226) dX12_nextDay_226 ?_
  obtain ⟨x38, ex38, hf⟩ := bnd_e hf
  refine X_tope ex38 ?_
  obtain ⟨c39, hf⟩ := gd_some hf
  refine X_iastj (pc := 227) (j := ((l2 + (5 : Int32)).toNatClampNeg)) (sh_48 hT) (vp_in_lit (N := 80) c39 (by decide)) rfl dX12_nextDay_227 ?_
  refine X_aload_n (pc := 228) (i := 0) 0 dX12_nextDay_228 rfl rfl ?_
  refine X_getr (pc := 229) (a := 34) (ci := 11) (j := 44) (c := 56) (sh_34 hT) (by decide) k_1272 (rf_34_44 hT) (fun _ h => h) dX12_nextDay_229 ?_
  refine X_iconst (pc := 232) (2 : Int32) dX12_nextDay_232 (by decide) ?_
  refine X_dup2 (pc := 233) dX12_nextDay_233 rfl rfl ?_
  refine X_ialdj (pc := 234) (j := 2) (I 56 2) (sh_56 hT) (vp_in_lit (N := 5) (by decide) (by decide)) (by decide) rfl dX12_nextDay_234 ?_
  refine X_aload_n (pc := 235) (i := 0) 0 dX12_nextDay_235 rfl rfl ?_
  refine X_getr (pc := 236) (a := 34) (ci := 11) (j := 19) (c := 44) (sh_34 hT) (by decide) k_1247 (rf_34_19 hT) (fun _ h => h) dX12_nextDay_236 ?_
  refine X_iload_n (pc := 239) (i := 1) 1 dX12_nextDay_239 rfl rfl ?_
  obtain ⟨c40, hf⟩ := gd_some hf
  refine X_ialdj (pc := 240) (j := l1.toNatClampNeg) (I 44 (l1.toNatClampNeg)) (sh_44 hT) (vp_in_lit (N := 8) c40 (by decide)) rfl rfl dX12_nextDay_240 ?_
  refine X_iconst (pc := 241) (3 : Int32) dX12_nextDay_241 (by decide) ?_
  by_cases c41 : (I 44 (l1.toNatClampNeg)) = (3 : Int32)
  · replace hf := (if_pos c41).symm.trans hf
    refine X_icmp_ne_f (pc := 242) 268 dX12_nextDay_242 (by decide) c41 ?_
    refine X_aload_n (pc := 245) (i := 0) 0 dX12_nextDay_245 rfl rfl ?_
    refine X_getr (pc := 246) (a := 34) (ci := 11) (j := 33) (c := 48) (sh_34 hT) (by decide) k_1261 (rf_34_33 hT) (fun _ h => h) dX12_nextDay_246 ?_
    refine X_iload_n (pc := 249) (i := 2) 2 dX12_nextDay_249 rfl rfl ?_
    refine X_bipush (pc := 250) (7 : Int32) dX12_nextDay_250 (by decide) ?_
    refine X_iadd (pc := 252) dX12_nextDay_252 ?_
    obtain ⟨c42, hf⟩ := gd_some hf
    refine X_ialdj (pc := 253) (j := (l2 + (7 : Int32)).toNatClampNeg) ((uI I 48 ((l2 + (5 : Int32)).toNatClampNeg) x38) 48 ((l2 + (7 : Int32)).toNatClampNeg)) (sh_48 hT) (vp_in_lit (N := 80) c42 (by decide)) rfl rfl dX12_nextDay_253 ?_
    obtain ⟨x43, ex43, hf⟩ := bnd_e hf
    refine X_tope ex43 ?_
    by_cases c44 : x43 = (0 : Int32)
    · replace hf := (if_pos c44).symm.trans hf
      refine X_if_ne_f (pc := 254) 268 dX12_nextDay_254 (by decide) c44 ?_
      refine X_aload_n (pc := 257) (i := 0) 0 dX12_nextDay_257 rfl rfl ?_
      refine X_get (pc := 258) (a := 34) (ci := 11) (j := 43) (.int (I 34 43)) (sh_34 hT) (by decide) k_1271 rfl dX12_nextDay_258 ?_
      by_cases c45 : (I 34 43) = (0 : Int32)
      · replace hf := (if_pos c45).symm.trans hf
        refine X_if_ne_f (pc := 261) 268 dX12_nextDay_261 (by decide) c45 ?_
        refine X_iconst (pc := 264) (1 : Int32) dX12_nextDay_264 (by decide) ?_
        refine X_goto (pc := 265) 269 dX12_nextDay_265 (by decide) ?_
        refine X_iadd (pc := 269) dX12_nextDay_269 ?_
        obtain ⟨x46, ex46, hf⟩ := bnd_e hf
        refine X_tope ex46 ?_
        refine X_iastj (pc := 270) (j := 2) (sh_56 hT) (vp_in_lit (N := 5) (by decide) (by decide)) (by decide) dX12_nextDay_270 ?_
        cases hf
        exact X_return (pc := 271) rfl dX12_nextDay_271
      · replace hf := (if_neg c45).symm.trans hf
        refine X_if_ne_t (pc := 261) 268 dX12_nextDay_261 (by decide) c45 ?_
        refine X_iconst (pc := 268) (0 : Int32) dX12_nextDay_268 (by decide) ?_
        refine X_iadd (pc := 269) dX12_nextDay_269 ?_
        obtain ⟨x47, ex47, hf⟩ := bnd_e hf
        refine X_tope ex47 ?_
        refine X_iastj (pc := 270) (j := 2) (sh_56 hT) (vp_in_lit (N := 5) (by decide) (by decide)) (by decide) dX12_nextDay_270 ?_
        cases hf
        exact X_return (pc := 271) rfl dX12_nextDay_271
    · replace hf := (if_neg c44).symm.trans hf
      refine X_if_ne_t (pc := 254) 268 dX12_nextDay_254 (by decide) c44 ?_
      refine X_iconst (pc := 268) (0 : Int32) dX12_nextDay_268 (by decide) ?_
      refine X_iadd (pc := 269) dX12_nextDay_269 ?_
      obtain ⟨x48, ex48, hf⟩ := bnd_e hf
      refine X_tope ex48 ?_
      refine X_iastj (pc := 270) (j := 2) (sh_56 hT) (vp_in_lit (N := 5) (by decide) (by decide)) (by decide) dX12_nextDay_270 ?_
      cases hf
      exact X_return (pc := 271) rfl dX12_nextDay_271
  · replace hf := (if_neg c41).symm.trans hf
    refine X_icmp_ne_t (pc := 242) 268 dX12_nextDay_242 (by decide) c41 ?_
    refine X_iconst (pc := 268) (0 : Int32) dX12_nextDay_268 (by decide) ?_
    refine X_iadd (pc := 269) dX12_nextDay_269 ?_
    obtain ⟨x49, ex49, hf⟩ := bnd_e hf
    refine X_tope ex49 ?_
    refine X_iastj (pc := 270) (j := 2) (sh_56 hT) (vp_in_lit (N := 5) (by decide) (by decide)) (by decide) dX12_nextDay_270 ?_
    cases hf
    exact X_return (pc := 271) rfl dX12_nextDay_271
theorem u_Md_nextDay_L216 {S : List xSh} {l1 : Int32} {l2 : Int32} {I : Nat → Nat → Int32} {L : Nat → Nat → Int64} {q : ((Nat → Nat → Int32) × (Nat → Nat → Int64))} (hf : f_Md_nextDay_L216 l1 l2 I L = some q) : FR S [48, 56, 4445, 4446, 4447] [] I q.1 L q.2 := by
  replace hf := (f_Md_nextDay_L216.eq_1 _ _ _ _).symm.trans hf
  obtain ⟨c37, hf⟩ := gd_some hf
  obtain ⟨x38, ex38, hf⟩ := bnd_e hf
  obtain ⟨c39, hf⟩ := gd_some hf
  obtain ⟨c40, hf⟩ := gd_some hf
  by_cases c41 : (I 44 (l1.toNatClampNeg)) = (3 : Int32)
  · replace hf := (if_pos c41).symm.trans hf
    obtain ⟨c42, hf⟩ := gd_some hf
    obtain ⟨x43, ex43, hf⟩ := bnd_e hf
    by_cases c44 : x43 = (0 : Int32)
    · replace hf := (if_pos c44).symm.trans hf
      by_cases c45 : (I 34 43) = (0 : Int32)
      · replace hf := (if_pos c45).symm.trans hf
        obtain ⟨x46, ex46, hf⟩ := bnd_e hf
        cases hf
        exact (FR.ai (FR.ai FR.rf (by decide)) (by decide))
      · replace hf := (if_neg c45).symm.trans hf
        obtain ⟨x47, ex47, hf⟩ := bnd_e hf
        cases hf
        exact (FR.ai (FR.ai FR.rf (by decide)) (by decide))
    · replace hf := (if_neg c44).symm.trans hf
      obtain ⟨x48, ex48, hf⟩ := bnd_e hf
      cases hf
      exact (FR.ai (FR.ai FR.rf (by decide)) (by decide))
  · replace hf := (if_neg c41).symm.trans hf
    obtain ⟨x49, ex49, hf⟩ := bnd_e hf
    cases hf
    exact (FR.ai (FR.ai FR.rf (by decide)) (by decide))
def f_Md_nextDay_L176 (l1 : Int32) (l2 : Int32) (I : (Nat → Nat → Int32)) (L : (Nat → Nat → Int64)) : Option ((Nat → Nat → Int32) × (Nat → Nat → Int64)) := (if (0 ≤ (l2 + (4 : Int32)) ∧ (l2 + (4 : Int32)) < (80 : Int32)) then ((f_Md_splitDay (I 48 ((l2 + (4 : Int32)).toNatClampNeg)) I L).bind fun q31 => (if (0 ≤ l2 ∧ l2 < (80 : Int32)) then (if (q31.1 34 45) = (q31.1 48 (l2.toNatClampNeg)) then (if (0 ≤ (l2 + (1 : Int32)) ∧ (l2 + (1 : Int32)) < (80 : Int32)) then (if (q31.1 34 46) = (q31.1 48 ((l2 + (1 : Int32)).toNatClampNeg)) then (some (q31.1, q31.2)) else (f_Md_nextDay_L216 l1 l2 q31.1 q31.2)) else none) else (f_Md_nextDay_L216 l1 l2 q31.1 q31.2)) else none)) else none)
set_option maxRecDepth 100000 in
set_option maxHeartbeats 4000000 in
theorem x_Md_nextDay_L176 {G : xG} {S : List xSh} {Rf : Nat → Nat → Option Nat} (hT : xTM S Rf) {l1 : Int32} {l2 : Int32} {I : Nat → Nat → Int32} {L : Nat → Nat → Int64} {q : ((Nat → Nat → Int32) × (Nat → Nat → Int64))} (hf : f_Md_nextDay_L176 l1 l2 I L = some q) : X G 4 m_Md_nextDay 176 [(0, .ref (xP G 34)), (1, .int l1), (2, .int l2)] [] (S, I, L, Rf) (none, (S, q.1, q.2, Rf)) := by
  replace hf := (f_Md_nextDay_L176.eq_1 _ _ _ _).symm.trans hf
  refine X_aload_n (pc := 176) (i := 0) 0 dX12_nextDay_176 rfl rfl ?_
  refine X_aload_n (pc := 177) (i := 0) 0 dX12_nextDay_177 rfl rfl ?_
  refine X_getr (pc := 178) (a := 34) (ci := 11) (j := 33) (c := 48) (sh_34 hT) (by decide) k_1261 (rf_34_33 hT) (fun _ h => h) dX12_nextDay_178 ?_
  refine X_iload_n (pc := 181) (i := 2) 2 dX12_nextDay_181 rfl rfl ?_
  refine X_iconst (pc := 182) (4 : Int32) dX12_nextDay_182 (by decide) ?_
  refine X_iadd (pc := 183) dX12_nextDay_183 ?_
  obtain ⟨c30, hf⟩ := gd_some hf
  refine X_ialdj (pc := 184) (j := (l2 + (4 : Int32)).toNatClampNeg) (I 48 ((l2 + (4 : Int32)).toNatClampNeg)) (sh_48 hT) (vp_in_lit (N := 80) c30 (by decide)) rfl rfl dX12_nextDay_184 ?_
  obtain ⟨q31, c32, hf⟩ := bd_some hf
  refine X_invV_v (pc := 185) (c_Md_splitDay hT c32) ok_Md_splitDay (ci := 11) (sh_34 hT) k_1215 k_1217 k_42 nd_13 (by decide) rfl (Nat.le_of_ble_eq_true rfl) dX12_nextDay_185 ?_
  refine X_aload_n (pc := 188) (i := 0) 0 dX12_nextDay_188 rfl rfl ?_
  refine X_get (pc := 189) (a := 34) (ci := 11) (j := 45) (.int (q31.1 34 45)) (sh_34 hT) (by decide) k_1273 rfl dX12_nextDay_189 ?_
  refine X_aload_n (pc := 192) (i := 0) 0 dX12_nextDay_192 rfl rfl ?_
  refine X_getr (pc := 193) (a := 34) (ci := 11) (j := 33) (c := 48) (sh_34 hT) (by decide) k_1261 (rf_34_33 hT) (fun _ h => h) dX12_nextDay_193 ?_
  refine X_iload_n (pc := 196) (i := 2) 2 dX12_nextDay_196 rfl rfl ?_
  obtain ⟨c33, hf⟩ := gd_some hf
  refine X_ialdj (pc := 197) (j := l2.toNatClampNeg) (q31.1 48 (l2.toNatClampNeg)) (sh_48 hT) (vp_in_lit (N := 80) c33 (by decide)) rfl rfl dX12_nextDay_197 ?_
  by_cases c34 : (q31.1 34 45) = (q31.1 48 (l2.toNatClampNeg))
  · replace hf := (if_pos c34).symm.trans hf
    refine X_icmp_ne_f (pc := 198) 216 dX12_nextDay_198 (by decide) c34 ?_
    refine X_aload_n (pc := 201) (i := 0) 0 dX12_nextDay_201 rfl rfl ?_
    refine X_get (pc := 202) (a := 34) (ci := 11) (j := 46) (.int (q31.1 34 46)) (sh_34 hT) (by decide) k_1274 rfl dX12_nextDay_202 ?_
    refine X_aload_n (pc := 205) (i := 0) 0 dX12_nextDay_205 rfl rfl ?_
    refine X_getr (pc := 206) (a := 34) (ci := 11) (j := 33) (c := 48) (sh_34 hT) (by decide) k_1261 (rf_34_33 hT) (fun _ h => h) dX12_nextDay_206 ?_
    refine X_iload_n (pc := 209) (i := 2) 2 dX12_nextDay_209 rfl rfl ?_
    refine X_iconst (pc := 210) (1 : Int32) dX12_nextDay_210 (by decide) ?_
    refine X_iadd (pc := 211) dX12_nextDay_211 ?_
    obtain ⟨c35, hf⟩ := gd_some hf
    refine X_ialdj (pc := 212) (j := (l2 + (1 : Int32)).toNatClampNeg) (q31.1 48 ((l2 + (1 : Int32)).toNatClampNeg)) (sh_48 hT) (vp_in_lit (N := 80) c35 (by decide)) rfl rfl dX12_nextDay_212 ?_
    by_cases c36 : (q31.1 34 46) = (q31.1 48 ((l2 + (1 : Int32)).toNatClampNeg))
    · replace hf := (if_pos c36).symm.trans hf
      refine X_icmp_eq_t (pc := 213) 271 dX12_nextDay_213 (by decide) c36 ?_
      cases hf
      exact X_return (pc := 271) rfl dX12_nextDay_271
    · replace hf := (if_neg c36).symm.trans hf
      refine X_icmp_eq_f (pc := 213) 271 dX12_nextDay_213 (by decide) c36 ?_
      exact X_lvs [0, 1, 2] rfl (x_Md_nextDay_L216 hT hf)
  · replace hf := (if_neg c34).symm.trans hf
    refine X_icmp_ne_t (pc := 198) 216 dX12_nextDay_198 (by decide) c34 ?_
    exact X_lvs [0, 1, 2] rfl (x_Md_nextDay_L216 hT hf)
theorem u_Md_nextDay_L176 {S : List xSh} {l1 : Int32} {l2 : Int32} {I : Nat → Nat → Int32} {L : Nat → Nat → Int64} {q : ((Nat → Nat → Int32) × (Nat → Nat → Int64))} (hf : f_Md_nextDay_L176 l1 l2 I L = some q) : FR S [48, 56, 4445, 4446, 4447] [] I q.1 L q.2 := by
  replace hf := (f_Md_nextDay_L176.eq_1 _ _ _ _).symm.trans hf
  obtain ⟨c30, hf⟩ := gd_some hf
  obtain ⟨q31, c32, hf⟩ := bd_some hf
  obtain ⟨c33, hf⟩ := gd_some hf
  by_cases c34 : (q31.1 34 45) = (q31.1 48 (l2.toNatClampNeg))
  · replace hf := (if_pos c34).symm.trans hf
    obtain ⟨c35, hf⟩ := gd_some hf
    by_cases c36 : (q31.1 34 46) = (q31.1 48 ((l2 + (1 : Int32)).toNatClampNeg))
    · replace hf := (if_pos c36).symm.trans hf
      cases hf
      exact (FR.tr FR.rf (u_Md_splitDay (q := q31) c32) (by decide) (by decide))
    · replace hf := (if_neg c36).symm.trans hf
      exact FR.tr (FR.tr FR.rf (u_Md_splitDay (q := q31) c32) (by decide) (by decide)) (u_Md_nextDay_L216 hf) (by decide) (by decide)
  · replace hf := (if_neg c34).symm.trans hf
    exact FR.tr (FR.tr FR.rf (u_Md_splitDay (q := q31) c32) (by decide) (by decide)) (u_Md_nextDay_L216 hf) (by decide) (by decide)
def f_Md_nextDay_L45 (l1 : Int32) (l2 : Int32) (s1 : Int32) (s2 : Int32) (I : (Nat → Nat → Int32)) (L : (Nat → Nat → Int64)) : Option ((Nat → Nat → Int32) × (Nat → Nat → Int64)) := (if (0 ≤ s1 ∧ s1 < (80 : Int32)) then (if (0 ≤ (l2 + (3 : Int32)) ∧ (l2 + (3 : Int32)) < (80 : Int32)) then (bnd ((uI I 48 (s1.toNatClampNeg) s2) 48 ((l2 + (3 : Int32)).toNatClampNeg)) fun x6 => (bnd (irem (x6 + (1 : Int32)) (7 : Int32)) fun x7 => (if (0 ≤ (l2 + (3 : Int32)) ∧ (l2 + (3 : Int32)) < (80 : Int32)) then (if (0 ≤ l2 ∧ l2 < (80 : Int32)) then (bnd ((uI (uI I 48 (s1.toNatClampNeg) s2) 48 ((l2 + (3 : Int32)).toNatClampNeg) x7) 48 (l2.toNatClampNeg)) fun x10 => (if (0 ≤ l1 ∧ l1 < (8 : Int32)) then (if (0 ≤ (l2 + (1 : Int32)) ∧ (l2 + (1 : Int32)) < (80 : Int32)) then (bnd ((uI (uI I 48 (s1.toNatClampNeg) s2) 48 ((l2 + (3 : Int32)).toNatClampNeg) x7) 48 ((l2 + (1 : Int32)).toNatClampNeg)) fun x13 => (if (0 ≤ (l2 + (2 : Int32)) ∧ (l2 + (2 : Int32)) < (80 : Int32)) then (bnd ((uI (uI I 48 (s1.toNatClampNeg) s2) 48 ((l2 + (3 : Int32)).toNatClampNeg) x7) 48 ((l2 + (2 : Int32)).toNatClampNeg)) fun x15 => (bnd (f_Md_length (I 44 (l1.toNatClampNeg)) x13 x15) fun x16 => (if x16 ≤ x10 then (if (0 ≤ l2 ∧ l2 < (80 : Int32)) then (if (0 ≤ (l2 + (1 : Int32)) ∧ (l2 + (1 : Int32)) < (80 : Int32)) then (bnd ((uI (uI (uI I 48 (s1.toNatClampNeg) s2) 48 ((l2 + (3 : Int32)).toNatClampNeg) x7) 48 (l2.toNatClampNeg) (1 : Int32)) 48 ((l2 + (1 : Int32)).toNatClampNeg)) fun x20 => (bnd ((irem x20 (12 : Int32)) + (1 : Int32)) fun x21 => (if (0 ≤ (l2 + (1 : Int32)) ∧ (l2 + (1 : Int32)) < (80 : Int32)) then (if (0 ≤ (l2 + (1 : Int32)) ∧ (l2 + (1 : Int32)) < (80 : Int32)) then (bnd ((uI (uI (uI (uI I 48 (s1.toNatClampNeg) s2) 48 ((l2 + (3 : Int32)).toNatClampNeg) x7) 48 (l2.toNatClampNeg) (1 : Int32)) 48 ((l2 + (1 : Int32)).toNatClampNeg) x21) 48 ((l2 + (1 : Int32)).toNatClampNeg)) fun x24 => (if x24 = (1 : Int32) then (if (0 ≤ (l2 + (2 : Int32)) ∧ (l2 + (2 : Int32)) < (80 : Int32)) then (bnd ((uI (uI (uI (uI I 48 (s1.toNatClampNeg) s2) 48 ((l2 + (3 : Int32)).toNatClampNeg) x7) 48 (l2.toNatClampNeg) (1 : Int32)) 48 ((l2 + (1 : Int32)).toNatClampNeg) x21) 48 ((l2 + (2 : Int32)).toNatClampNeg)) fun x27 => (bnd ((irem x27 (9999 : Int32)) + (1 : Int32)) fun x28 => (if (0 ≤ (l2 + (2 : Int32)) ∧ (l2 + (2 : Int32)) < (80 : Int32)) then (f_Md_nextDay_L176 l1 l2 (uI (uI (uI (uI (uI I 48 (s1.toNatClampNeg) s2) 48 ((l2 + (3 : Int32)).toNatClampNeg) x7) 48 (l2.toNatClampNeg) (1 : Int32)) 48 ((l2 + (1 : Int32)).toNatClampNeg) x21) 48 ((l2 + (2 : Int32)).toNatClampNeg) x28) L) else none))) else none) else (f_Md_nextDay_L176 l1 l2 (uI (uI (uI (uI I 48 (s1.toNatClampNeg) s2) 48 ((l2 + (3 : Int32)).toNatClampNeg) x7) 48 (l2.toNatClampNeg) (1 : Int32)) 48 ((l2 + (1 : Int32)).toNatClampNeg) x21) L))) else none) else none))) else none) else none) else (if (0 ≤ l2 ∧ l2 < (80 : Int32)) then (bnd ((uI (uI I 48 (s1.toNatClampNeg) s2) 48 ((l2 + (3 : Int32)).toNatClampNeg) x7) 48 (l2.toNatClampNeg)) fun x51 => (bnd (x51 + (1 : Int32)) fun x52 => (if (0 ≤ l2 ∧ l2 < (80 : Int32)) then (f_Md_nextDay_L176 l1 l2 (uI (uI (uI I 48 (s1.toNatClampNeg) s2) 48 ((l2 + (3 : Int32)).toNatClampNeg) x7) 48 (l2.toNatClampNeg) x52) L) else none))) else none)))) else none)) else none) else none)) else none) else none))) else none) else none)
set_option maxRecDepth 100000 in
set_option maxHeartbeats 4000000 in
theorem x_Md_nextDay_L45 {G : xG} {S : List xSh} {Rf : Nat → Nat → Option Nat} (hT : xTM S Rf) {l1 : Int32} {l2 : Int32} {s1 : Int32} {s2 : Int32} {I : Nat → Nat → Int32} {L : Nat → Nat → Int64} {q : ((Nat → Nat → Int32) × (Nat → Nat → Int64))} (hf : f_Md_nextDay_L45 l1 l2 s1 s2 I L = some q) : X G 4 m_Md_nextDay 45 [(0, .ref (xP G 34)), (1, .int l1), (2, .int l2)] [.int s2, .int s1, .ref (xP G 48)] (S, I, L, Rf) (none, (S, q.1, q.2, Rf)) := by
  replace hf := (f_Md_nextDay_L45.eq_1 _ _ _ _ _ _).symm.trans hf
  obtain ⟨c4, hf⟩ := gd_some hf
  refine X_iastj (pc := 45) (j := (s1.toNatClampNeg)) (sh_48 hT) (vp_in_lit (N := 80) c4 (by decide)) rfl dX12_nextDay_45 ?_
  refine X_aload_n (pc := 46) (i := 0) 0 dX12_nextDay_46 rfl rfl ?_
  refine X_getr (pc := 47) (a := 34) (ci := 11) (j := 33) (c := 48) (sh_34 hT) (by decide) k_1261 (rf_34_33 hT) (fun _ h => h) dX12_nextDay_47 ?_
  refine X_iload_n (pc := 50) (i := 2) 2 dX12_nextDay_50 rfl rfl ?_
  refine X_iconst (pc := 51) (3 : Int32) dX12_nextDay_51 (by decide) ?_
  refine X_iadd (pc := 52) dX12_nextDay_52 ?_
  refine X_aload_n (pc := 53) (i := 0) 0 dX12_nextDay_53 rfl rfl ?_
  refine X_getr (pc := 54) (a := 34) (ci := 11) (j := 33) (c := 48) (sh_34 hT) (by decide) k_1261 (rf_34_33 hT) (fun _ h => h) dX12_nextDay_54 ?_
  refine X_iload_n (pc := 57) (i := 2) 2 dX12_nextDay_57 rfl rfl ?_
  refine X_iconst (pc := 58) (3 : Int32) dX12_nextDay_58 (by decide) ?_
  refine X_iadd (pc := 59) dX12_nextDay_59 ?_
  obtain ⟨c5, hf⟩ := gd_some hf
  refine X_ialdj (pc := 60) (j := (l2 + (3 : Int32)).toNatClampNeg) ((uI I 48 (s1.toNatClampNeg) s2) 48 ((l2 + (3 : Int32)).toNatClampNeg)) (sh_48 hT) (vp_in_lit (N := 80) c5 (by decide)) rfl rfl dX12_nextDay_60 ?_
  obtain ⟨x6, ex6, hf⟩ := bnd_e hf
  refine X_tope ex6 ?_
  refine X_iconst (pc := 61) (1 : Int32) dX12_nextDay_61 (by decide) ?_
  refine X_iadd (pc := 62) dX12_nextDay_62 ?_
  refine X_bipush (pc := 63) (7 : Int32) dX12_nextDay_63 (by decide) ?_
  refine X_irem (pc := 65) dX12_nextDay_65 (by decide) ?_
  obtain ⟨x7, ex7, hf⟩ := bnd_e hf
  refine X_tope ex7 ?_
  obtain ⟨c8, hf⟩ := gd_some hf
  refine X_iastj (pc := 66) (j := ((l2 + (3 : Int32)).toNatClampNeg)) (sh_48 hT) (vp_in_lit (N := 80) c8 (by decide)) rfl dX12_nextDay_66 ?_
  refine X_aload_n (pc := 67) (i := 0) 0 dX12_nextDay_67 rfl rfl ?_
  refine X_getr (pc := 68) (a := 34) (ci := 11) (j := 33) (c := 48) (sh_34 hT) (by decide) k_1261 (rf_34_33 hT) (fun _ h => h) dX12_nextDay_68 ?_
  refine X_iload_n (pc := 71) (i := 2) 2 dX12_nextDay_71 rfl rfl ?_
  obtain ⟨c9, hf⟩ := gd_some hf
  refine X_ialdj (pc := 72) (j := l2.toNatClampNeg) ((uI (uI I 48 (s1.toNatClampNeg) s2) 48 ((l2 + (3 : Int32)).toNatClampNeg) x7) 48 (l2.toNatClampNeg)) (sh_48 hT) (vp_in_lit (N := 80) c9 (by decide)) rfl rfl dX12_nextDay_72 ?_
  obtain ⟨x10, ex10, hf⟩ := bnd_e hf
  refine X_tope ex10 ?_
  refine X_aload_n (pc := 73) (i := 0) 0 dX12_nextDay_73 rfl rfl ?_
  refine X_getr (pc := 74) (a := 34) (ci := 11) (j := 19) (c := 44) (sh_34 hT) (by decide) k_1247 (rf_34_19 hT) (fun _ h => h) dX12_nextDay_74 ?_
  refine X_iload_n (pc := 77) (i := 1) 1 dX12_nextDay_77 rfl rfl ?_
  obtain ⟨c11, hf⟩ := gd_some hf
  refine X_ialdj (pc := 78) (j := l1.toNatClampNeg) (I 44 (l1.toNatClampNeg)) (sh_44 hT) (vp_in_lit (N := 8) c11 (by decide)) rfl rfl dX12_nextDay_78 ?_
  refine X_aload_n (pc := 79) (i := 0) 0 dX12_nextDay_79 rfl rfl ?_
  refine X_getr (pc := 80) (a := 34) (ci := 11) (j := 33) (c := 48) (sh_34 hT) (by decide) k_1261 (rf_34_33 hT) (fun _ h => h) dX12_nextDay_80 ?_
  refine X_iload_n (pc := 83) (i := 2) 2 dX12_nextDay_83 rfl rfl ?_
  refine X_iconst (pc := 84) (1 : Int32) dX12_nextDay_84 (by decide) ?_
  refine X_iadd (pc := 85) dX12_nextDay_85 ?_
  obtain ⟨c12, hf⟩ := gd_some hf
  refine X_ialdj (pc := 86) (j := (l2 + (1 : Int32)).toNatClampNeg) ((uI (uI I 48 (s1.toNatClampNeg) s2) 48 ((l2 + (3 : Int32)).toNatClampNeg) x7) 48 ((l2 + (1 : Int32)).toNatClampNeg)) (sh_48 hT) (vp_in_lit (N := 80) c12 (by decide)) rfl rfl dX12_nextDay_86 ?_
  obtain ⟨x13, ex13, hf⟩ := bnd_e hf
  refine X_tope ex13 ?_
  refine X_aload_n (pc := 87) (i := 0) 0 dX12_nextDay_87 rfl rfl ?_
  refine X_getr (pc := 88) (a := 34) (ci := 11) (j := 33) (c := 48) (sh_34 hT) (by decide) k_1261 (rf_34_33 hT) (fun _ h => h) dX12_nextDay_88 ?_
  refine X_iload_n (pc := 91) (i := 2) 2 dX12_nextDay_91 rfl rfl ?_
  refine X_iconst (pc := 92) (2 : Int32) dX12_nextDay_92 (by decide) ?_
  refine X_iadd (pc := 93) dX12_nextDay_93 ?_
  obtain ⟨c14, hf⟩ := gd_some hf
  refine X_ialdj (pc := 94) (j := (l2 + (2 : Int32)).toNatClampNeg) ((uI (uI I 48 (s1.toNatClampNeg) s2) 48 ((l2 + (3 : Int32)).toNatClampNeg) x7) 48 ((l2 + (2 : Int32)).toNatClampNeg)) (sh_48 hT) (vp_in_lit (N := 80) c14 (by decide)) rfl rfl dX12_nextDay_94 ?_
  obtain ⟨x15, ex15, hf⟩ := bnd_e hf
  refine X_tope ex15 ?_
  refine X_invS_i (pc := 95) (c_Md_length hT rfl) ok_Md_length k_1632 k_1633 nd_16 (by decide) rfl (Nat.le_of_ble_eq_true rfl) dX12_nextDay_95 ?_
  obtain ⟨x16, ex16, hf⟩ := bnd_e hf
  refine X_tope ex16 ?_
  by_cases c17 : x16 ≤ x10
  · replace hf := (if_pos c17).symm.trans hf
    refine X_icmp_ge_t (pc := 98) 114 dX12_nextDay_98 (by decide) c17 ?_
    refine X_aload_n (pc := 114) (i := 0) 0 dX12_nextDay_114 rfl rfl ?_
    refine X_getr (pc := 115) (a := 34) (ci := 11) (j := 33) (c := 48) (sh_34 hT) (by decide) k_1261 (rf_34_33 hT) (fun _ h => h) dX12_nextDay_115 ?_
    refine X_iload_n (pc := 118) (i := 2) 2 dX12_nextDay_118 rfl rfl ?_
    refine X_iconst (pc := 119) (1 : Int32) dX12_nextDay_119 (by decide) ?_
    obtain ⟨c18, hf⟩ := gd_some hf
    refine X_iastj (pc := 120) (j := (l2.toNatClampNeg)) (sh_48 hT) (vp_in_lit (N := 80) c18 (by decide)) rfl dX12_nextDay_120 ?_
    refine X_aload_n (pc := 121) (i := 0) 0 dX12_nextDay_121 rfl rfl ?_
    refine X_getr (pc := 122) (a := 34) (ci := 11) (j := 33) (c := 48) (sh_34 hT) (by decide) k_1261 (rf_34_33 hT) (fun _ h => h) dX12_nextDay_122 ?_
    refine X_iload_n (pc := 125) (i := 2) 2 dX12_nextDay_125 rfl rfl ?_
    refine X_iconst (pc := 126) (1 : Int32) dX12_nextDay_126 (by decide) ?_
    refine X_iadd (pc := 127) dX12_nextDay_127 ?_
    refine X_aload_n (pc := 128) (i := 0) 0 dX12_nextDay_128 rfl rfl ?_
    refine X_getr (pc := 129) (a := 34) (ci := 11) (j := 33) (c := 48) (sh_34 hT) (by decide) k_1261 (rf_34_33 hT) (fun _ h => h) dX12_nextDay_129 ?_
    refine X_iload_n (pc := 132) (i := 2) 2 dX12_nextDay_132 rfl rfl ?_
    refine X_iconst (pc := 133) (1 : Int32) dX12_nextDay_133 (by decide) ?_
    refine X_iadd (pc := 134) dX12_nextDay_134 ?_
    obtain ⟨c19, hf⟩ := gd_some hf
    refine X_ialdj (pc := 135) (j := (l2 + (1 : Int32)).toNatClampNeg) ((uI (uI (uI I 48 (s1.toNatClampNeg) s2) 48 ((l2 + (3 : Int32)).toNatClampNeg) x7) 48 (l2.toNatClampNeg) (1 : Int32)) 48 ((l2 + (1 : Int32)).toNatClampNeg)) (sh_48 hT) (vp_in_lit (N := 80) c19 (by decide)) rfl rfl dX12_nextDay_135 ?_
    obtain ⟨x20, ex20, hf⟩ := bnd_e hf
    refine X_tope ex20 ?_
    refine X_bipush (pc := 136) (12 : Int32) dX12_nextDay_136 (by decide) ?_
    refine X_irem (pc := 138) dX12_nextDay_138 (by decide) ?_
    refine X_iconst (pc := 139) (1 : Int32) dX12_nextDay_139 (by decide) ?_
    refine X_iadd (pc := 140) dX12_nextDay_140 ?_
    obtain ⟨x21, ex21, hf⟩ := bnd_e hf
    refine X_tope ex21 ?_
    obtain ⟨c22, hf⟩ := gd_some hf
    refine X_iastj (pc := 141) (j := ((l2 + (1 : Int32)).toNatClampNeg)) (sh_48 hT) (vp_in_lit (N := 80) c22 (by decide)) rfl dX12_nextDay_141 ?_
    refine X_aload_n (pc := 142) (i := 0) 0 dX12_nextDay_142 rfl rfl ?_
    refine X_getr (pc := 143) (a := 34) (ci := 11) (j := 33) (c := 48) (sh_34 hT) (by decide) k_1261 (rf_34_33 hT) (fun _ h => h) dX12_nextDay_143 ?_
    refine X_iload_n (pc := 146) (i := 2) 2 dX12_nextDay_146 rfl rfl ?_
    refine X_iconst (pc := 147) (1 : Int32) dX12_nextDay_147 (by decide) ?_
    refine X_iadd (pc := 148) dX12_nextDay_148 ?_
    obtain ⟨c23, hf⟩ := gd_some hf
    refine X_ialdj (pc := 149) (j := (l2 + (1 : Int32)).toNatClampNeg) ((uI (uI (uI (uI I 48 (s1.toNatClampNeg) s2) 48 ((l2 + (3 : Int32)).toNatClampNeg) x7) 48 (l2.toNatClampNeg) (1 : Int32)) 48 ((l2 + (1 : Int32)).toNatClampNeg) x21) 48 ((l2 + (1 : Int32)).toNatClampNeg)) (sh_48 hT) (vp_in_lit (N := 80) c23 (by decide)) rfl rfl dX12_nextDay_149 ?_
    obtain ⟨x24, ex24, hf⟩ := bnd_e hf
    refine X_tope ex24 ?_
    refine X_iconst (pc := 150) (1 : Int32) dX12_nextDay_150 (by decide) ?_
    by_cases c25 : x24 = (1 : Int32)
    · replace hf := (if_pos c25).symm.trans hf
      refine X_icmp_ne_f (pc := 151) 176 dX12_nextDay_151 (by decide) c25 ?_
      refine X_aload_n (pc := 154) (i := 0) 0 dX12_nextDay_154 rfl rfl ?_
      refine X_getr (pc := 155) (a := 34) (ci := 11) (j := 33) (c := 48) (sh_34 hT) (by decide) k_1261 (rf_34_33 hT) (fun _ h => h) dX12_nextDay_155 ?_
      refine X_iload_n (pc := 158) (i := 2) 2 dX12_nextDay_158 rfl rfl ?_
      refine X_iconst (pc := 159) (2 : Int32) dX12_nextDay_159 (by decide) ?_
      refine X_iadd (pc := 160) dX12_nextDay_160 ?_
      refine X_aload_n (pc := 161) (i := 0) 0 dX12_nextDay_161 rfl rfl ?_
      refine X_getr (pc := 162) (a := 34) (ci := 11) (j := 33) (c := 48) (sh_34 hT) (by decide) k_1261 (rf_34_33 hT) (fun _ h => h) dX12_nextDay_162 ?_
      refine X_iload_n (pc := 165) (i := 2) 2 dX12_nextDay_165 rfl rfl ?_
      refine X_iconst (pc := 166) (2 : Int32) dX12_nextDay_166 (by decide) ?_
      refine X_iadd (pc := 167) dX12_nextDay_167 ?_
      obtain ⟨c26, hf⟩ := gd_some hf
      refine X_ialdj (pc := 168) (j := (l2 + (2 : Int32)).toNatClampNeg) ((uI (uI (uI (uI I 48 (s1.toNatClampNeg) s2) 48 ((l2 + (3 : Int32)).toNatClampNeg) x7) 48 (l2.toNatClampNeg) (1 : Int32)) 48 ((l2 + (1 : Int32)).toNatClampNeg) x21) 48 ((l2 + (2 : Int32)).toNatClampNeg)) (sh_48 hT) (vp_in_lit (N := 80) c26 (by decide)) rfl rfl dX12_nextDay_168 ?_
      obtain ⟨x27, ex27, hf⟩ := bnd_e hf
      refine X_tope ex27 ?_
      refine X_sipush (pc := 169) (9999 : Int32) dX12_nextDay_169 (by decide) ?_
      refine X_irem (pc := 172) dX12_nextDay_172 (by decide) ?_
      refine X_iconst (pc := 173) (1 : Int32) dX12_nextDay_173 (by decide) ?_
      refine X_iadd (pc := 174) dX12_nextDay_174 ?_
      obtain ⟨x28, ex28, hf⟩ := bnd_e hf
      refine X_tope ex28 ?_
      obtain ⟨c29, hf⟩ := gd_some hf
      refine X_iastj (pc := 175) (j := ((l2 + (2 : Int32)).toNatClampNeg)) (sh_48 hT) (vp_in_lit (N := 80) c29 (by decide)) rfl dX12_nextDay_175 ?_
      exact X_lvs [0, 1, 2] rfl (x_Md_nextDay_L176 hT hf)
    · replace hf := (if_neg c25).symm.trans hf
      refine X_icmp_ne_t (pc := 151) 176 dX12_nextDay_151 (by decide) c25 ?_
      exact X_lvs [0, 1, 2] rfl (x_Md_nextDay_L176 hT hf)
  · replace hf := (if_neg c17).symm.trans hf
    refine X_icmp_ge_f (pc := 98) 114 dX12_nextDay_98 (by decide) c17 ?_
    refine X_aload_n (pc := 101) (i := 0) 0 dX12_nextDay_101 rfl rfl ?_
    refine X_getr (pc := 102) (a := 34) (ci := 11) (j := 33) (c := 48) (sh_34 hT) (by decide) k_1261 (rf_34_33 hT) (fun _ h => h) dX12_nextDay_102 ?_
    refine X_iload_n (pc := 105) (i := 2) 2 dX12_nextDay_105 rfl rfl ?_
    refine X_dup2 (pc := 106) dX12_nextDay_106 rfl rfl ?_
    obtain ⟨c50, hf⟩ := gd_some hf
    refine X_ialdj (pc := 107) (j := l2.toNatClampNeg) ((uI (uI I 48 (s1.toNatClampNeg) s2) 48 ((l2 + (3 : Int32)).toNatClampNeg) x7) 48 (l2.toNatClampNeg)) (sh_48 hT) (vp_in_lit (N := 80) c50 (by decide)) rfl rfl dX12_nextDay_107 ?_
    obtain ⟨x51, ex51, hf⟩ := bnd_e hf
    refine X_tope ex51 ?_
    refine X_iconst (pc := 108) (1 : Int32) dX12_nextDay_108 (by decide) ?_
    refine X_iadd (pc := 109) dX12_nextDay_109 ?_
    obtain ⟨x52, ex52, hf⟩ := bnd_e hf
    refine X_tope ex52 ?_
    obtain ⟨c53, hf⟩ := gd_some hf
    refine X_iastj (pc := 110) (j := (l2.toNatClampNeg)) (sh_48 hT) (vp_in_lit (N := 80) c53 (by decide)) rfl dX12_nextDay_110 ?_
    refine X_goto (pc := 111) 176 dX12_nextDay_111 (by decide) ?_
    exact X_lvs [0, 1, 2] rfl (x_Md_nextDay_L176 hT hf)
theorem u_Md_nextDay_L45 {S : List xSh} {l1 : Int32} {l2 : Int32} {s1 : Int32} {s2 : Int32} {I : Nat → Nat → Int32} {L : Nat → Nat → Int64} {q : ((Nat → Nat → Int32) × (Nat → Nat → Int64))} (hf : f_Md_nextDay_L45 l1 l2 s1 s2 I L = some q) : FR S [48, 56, 4445, 4446, 4447] [] I q.1 L q.2 := by
  replace hf := (f_Md_nextDay_L45.eq_1 _ _ _ _ _ _).symm.trans hf
  obtain ⟨c4, hf⟩ := gd_some hf
  obtain ⟨c5, hf⟩ := gd_some hf
  obtain ⟨x6, ex6, hf⟩ := bnd_e hf
  obtain ⟨x7, ex7, hf⟩ := bnd_e hf
  obtain ⟨c8, hf⟩ := gd_some hf
  obtain ⟨c9, hf⟩ := gd_some hf
  obtain ⟨x10, ex10, hf⟩ := bnd_e hf
  obtain ⟨c11, hf⟩ := gd_some hf
  obtain ⟨c12, hf⟩ := gd_some hf
  obtain ⟨x13, ex13, hf⟩ := bnd_e hf
  obtain ⟨c14, hf⟩ := gd_some hf
  obtain ⟨x15, ex15, hf⟩ := bnd_e hf
  obtain ⟨x16, ex16, hf⟩ := bnd_e hf
  by_cases c17 : x16 ≤ x10
  · replace hf := (if_pos c17).symm.trans hf
    obtain ⟨c18, hf⟩ := gd_some hf
    obtain ⟨c19, hf⟩ := gd_some hf
    obtain ⟨x20, ex20, hf⟩ := bnd_e hf
    obtain ⟨x21, ex21, hf⟩ := bnd_e hf
    obtain ⟨c22, hf⟩ := gd_some hf
    obtain ⟨c23, hf⟩ := gd_some hf
    obtain ⟨x24, ex24, hf⟩ := bnd_e hf
    by_cases c25 : x24 = (1 : Int32)
    · replace hf := (if_pos c25).symm.trans hf
      obtain ⟨c26, hf⟩ := gd_some hf
      obtain ⟨x27, ex27, hf⟩ := bnd_e hf
      obtain ⟨x28, ex28, hf⟩ := bnd_e hf
      obtain ⟨c29, hf⟩ := gd_some hf
      exact FR.tr (FR.ai (FR.ai (FR.ai (FR.ai (FR.ai FR.rf (by decide)) (by decide)) (by decide)) (by decide)) (by decide)) (u_Md_nextDay_L176 hf) (by decide) (by decide)
    · replace hf := (if_neg c25).symm.trans hf
      exact FR.tr (FR.ai (FR.ai (FR.ai (FR.ai FR.rf (by decide)) (by decide)) (by decide)) (by decide)) (u_Md_nextDay_L176 hf) (by decide) (by decide)
  · replace hf := (if_neg c17).symm.trans hf
    obtain ⟨c50, hf⟩ := gd_some hf
    obtain ⟨x51, ex51, hf⟩ := bnd_e hf
    obtain ⟨x52, ex52, hf⟩ := bnd_e hf
    obtain ⟨c53, hf⟩ := gd_some hf
    exact FR.tr (FR.ai (FR.ai (FR.ai FR.rf (by decide)) (by decide)) (by decide)) (u_Md_nextDay_L176 hf) (by decide) (by decide)
def f_Md_nextDay (a0 : Int32) (I : Nat → Nat → Int32) (L : Nat → Nat → Int64) : Option ((Nat → Nat → Int32) × (Nat → Nat → Int64)) := (bnd ((10 : Int32) * a0) fun x1 => (if (0 ≤ (x1 + (4 : Int32)) ∧ (x1 + (4 : Int32)) < (80 : Int32)) then (if (I 48 ((x1 + (4 : Int32)).toNatClampNeg)) = ((f_Md_daysBefore (10000 : Int32)) - (1 : Int32)) then (f_Md_nextDay_L45 a0 x1 (x1 + (4 : Int32)) (0 : Int32) I L) else (if (0 ≤ (x1 + (4 : Int32)) ∧ (x1 + (4 : Int32)) < (80 : Int32)) then (f_Md_nextDay_L45 a0 x1 (x1 + (4 : Int32)) ((I 48 ((x1 + (4 : Int32)).toNatClampNeg)) + (1 : Int32)) I L) else none)) else none))
set_option maxRecDepth 100000 in
set_option maxHeartbeats 4000000 in
theorem c_Md_nextDay {G : xG} {S : List xSh} {Rf : Nat → Nat → Option Nat} (hT : xTM S Rf) {a0 : Int32} {I : Nat → Nat → Int32} {L : Nat → Nat → Int64} {q : ((Nat → Nat → Int32) × (Nat → Nat → Int64))} (hf : f_Md_nextDay a0 I L = some q) : CT G 4 m_Md_nextDay [.ref (xP G 34), .int a0] (S, I, L, Rf) (none, (S, q.1, q.2, Rf)) := by
  refine CT.of (by decide +kernel) (Nat.le_of_ble_eq_true rfl) ?_
  show X G 4 m_Md_nextDay 0 [(0, .ref (xP G 34)), (1, .int a0)] [] (S, I, L, Rf) (none, (S, q.1, q.2, Rf))
  replace hf := (f_Md_nextDay.eq_1 _ _ _).symm.trans hf
  refine X_bipush (pc := 0) (10 : Int32) dX12_nextDay_0 (by decide) ?_
  refine X_iload_n (pc := 2) (i := 1) 1 dX12_nextDay_2 rfl rfl ?_
  refine X_imul (pc := 3) dX12_nextDay_3 ?_
  obtain ⟨x1, ex1, hf⟩ := bnd_e hf
  refine X_tope ex1 ?_
  refine X_istore_n (pc := 4) (i := 2) [(2, .int x1), (0, .ref (xP G 34)), (1, .int a0)] dX12_nextDay_4 rfl (by decide) rfl ?_
  refine X_aload_n (pc := 5) (i := 0) 1 dX12_nextDay_5 rfl rfl ?_
  refine X_getr (pc := 6) (a := 34) (ci := 11) (j := 33) (c := 48) (sh_34 hT) (by decide) k_1261 (rf_34_33 hT) (fun _ h => h) dX12_nextDay_6 ?_
  refine X_iload_n (pc := 9) (i := 2) 0 dX12_nextDay_9 rfl rfl ?_
  refine X_iconst (pc := 10) (4 : Int32) dX12_nextDay_10 (by decide) ?_
  refine X_iadd (pc := 11) dX12_nextDay_11 ?_
  refine X_aload_n (pc := 12) (i := 0) 1 dX12_nextDay_12 rfl rfl ?_
  refine X_getr (pc := 13) (a := 34) (ci := 11) (j := 33) (c := 48) (sh_34 hT) (by decide) k_1261 (rf_34_33 hT) (fun _ h => h) dX12_nextDay_13 ?_
  refine X_iload_n (pc := 16) (i := 2) 0 dX12_nextDay_16 rfl rfl ?_
  refine X_iconst (pc := 17) (4 : Int32) dX12_nextDay_17 (by decide) ?_
  refine X_iadd (pc := 18) dX12_nextDay_18 ?_
  obtain ⟨c2, hf⟩ := gd_some hf
  refine X_ialdj (pc := 19) (j := (x1 + (4 : Int32)).toNatClampNeg) (I 48 ((x1 + (4 : Int32)).toNatClampNeg)) (sh_48 hT) (vp_in_lit (N := 80) c2 (by decide)) rfl rfl dX12_nextDay_19 ?_
  refine X_sipush (pc := 20) (10000 : Int32) dX12_nextDay_20 (by decide) ?_
  refine X_invS_i (pc := 23) (c_Md_daysBefore hT rfl) ok_Md_daysBefore k_1219 k_1220 nd_8 (by decide) rfl (Nat.le_of_ble_eq_true rfl) dX12_nextDay_23 ?_
  refine X_iconst (pc := 26) (1 : Int32) dX12_nextDay_26 (by decide) ?_
  refine X_isub (pc := 27) dX12_nextDay_27 ?_
  by_cases c3 : (I 48 ((x1 + (4 : Int32)).toNatClampNeg)) = ((f_Md_daysBefore (10000 : Int32)) - (1 : Int32))
  · replace hf := (if_pos c3).symm.trans hf
    refine X_icmp_ne_f (pc := 28) 35 dX12_nextDay_28 (by decide) c3 ?_
    refine X_iconst (pc := 31) (0 : Int32) dX12_nextDay_31 (by decide) ?_
    refine X_goto (pc := 32) 45 dX12_nextDay_32 (by decide) ?_
    exact X_lvs [1, 2, 0] rfl (x_Md_nextDay_L45 hT hf)
  · replace hf := (if_neg c3).symm.trans hf
    refine X_icmp_ne_t (pc := 28) 35 dX12_nextDay_28 (by decide) c3 ?_
    refine X_aload_n (pc := 35) (i := 0) 1 dX12_nextDay_35 rfl rfl ?_
    refine X_getr (pc := 36) (a := 34) (ci := 11) (j := 33) (c := 48) (sh_34 hT) (by decide) k_1261 (rf_34_33 hT) (fun _ h => h) dX12_nextDay_36 ?_
    refine X_iload_n (pc := 39) (i := 2) 0 dX12_nextDay_39 rfl rfl ?_
    refine X_iconst (pc := 40) (4 : Int32) dX12_nextDay_40 (by decide) ?_
    refine X_iadd (pc := 41) dX12_nextDay_41 ?_
    obtain ⟨c54, hf⟩ := gd_some hf
    refine X_ialdj (pc := 42) (j := (x1 + (4 : Int32)).toNatClampNeg) (I 48 ((x1 + (4 : Int32)).toNatClampNeg)) (sh_48 hT) (vp_in_lit (N := 80) c54 (by decide)) rfl rfl dX12_nextDay_42 ?_
    refine X_iconst (pc := 43) (1 : Int32) dX12_nextDay_43 (by decide) ?_
    refine X_iadd (pc := 44) dX12_nextDay_44 ?_
    exact X_lvs [1, 2, 0] rfl (x_Md_nextDay_L45 hT hf)
theorem u_Md_nextDay {S : List xSh} {a0 : Int32} {I : Nat → Nat → Int32} {L : Nat → Nat → Int64} {q : ((Nat → Nat → Int32) × (Nat → Nat → Int64))} (hf : f_Md_nextDay a0 I L = some q) : FR S [48, 56, 4445, 4446, 4447] [] I q.1 L q.2 := by
  replace hf := (f_Md_nextDay.eq_1 _ _ _).symm.trans hf
  obtain ⟨x1, ex1, hf⟩ := bnd_e hf
  obtain ⟨c2, hf⟩ := gd_some hf
  by_cases c3 : (I 48 ((x1 + (4 : Int32)).toNatClampNeg)) = ((f_Md_daysBefore (10000 : Int32)) - (1 : Int32))
  · replace hf := (if_pos c3).symm.trans hf
    exact FR.tr FR.rf (u_Md_nextDay_L45 hf) (by decide) (by decide)
  · replace hf := (if_neg c3).symm.trans hf
    obtain ⟨c54, hf⟩ := gd_some hf
    exact FR.tr FR.rf (u_Md_nextDay_L45 hf) (by decide) (by decide)

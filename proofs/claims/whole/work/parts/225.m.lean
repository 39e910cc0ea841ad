theorem dX12_limit_0 : decode cX12_limit 0 = .ok (.iload_n 1, 1) := by decide +kernel
theorem dX12_limit_1 : decode cX12_limit 1 = .ok (.i2l, 1) := by decide +kernel
theorem dX12_limit_2 : decode cX12_limit 2 = .ok (.lconst 0, 1) := by decide +kernel
theorem dX12_limit_3 : decode cX12_limit 3 = .ok (.lconst 1, 1) := by decide +kernel
theorem dX12_limit_4 : decode cX12_limit 4 = .ok (.invokestatic 140, 3) := by decide +kernel
theorem dX12_limit_7 : decode cX12_limit 7 = .ok (.ifCond .ne 7, 3) := by decide +kernel
theorem dX12_limit_10 : decode cX12_limit 10 = .ok (.ldc_w 480, 3) := by decide +kernel
theorem dX12_limit_13 : decode cX12_limit 13 = .ok (.ireturn, 1) := by decide +kernel
theorem dX12_limit_14 : decode cX12_limit 14 = .ok (.iconst 0, 1) := by decide +kernel
theorem dX12_limit_15 : decode cX12_limit 15 = .ok (.istore_n 2, 1) := by decide +kernel
theorem dX12_limit_16 : decode cX12_limit 16 = .ok (.iconst 0, 1) := by decide +kernel
theorem dX12_limit_17 : decode cX12_limit 17 = .ok (.istore_n 3, 1) := by decide +kernel
theorem dX12_limit_18 : decode cX12_limit 18 = .ok (.iload_n 3, 1) := by decide +kernel
theorem dX12_limit_19 : decode cX12_limit 19 = .ok (.aload_n 0, 1) := by decide +kernel
theorem dX12_limit_20 : decode cX12_limit 20 = .ok (.getfield 473, 3) := by decide +kernel
theorem dX12_limit_23 : decode cX12_limit 23 = .ok (.if_icmp .ge 81, 3) := by decide +kernel
theorem dX12_limit_26 : decode cX12_limit 26 = .ok (.iload_n 1, 1) := by decide +kernel
theorem dX12_limit_27 : decode cX12_limit 27 = .ok (.iconst 1, 1) := by decide +kernel
theorem dX12_limit_28 : decode cX12_limit 28 = .ok (.if_icmp .ne 7, 3) := by decide +kernel
theorem dX12_limit_31 : decode cX12_limit 31 = .ok (.iconst 1, 1) := by decide +kernel
theorem dX12_limit_32 : decode cX12_limit 32 = .ok (.goto 4, 3) := by decide +kernel
theorem dX12_limit_35 : decode cX12_limit 35 = .ok (.iconst 0, 1) := by decide +kernel
theorem dX12_limit_36 : decode cX12_limit 36 = .ok (.aload_n 0, 1) := by decide +kernel
theorem dX12_limit_37 : decode cX12_limit 37 = .ok (.getfield 99, 3) := by decide +kernel
theorem dX12_limit_40 : decode cX12_limit 40 = .ok (.iload_n 3, 1) := by decide +kernel
theorem dX12_limit_41 : decode cX12_limit 41 = .ok (.iaload, 1) := by decide +kernel
theorem dX12_limit_42 : decode cX12_limit 42 = .ok (.iconst 1, 1) := by decide +kernel
theorem dX12_limit_43 : decode cX12_limit 43 = .ok (.if_icmp .ne 7, 3) := by decide +kernel
theorem dX12_limit_46 : decode cX12_limit 46 = .ok (.iconst 1, 1) := by decide +kernel
theorem dX12_limit_47 : decode cX12_limit 47 = .ok (.goto 4, 3) := by decide +kernel
theorem dX12_limit_50 : decode cX12_limit 50 = .ok (.iconst 0, 1) := by decide +kernel
theorem dX12_limit_51 : decode cX12_limit 51 = .ok (.if_icmp .ne 7, 3) := by decide +kernel
theorem dX12_limit_54 : decode cX12_limit 54 = .ok (.iconst 1, 1) := by decide +kernel
theorem dX12_limit_55 : decode cX12_limit 55 = .ok (.goto 4, 3) := by decide +kernel
theorem dX12_limit_58 : decode cX12_limit 58 = .ok (.iconst 0, 1) := by decide +kernel
theorem dX12_limit_59 : decode cX12_limit 59 = .ok (.istore 4, 2) := by decide +kernel
theorem dX12_limit_61 : decode cX12_limit 61 = .ok (.iload_n 2, 1) := by decide +kernel
theorem dX12_limit_62 : decode cX12_limit 62 = .ok (.aload_n 0, 1) := by decide +kernel
theorem dX12_limit_63 : decode cX12_limit 63 = .ok (.getfield 99, 3) := by decide +kernel
theorem dX12_limit_66 : decode cX12_limit 66 = .ok (.iload_n 3, 1) := by decide +kernel
theorem dX12_limit_67 : decode cX12_limit 67 = .ok (.iaload, 1) := by decide +kernel
theorem dX12_limit_68 : decode cX12_limit 68 = .ok (.aload_n 0, 1) := by decide +kernel
theorem dX12_limit_69 : decode cX12_limit 69 = .ok (.getfield 102, 3) := by decide +kernel
theorem dX12_limit_72 : decode cX12_limit 72 = .ok (.iload_n 3, 1) := by decide +kernel
theorem dX12_limit_73 : decode cX12_limit 73 = .ok (.iaload, 1) := by decide +kernel
theorem dX12_limit_74 : decode cX12_limit 74 = .ok (.iload 4, 2) := by decide +kernel
theorem dX12_limit_76 : decode cX12_limit 76 = .ok (.ifCond .eq 12, 3) := by decide +kernel
theorem dX12_limit_79 : decode cX12_limit 79 = .ok (.aload_n 0, 1) := by decide +kernel
theorem dX12_limit_80 : decode cX12_limit 80 = .ok (.getfield 108, 3) := by decide +kernel
theorem dX12_limit_83 : decode cX12_limit 83 = .ok (.iload_n 3, 1) := by decide +kernel
theorem dX12_limit_84 : decode cX12_limit 84 = .ok (.iaload, 1) := by decide +kernel
theorem dX12_limit_85 : decode cX12_limit 85 = .ok (.goto 9, 3) := by decide +kernel
theorem dX12_limit_88 : decode cX12_limit 88 = .ok (.aload_n 0, 1) := by decide +kernel
theorem dX12_limit_89 : decode cX12_limit 89 = .ok (.getfield 105, 3) := by decide +kernel
theorem dX12_limit_92 : decode cX12_limit 92 = .ok (.iload_n 3, 1) := by decide +kernel
theorem dX12_limit_93 : decode cX12_limit 93 = .ok (.iaload, 1) := by decide +kernel
theorem dX12_limit_94 : decode cX12_limit 94 = .ok (.iadd, 1) := by decide +kernel
theorem dX12_limit_95 : decode cX12_limit 95 = .ok (.imul, 1) := by decide +kernel
theorem dX12_limit_96 : decode cX12_limit 96 = .ok (.iadd, 1) := by decide +kernel
theorem dX12_limit_97 : decode cX12_limit 97 = .ok (.istore_n 2, 1) := by decide +kernel
theorem dX12_limit_98 : decode cX12_limit 98 = .ok (.iinc 3 1, 3) := by decide +kernel
theorem dX12_limit_101 : decode cX12_limit 101 = .ok (.goto (-83), 3) := by decide +kernel
theorem dX12_limit_104 : decode cX12_limit 104 = .ok (.iload_n 2, 1) := by decide +kernel
theorem dX12_limit_105 : decode cX12_limit 105 = .ok (.ireturn, 1) := by decide +kernel
def f_Md_limit_L59 (k18 : Int32 → Int32 → Int32 → (Nat → Nat → Int32) → (Nat → Nat → Int64) → Option Int32) (l1 : Int32) (l2 : Int32) (l3 : Int32) (s0 : Int32) (I : (Nat → Nat → Int32)) (L : (Nat → Nat → Int64)) : Option Int32 := (if (0 ≤ l3 ∧ l3 < (8 : Int32)) then (if (0 ≤ l3 ∧ l3 < (8 : Int32)) then (if s0 = (0 : Int32) then (if (0 ≤ l3 ∧ l3 < (8 : Int32)) then (bnd ((I 64 (l3.toNatClampNeg)) * ((I 65 (l3.toNatClampNeg)) + (I 66 (l3.toNatClampNeg)))) fun x12 => (bnd (l2 + x12) fun x13 => (k18 l1 x13 (l3 + (1 : Int32)) I L))) else none) else (if (0 ≤ l3 ∧ l3 < (8 : Int32)) then (bnd ((I 64 (l3.toNatClampNeg)) * ((I 65 (l3.toNatClampNeg)) + (I 67 (l3.toNatClampNeg)))) fun x15 => (bnd (l2 + x15) fun x16 => (k18 l1 x16 (l3 + (1 : Int32)) I L))) else none)) else none) else none)
set_option maxRecDepth 100000 in
set_option maxHeartbeats 4000000 in
theorem x_Md_limit_L59 {G : xG} {S : List xSh} {Rf : Nat → Nat → Option Nat} (hT : xTM S Rf) {k18 : Int32 → Int32 → Int32 → (Nat → Nat → Int32) → (Nat → Nat → Int64) → Option Int32} (hk18 : ∀ {l1 : Int32} {l2 : Int32} {l3 : Int32} {I : Nat → Nat → Int32} {L : Nat → Nat → Int64} {q : Int32}, k18 l1 l2 l3 I L = some q → X G 2 m_Md_limit 18 [(0, .ref (xP G 34)), (1, .int l1), (2, .int l2), (3, .int l3)] [] (S, I, L, Rf) (some (.int q), (S, I, L, Rf))) {l1 : Int32} {l2 : Int32} {l3 : Int32} {s0 : Int32} {I : Nat → Nat → Int32} {L : Nat → Nat → Int64} {q : Int32} (hf : f_Md_limit_L59 k18 l1 l2 l3 s0 I L = some q) : X G 2 m_Md_limit 59 [(0, .ref (xP G 34)), (1, .int l1), (2, .int l2), (3, .int l3)] [.int s0] (S, I, L, Rf) (some (.int q), (S, I, L, Rf)) := by
  replace hf := (f_Md_limit_L59.eq_1 _ _ _ _ _ _ _).symm.trans hf
  refine X_istore (pc := 59) [(4, .int s0), (0, .ref (xP G 34)), (1, .int l1), (2, .int l2), (3, .int l3)] dX12_limit_59 (by decide) rfl ?_
  refine X_iload_n (pc := 61) (i := 2) 3 dX12_limit_61 rfl rfl ?_
  refine X_aload_n (pc := 62) (i := 0) 1 dX12_limit_62 rfl rfl ?_
  refine X_getr (pc := 63) (a := 34) (ci := 11) (j := 68) (c := 64) (sh_34 hT) (by decide) k_1296 (rf_34_68 hT) (fun _ h => h) dX12_limit_63 ?_
  refine X_iload_n (pc := 66) (i := 3) 4 dX12_limit_66 rfl rfl ?_
  obtain ⟨c8, hf⟩ := gd_some hf
  refine X_ialdj (pc := 67) (j := l3.toNatClampNeg) (I 64 (l3.toNatClampNeg)) (sh_64 hT) (vp_in_lit (N := 8) c8 (by decide)) rfl rfl dX12_limit_67 ?_
  refine X_aload_n (pc := 68) (i := 0) 1 dX12_limit_68 rfl rfl ?_
  refine X_getr (pc := 69) (a := 34) (ci := 11) (j := 69) (c := 65) (sh_34 hT) (by decide) k_1297 (rf_34_69 hT) (fun _ h => h) dX12_limit_69 ?_
  refine X_iload_n (pc := 72) (i := 3) 4 dX12_limit_72 rfl rfl ?_
  obtain ⟨c9, hf⟩ := gd_some hf
  refine X_ialdj (pc := 73) (j := l3.toNatClampNeg) (I 65 (l3.toNatClampNeg)) (sh_65 hT) (vp_in_lit (N := 8) c9 (by decide)) rfl rfl dX12_limit_73 ?_
  refine X_iload (pc := 74) 0 dX12_limit_74 rfl ?_
  by_cases c10 : s0 = (0 : Int32)
  · replace hf := (if_pos c10).symm.trans hf
    refine X_if_eq_t (pc := 76) 88 dX12_limit_76 (by decide) c10 ?_
    refine X_aload_n (pc := 88) (i := 0) 1 dX12_limit_88 rfl rfl ?_
    refine X_getr (pc := 89) (a := 34) (ci := 11) (j := 70) (c := 66) (sh_34 hT) (by decide) k_1298 (rf_34_70 hT) (fun _ h => h) dX12_limit_89 ?_
    refine X_iload_n (pc := 92) (i := 3) 4 dX12_limit_92 rfl rfl ?_
    obtain ⟨c11, hf⟩ := gd_some hf
    refine X_ialdj (pc := 93) (j := l3.toNatClampNeg) (I 66 (l3.toNatClampNeg)) (sh_66 hT) (vp_in_lit (N := 8) c11 (by decide)) rfl rfl dX12_limit_93 ?_
    refine X_iadd (pc := 94) dX12_limit_94 ?_
    refine X_imul (pc := 95) dX12_limit_95 ?_
    obtain ⟨x12, ex12, hf⟩ := bnd_e hf
    refine X_tope ex12 ?_
    refine X_iadd (pc := 96) dX12_limit_96 ?_
    obtain ⟨x13, ex13, hf⟩ := bnd_e hf
    refine X_tope ex13 ?_
    refine X_istore_n (pc := 97) (i := 2) [(2, .int x13), (4, .int s0), (0, .ref (xP G 34)), (1, .int l1), (3, .int l3)] dX12_limit_97 rfl (by decide) rfl ?_
    refine X_iinc (pc := 98) (i := 3) (q := 4) (v := (l3 + (1 : Int32))) [(3, .int (l3 + (1 : Int32))), (2, .int x13), (4, .int s0), (0, .ref (xP G 34)), (1, .int l1)] dX12_limit_98 rfl rfl (by decide) rfl ?_
    refine X_goto (pc := 101) 18 dX12_limit_101 (by decide) ?_
    exact X_lvs [3, 4, 1, 0] rfl (hk18 hf)
  · replace hf := (if_neg c10).symm.trans hf
    refine X_if_eq_f (pc := 76) 88 dX12_limit_76 (by decide) c10 ?_
    refine X_aload_n (pc := 79) (i := 0) 1 dX12_limit_79 rfl rfl ?_
    refine X_getr (pc := 80) (a := 34) (ci := 11) (j := 71) (c := 67) (sh_34 hT) (by decide) k_1299 (rf_34_71 hT) (fun _ h => h) dX12_limit_80 ?_
    refine X_iload_n (pc := 83) (i := 3) 4 dX12_limit_83 rfl rfl ?_
    obtain ⟨c14, hf⟩ := gd_some hf
    refine X_ialdj (pc := 84) (j := l3.toNatClampNeg) (I 67 (l3.toNatClampNeg)) (sh_67 hT) (vp_in_lit (N := 8) c14 (by decide)) rfl rfl dX12_limit_84 ?_
    refine X_goto (pc := 85) 94 dX12_limit_85 (by decide) ?_
    refine X_iadd (pc := 94) dX12_limit_94 ?_
    refine X_imul (pc := 95) dX12_limit_95 ?_
    obtain ⟨x15, ex15, hf⟩ := bnd_e hf
    refine X_tope ex15 ?_
    refine X_iadd (pc := 96) dX12_limit_96 ?_
    obtain ⟨x16, ex16, hf⟩ := bnd_e hf
    refine X_tope ex16 ?_
    refine X_istore_n (pc := 97) (i := 2) [(2, .int x16), (4, .int s0), (0, .ref (xP G 34)), (1, .int l1), (3, .int l3)] dX12_limit_97 rfl (by decide) rfl ?_
    refine X_iinc (pc := 98) (i := 3) (q := 4) (v := (l3 + (1 : Int32))) [(3, .int (l3 + (1 : Int32))), (2, .int x16), (4, .int s0), (0, .ref (xP G 34)), (1, .int l1)] dX12_limit_98 rfl rfl (by decide) rfl ?_
    refine X_goto (pc := 101) 18 dX12_limit_101 (by decide) ?_
    exact X_lvs [3, 4, 1, 0] rfl (hk18 hf)
def f_Md_limit_L51 (k18 : Int32 → Int32 → Int32 → (Nat → Nat → Int32) → (Nat → Nat → Int64) → Option Int32) (l1 : Int32) (l2 : Int32) (l3 : Int32) (s0 : Int32) (s1 : Int32) (I : (Nat → Nat → Int32)) (L : (Nat → Nat → Int64)) : Option Int32 := (if s0 = s1 then (f_Md_limit_L59 k18 l1 l2 l3 (1 : Int32) I L) else (f_Md_limit_L59 k18 l1 l2 l3 (0 : Int32) I L))
set_option maxRecDepth 100000 in
set_option maxHeartbeats 4000000 in
theorem x_Md_limit_L51 {G : xG} {S : List xSh} {Rf : Nat → Nat → Option Nat} (hT : xTM S Rf) {k18 : Int32 → Int32 → Int32 → (Nat → Nat → Int32) → (Nat → Nat → Int64) → Option Int32} (hk18 : ∀ {l1 : Int32} {l2 : Int32} {l3 : Int32} {I : Nat → Nat → Int32} {L : Nat → Nat → Int64} {q : Int32}, k18 l1 l2 l3 I L = some q → X G 2 m_Md_limit 18 [(0, .ref (xP G 34)), (1, .int l1), (2, .int l2), (3, .int l3)] [] (S, I, L, Rf) (some (.int q), (S, I, L, Rf))) {l1 : Int32} {l2 : Int32} {l3 : Int32} {s0 : Int32} {s1 : Int32} {I : Nat → Nat → Int32} {L : Nat → Nat → Int64} {q : Int32} (hf : f_Md_limit_L51 k18 l1 l2 l3 s0 s1 I L = some q) : X G 2 m_Md_limit 51 [(0, .ref (xP G 34)), (1, .int l1), (2, .int l2), (3, .int l3)] [.int s1, .int s0] (S, I, L, Rf) (some (.int q), (S, I, L, Rf)) := by
  replace hf := (f_Md_limit_L51.eq_1 _ _ _ _ _ _ _ _).symm.trans hf
  by_cases c7 : s0 = s1
  · replace hf := (if_pos c7).symm.trans hf
    refine X_icmp_ne_f (pc := 51) 58 dX12_limit_51 (by decide) c7 ?_
    refine X_iconst (pc := 54) (1 : Int32) dX12_limit_54 (by decide) ?_
    refine X_goto (pc := 55) 59 dX12_limit_55 (by decide) ?_
    exact X_lvs [0, 1, 2, 3] rfl (x_Md_limit_L59 hT hk18 hf)
  · replace hf := (if_neg c7).symm.trans hf
    refine X_icmp_ne_t (pc := 51) 58 dX12_limit_51 (by decide) c7 ?_
    refine X_iconst (pc := 58) (0 : Int32) dX12_limit_58 (by decide) ?_
    exact X_lvs [0, 1, 2, 3] rfl (x_Md_limit_L59 hT hk18 hf)
def f_Md_limit_L36 (k18 : Int32 → Int32 → Int32 → (Nat → Nat → Int32) → (Nat → Nat → Int64) → Option Int32) (l1 : Int32) (l2 : Int32) (l3 : Int32) (s0 : Int32) (I : (Nat → Nat → Int32)) (L : (Nat → Nat → Int64)) : Option Int32 := (if (0 ≤ l3 ∧ l3 < (8 : Int32)) then (if (I 64 (l3.toNatClampNeg)) = (1 : Int32) then (f_Md_limit_L51 k18 l1 l2 l3 s0 (1 : Int32) I L) else (f_Md_limit_L51 k18 l1 l2 l3 s0 (0 : Int32) I L)) else none)
set_option maxRecDepth 100000 in
set_option maxHeartbeats 4000000 in
theorem x_Md_limit_L36 {G : xG} {S : List xSh} {Rf : Nat → Nat → Option Nat} (hT : xTM S Rf) {k18 : Int32 → Int32 → Int32 → (Nat → Nat → Int32) → (Nat → Nat → Int64) → Option Int32} (hk18 : ∀ {l1 : Int32} {l2 : Int32} {l3 : Int32} {I : Nat → Nat → Int32} {L : Nat → Nat → Int64} {q : Int32}, k18 l1 l2 l3 I L = some q → X G 2 m_Md_limit 18 [(0, .ref (xP G 34)), (1, .int l1), (2, .int l2), (3, .int l3)] [] (S, I, L, Rf) (some (.int q), (S, I, L, Rf))) {l1 : Int32} {l2 : Int32} {l3 : Int32} {s0 : Int32} {I : Nat → Nat → Int32} {L : Nat → Nat → Int64} {q : Int32} (hf : f_Md_limit_L36 k18 l1 l2 l3 s0 I L = some q) : X G 2 m_Md_limit 36 [(0, .ref (xP G 34)), (1, .int l1), (2, .int l2), (3, .int l3)] [.int s0] (S, I, L, Rf) (some (.int q), (S, I, L, Rf)) := by
  replace hf := (f_Md_limit_L36.eq_1 _ _ _ _ _ _ _).symm.trans hf
  refine X_aload_n (pc := 36) (i := 0) 0 dX12_limit_36 rfl rfl ?_
  refine X_getr (pc := 37) (a := 34) (ci := 11) (j := 68) (c := 64) (sh_34 hT) (by decide) k_1296 (rf_34_68 hT) (fun _ h => h) dX12_limit_37 ?_
  refine X_iload_n (pc := 40) (i := 3) 3 dX12_limit_40 rfl rfl ?_
  obtain ⟨c5, hf⟩ := gd_some hf
  refine X_ialdj (pc := 41) (j := l3.toNatClampNeg) (I 64 (l3.toNatClampNeg)) (sh_64 hT) (vp_in_lit (N := 8) c5 (by decide)) rfl rfl dX12_limit_41 ?_
  refine X_iconst (pc := 42) (1 : Int32) dX12_limit_42 (by decide) ?_
  by_cases c6 : (I 64 (l3.toNatClampNeg)) = (1 : Int32)
  · replace hf := (if_pos c6).symm.trans hf
    refine X_icmp_ne_f (pc := 43) 50 dX12_limit_43 (by decide) c6 ?_
    refine X_iconst (pc := 46) (1 : Int32) dX12_limit_46 (by decide) ?_
    refine X_goto (pc := 47) 51 dX12_limit_47 (by decide) ?_
    exact X_lvs [0, 1, 2, 3] rfl (x_Md_limit_L51 hT hk18 hf)
  · replace hf := (if_neg c6).symm.trans hf
    refine X_icmp_ne_t (pc := 43) 50 dX12_limit_43 (by decide) c6 ?_
    refine X_iconst (pc := 50) (0 : Int32) dX12_limit_50 (by decide) ?_
    exact X_lvs [0, 1, 2, 3] rfl (x_Md_limit_L51 hT hk18 hf)
def f_Md_limit_L18 : Nat → Int32 → Int32 → Int32 → (Nat → Nat → Int32) → (Nat → Nat → Int64) → Option Int32
  | 0, _, _, _, _, _ => none
  | n + 1, l1, l2, l3, I, L => (if (I 34 67) ≤ l3 then (some l2) else (if l1 = (1 : Int32) then (f_Md_limit_L36 (f_Md_limit_L18 n) l1 l2 l3 (1 : Int32) I L) else (f_Md_limit_L36 (f_Md_limit_L18 n) l1 l2 l3 (0 : Int32) I L)))
set_option maxRecDepth 100000 in
set_option maxHeartbeats 4000000 in
theorem x_Md_limit_L18 {G : xG} {S : List xSh} {Rf : Nat → Nat → Option Nat} (hT : xTM S Rf) : ∀ (n : Nat) {l1 : Int32} {l2 : Int32} {l3 : Int32} {I : Nat → Nat → Int32} {L : Nat → Nat → Int64} {q : Int32}, f_Md_limit_L18 n l1 l2 l3 I L = some q → X G 2 m_Md_limit 18 [(0, .ref (xP G 34)), (1, .int l1), (2, .int l2), (3, .int l3)] [] (S, I, L, Rf) (some (.int q), (S, I, L, Rf)) := by
  intro n
  induction n with
  | zero =>
    intro l1 l2 l3 I L q hf
    exact absurd (show none = some q from hf) (by simp)
  | succ n ih =>
    intro l1 l2 l3 I L q hf
    replace hf := (f_Md_limit_L18.eq_2 _ _ _ _ _ _).symm.trans hf
    refine X_iload_n (pc := 18) (i := 3) 3 dX12_limit_18 rfl rfl ?_
    refine X_aload_n (pc := 19) (i := 0) 0 dX12_limit_19 rfl rfl ?_
    refine X_get (pc := 20) (a := 34) (ci := 11) (j := 67) (.int (I 34 67)) (sh_34 hT) (by decide) k_1295 rfl dX12_limit_20 ?_
    by_cases c3 : (I 34 67) ≤ l3
    · replace hf := (if_pos c3).symm.trans hf
      refine X_icmp_ge_t (pc := 23) 104 dX12_limit_23 (by decide) c3 ?_
      refine X_iload_n (pc := 104) (i := 2) 2 dX12_limit_104 rfl rfl ?_
      cases hf
      exact X_ireturn (pc := 105) rfl dX12_limit_105
    · replace hf := (if_neg c3).symm.trans hf
      refine X_icmp_ge_f (pc := 23) 104 dX12_limit_23 (by decide) c3 ?_
      refine X_iload_n (pc := 26) (i := 1) 1 dX12_limit_26 rfl rfl ?_
      refine X_iconst (pc := 27) (1 : Int32) dX12_limit_27 (by decide) ?_
      by_cases c4 : l1 = (1 : Int32)
      · replace hf := (if_pos c4).symm.trans hf
        refine X_icmp_ne_f (pc := 28) 35 dX12_limit_28 (by decide) c4 ?_
        refine X_iconst (pc := 31) (1 : Int32) dX12_limit_31 (by decide) ?_
        refine X_goto (pc := 32) 36 dX12_limit_32 (by decide) ?_
        exact X_lvs [0, 1, 2, 3] rfl (x_Md_limit_L36 hT ih hf)
      · replace hf := (if_neg c4).symm.trans hf
        refine X_icmp_ne_t (pc := 28) 35 dX12_limit_28 (by decide) c4 ?_
        refine X_iconst (pc := 35) (0 : Int32) dX12_limit_35 (by decide) ?_
        exact X_lvs [0, 1, 2, 3] rfl (x_Md_limit_L36 hT ih hf)
def f_Md_limit (a0 : Int32) (I : Nat → Nat → Int32) (L : Nat → Nat → Int64) : Option Int32 := (bnd (f_Md_within (Int32.toInt64 a0) (0 : Int64) (1 : Int64)) fun x1 => (if x1 = (0 : Int32) then (some (-9999999 : Int32)) else (f_Md_limit_L18 xF a0 (0 : Int32) (0 : Int32) I L)))
set_option maxRecDepth 100000 in
set_option maxHeartbeats 4000000 in
theorem c_Md_limit {G : xG} {S : List xSh} {Rf : Nat → Nat → Option Nat} (hT : xTM S Rf) {a0 : Int32} {I : Nat → Nat → Int32} {L : Nat → Nat → Int64} {q : Int32} (hf : f_Md_limit a0 I L = some q) : CT G 2 m_Md_limit [.ref (xP G 34), .int a0] (S, I, L, Rf) (some (.int q), (S, I, L, Rf)) := by
  refine CT.of (by decide +kernel) (Nat.le_of_ble_eq_true rfl) ?_
  show X G 2 m_Md_limit 0 [(0, .ref (xP G 34)), (1, .int a0)] [] (S, I, L, Rf) (some (.int q), (S, I, L, Rf))
  replace hf := (f_Md_limit.eq_1 _ _ _).symm.trans hf
  refine X_iload_n (pc := 0) (i := 1) 1 dX12_limit_0 rfl rfl ?_
  refine X_i2l (pc := 1) dX12_limit_1 ?_
  refine X_lconst (pc := 2) (0 : Int64) dX12_limit_2 (by decide) ?_
  refine X_lconst (pc := 3) (1 : Int64) dX12_limit_3 (by decide) ?_
  refine X_invS_i (pc := 4) (c_Md_within hT rfl) ok_Md_within k_1482 k_1483 nd_33 (by decide) rfl (Nat.le_of_ble_eq_true rfl) dX12_limit_4 ?_
  obtain ⟨x1, ex1, hf⟩ := bnd_e hf
  refine X_tope ex1 ?_
  by_cases c2 : x1 = (0 : Int32)
  · replace hf := (if_pos c2).symm.trans hf
    refine X_if_ne_f (pc := 7) 14 dX12_limit_7 (by decide) c2 ?_
    refine X_ldcw (pc := 10) (-9999999 : Int32) k_1761 dX12_limit_10 ?_
    cases hf
    exact X_ireturn (pc := 13) rfl dX12_limit_13
  · replace hf := (if_neg c2).symm.trans hf
    refine X_if_ne_t (pc := 7) 14 dX12_limit_7 (by decide) c2 ?_
    refine X_iconst (pc := 14) (0 : Int32) dX12_limit_14 (by decide) ?_
    refine X_istore_n (pc := 15) (i := 2) [(2, .int (0 : Int32)), (0, .ref (xP G 34)), (1, .int a0)] dX12_limit_15 rfl (by decide) rfl ?_
    refine X_iconst (pc := 16) (0 : Int32) dX12_limit_16 (by decide) ?_
    refine X_istore_n (pc := 17) (i := 3) [(3, .int (0 : Int32)), (2, .int (0 : Int32)), (0, .ref (xP G 34)), (1, .int a0)] dX12_limit_17 rfl (by decide) rfl ?_
    exact X_lvs [2, 3, 1, 0] rfl (x_Md_limit_L18 hT xF hf)
theorem dX12_ways_0 : decode cX12_ways 0 = .ok (.iconst 0, 1) := by decide +kernel
theorem dX12_ways_1 : decode cX12_ways 1 = .ok (.istore_n 3, 1) := by decide +kernel
theorem dX12_ways_2 : decode cX12_ways 2 = .ok (.iload_n 3, 1) := by decide +kernel
theorem dX12_ways_3 : decode cX12_ways 3 = .ok (.sipush 800, 3) := by decide +kernel
theorem dX12_ways_6 : decode cX12_ways 6 = .ok (.if_icmp .ge 24, 3) := by decide +kernel
theorem dX12_ways_9 : decode cX12_ways 9 = .ok (.aload_n 0, 1) := by decide +kernel
theorem dX12_ways_10 : decode cX12_ways 10 = .ok (.getfield 111, 3) := by decide +kernel
theorem dX12_ways_13 : decode cX12_ways 13 = .ok (.iload_n 3, 1) := by decide +kernel
theorem dX12_ways_14 : decode cX12_ways 14 = .ok (.iload_n 3, 1) := by decide +kernel
theorem dX12_ways_15 : decode cX12_ways 15 = .ok (.ifCond .ne 7, 3) := by decide +kernel
theorem dX12_ways_18 : decode cX12_ways 18 = .ok (.lconst 1, 1) := by decide +kernel
theorem dX12_ways_19 : decode cX12_ways 19 = .ok (.goto 4, 3) := by decide +kernel
theorem dX12_ways_22 : decode cX12_ways 22 = .ok (.lconst 0, 1) := by decide +kernel
theorem dX12_ways_23 : decode cX12_ways 23 = .ok (.lastore, 1) := by decide +kernel
theorem dX12_ways_24 : decode cX12_ways 24 = .ok (.iinc 3 1, 3) := by decide +kernel
theorem dX12_ways_27 : decode cX12_ways 27 = .ok (.goto (-25), 3) := by decide +kernel
theorem dX12_ways_30 : decode cX12_ways 30 = .ok (.iconst 0, 1) := by decide +kernel
theorem dX12_ways_31 : decode cX12_ways 31 = .ok (.istore_n 3, 1) := by decide +kernel
theorem dX12_ways_32 : decode cX12_ways 32 = .ok (.iload_n 3, 1) := by decide +kernel
theorem dX12_ways_33 : decode cX12_ways 33 = .ok (.aload_n 0, 1) := by decide +kernel
theorem dX12_ways_34 : decode cX12_ways 34 = .ok (.getfield 473, 3) := by decide +kernel
theorem dX12_ways_37 : decode cX12_ways 37 = .ok (.if_icmp .ge 108, 3) := by decide +kernel
theorem dX12_ways_40 : decode cX12_ways 40 = .ok (.aload_n 0, 1) := by decide +kernel
theorem dX12_ways_41 : decode cX12_ways 41 = .ok (.getfield 108, 3) := by decide +kernel
theorem dX12_ways_44 : decode cX12_ways 44 = .ok (.iload_n 3, 1) := by decide +kernel
theorem dX12_ways_45 : decode cX12_ways 45 = .ok (.iaload, 1) := by decide +kernel
theorem dX12_ways_46 : decode cX12_ways 46 = .ok (.aload_n 0, 1) := by decide +kernel
theorem dX12_ways_47 : decode cX12_ways 47 = .ok (.getfield 105, 3) := by decide +kernel
theorem dX12_ways_50 : decode cX12_ways 50 = .ok (.iload_n 3, 1) := by decide +kernel
theorem dX12_ways_51 : decode cX12_ways 51 = .ok (.iaload, 1) := by decide +kernel
theorem dX12_ways_52 : decode cX12_ways 52 = .ok (.isub, 1) := by decide +kernel
theorem dX12_ways_53 : decode cX12_ways 53 = .ok (.istore 4, 2) := by decide +kernel
theorem dX12_ways_55 : decode cX12_ways 55 = .ok (.iconst 0, 1) := by decide +kernel
theorem dX12_ways_56 : decode cX12_ways 56 = .ok (.istore 5, 2) := by decide +kernel
theorem dX12_ways_58 : decode cX12_ways 58 = .ok (.iload 5, 2) := by decide +kernel
theorem dX12_ways_60 : decode cX12_ways 60 = .ok (.sipush 800, 3) := by decide +kernel
theorem dX12_ways_63 : decode cX12_ways 63 = .ok (.if_icmp .ge 60, 3) := by decide +kernel
theorem dX12_ways_66 : decode cX12_ways 66 = .ok (.aload_n 0, 1) := by decide +kernel
theorem dX12_ways_67 : decode cX12_ways 67 = .ok (.getfield 114, 3) := by decide +kernel
theorem dX12_ways_70 : decode cX12_ways 70 = .ok (.iload 5, 2) := by decide +kernel
theorem dX12_ways_72 : decode cX12_ways 72 = .ok (.lconst 0, 1) := by decide +kernel
theorem dX12_ways_73 : decode cX12_ways 73 = .ok (.lastore, 1) := by decide +kernel
theorem dX12_ways_74 : decode cX12_ways 74 = .ok (.iconst 0, 1) := by decide +kernel
theorem dX12_ways_75 : decode cX12_ways 75 = .ok (.istore 6, 2) := by decide +kernel
theorem dX12_ways_77 : decode cX12_ways 77 = .ok (.iload 6, 2) := by decide +kernel
theorem dX12_ways_79 : decode cX12_ways 79 = .ok (.iload 4, 2) := by decide +kernel
theorem dX12_ways_81 : decode cX12_ways 81 = .ok (.if_icmp .gt 36, 3) := by decide +kernel
theorem dX12_ways_84 : decode cX12_ways 84 = .ok (.iload 6, 2) := by decide +kernel
theorem dX12_ways_86 : decode cX12_ways 86 = .ok (.iload 5, 2) := by decide +kernel
theorem dX12_ways_88 : decode cX12_ways 88 = .ok (.if_icmp .gt 29, 3) := by decide +kernel
theorem dX12_ways_91 : decode cX12_ways 91 = .ok (.aload_n 0, 1) := by decide +kernel
theorem dX12_ways_92 : decode cX12_ways 92 = .ok (.getfield 114, 3) := by decide +kernel
theorem dX12_ways_95 : decode cX12_ways 95 = .ok (.iload 5, 2) := by decide +kernel
theorem dX12_ways_97 : decode cX12_ways 97 = .ok (.dup2, 1) := by decide +kernel
theorem dX12_ways_98 : decode cX12_ways 98 = .ok (.laload, 1) := by decide +kernel
theorem dX12_ways_99 : decode cX12_ways 99 = .ok (.aload_n 0, 1) := by decide +kernel
theorem dX12_ways_100 : decode cX12_ways 100 = .ok (.getfield 111, 3) := by decide +kernel
theorem dX12_ways_103 : decode cX12_ways 103 = .ok (.iload 5, 2) := by decide +kernel
theorem dX12_ways_105 : decode cX12_ways 105 = .ok (.iload 6, 2) := by decide +kernel
theorem dX12_ways_107 : decode cX12_ways 107 = .ok (.isub, 1) := by decide +kernel
theorem dX12_ways_108 : decode cX12_ways 108 = .ok (.laload, 1) := by decide +kernel
theorem dX12_ways_109 : decode cX12_ways 109 = .ok (.ladd, 1) := by decide +kernel
theorem dX12_ways_110 : decode cX12_ways 110 = .ok (.lastore, 1) := by decide +kernel
theorem dX12_ways_111 : decode cX12_ways 111 = .ok (.iinc 6 1, 3) := by decide +kernel
theorem dX12_ways_114 : decode cX12_ways 114 = .ok (.goto (-37), 3) := by decide +kernel
theorem dX12_ways_117 : decode cX12_ways 117 = .ok (.iinc 5 1, 3) := by decide +kernel
theorem dX12_ways_120 : decode cX12_ways 120 = .ok (.goto (-62), 3) := by decide +kernel
theorem dX12_ways_123 : decode cX12_ways 123 = .ok (.aload_n 0, 1) := by decide +kernel
theorem dX12_ways_124 : decode cX12_ways 124 = .ok (.getfield 114, 3) := by decide +kernel
theorem dX12_ways_127 : decode cX12_ways 127 = .ok (.iconst 0, 1) := by decide +kernel
theorem dX12_ways_128 : decode cX12_ways 128 = .ok (.aload_n 0, 1) := by decide +kernel
theorem dX12_ways_129 : decode cX12_ways 129 = .ok (.getfield 111, 3) := by decide +kernel
theorem dX12_ways_132 : decode cX12_ways 132 = .ok (.iconst 0, 1) := by decide +kernel
theorem dX12_ways_133 : decode cX12_ways 133 = .ok (.sipush 800, 3) := by decide +kernel
theorem dX12_ways_136 : decode cX12_ways 136 = .ok (.invokestatic 458, 3) := by decide +kernel
theorem dX12_ways_139 : decode cX12_ways 139 = .ok (.iinc 3 1, 3) := by decide +kernel
theorem dX12_ways_142 : decode cX12_ways 142 = .ok (.goto (-110), 3) := by decide +kernel
theorem dX12_ways_145 : decode cX12_ways 145 = .ok (.aload_n 0, 1) := by decide +kernel
theorem dX12_ways_146 : decode cX12_ways 146 = .ok (.iconst 0, 1) := by decide +kernel
theorem dX12_ways_147 : decode cX12_ways 147 = .ok (.invokevirtual 481, 3) := by decide +kernel
theorem dX12_ways_150 : decode cX12_ways 150 = .ok (.i2l, 1) := by decide +kernel
theorem dX12_ways_151 : decode cX12_ways 151 = .ok (.lstore_n 3, 1) := by decide +kernel
theorem dX12_ways_152 : decode cX12_ways 152 = .ok (.lconst 0, 1) := by decide +kernel
theorem dX12_ways_153 : decode cX12_ways 153 = .ok (.lstore 5, 2) := by decide +kernel
theorem dX12_ways_155 : decode cX12_ways 155 = .ok (.iconst 0, 1) := by decide +kernel
theorem dX12_ways_156 : decode cX12_ways 156 = .ok (.istore 7, 2) := by decide +kernel
theorem dX12_ways_158 : decode cX12_ways 158 = .ok (.iload 7, 2) := by decide +kernel
theorem dX12_ways_160 : decode cX12_ways 160 = .ok (.sipush 800, 3) := by decide +kernel
theorem dX12_ways_163 : decode cX12_ways 163 = .ok (.if_icmp .ge 40, 3) := by decide +kernel
theorem dX12_ways_166 : decode cX12_ways 166 = .ok (.lload 5, 2) := by decide +kernel
theorem dX12_ways_168 : decode cX12_ways 168 = .ok (.lload_n 3, 1) := by decide +kernel
theorem dX12_ways_169 : decode cX12_ways 169 = .ok (.iload 7, 2) := by decide +kernel
theorem dX12_ways_171 : decode cX12_ways 171 = .ok (.i2l, 1) := by decide +kernel
theorem dX12_ways_172 : decode cX12_ways 172 = .ok (.ladd, 1) := by decide +kernel
theorem dX12_ways_173 : decode cX12_ways 173 = .ok (.iload_n 1, 1) := by decide +kernel
theorem dX12_ways_174 : decode cX12_ways 174 = .ok (.i2l, 1) := by decide +kernel
theorem dX12_ways_175 : decode cX12_ways 175 = .ok (.iload_n 2, 1) := by decide +kernel
theorem dX12_ways_176 : decode cX12_ways 176 = .ok (.i2l, 1) := by decide +kernel
theorem dX12_ways_177 : decode cX12_ways 177 = .ok (.invokestatic 140, 3) := by decide +kernel
theorem dX12_ways_180 : decode cX12_ways 180 = .ok (.ifCond .eq 13, 3) := by decide +kernel
theorem dX12_ways_183 : decode cX12_ways 183 = .ok (.aload_n 0, 1) := by decide +kernel
theorem dX12_ways_184 : decode cX12_ways 184 = .ok (.getfield 111, 3) := by decide +kernel
theorem dX12_ways_187 : decode cX12_ways 187 = .ok (.iload 7, 2) := by decide +kernel
theorem dX12_ways_189 : decode cX12_ways 189 = .ok (.laload, 1) := by decide +kernel
theorem dX12_ways_190 : decode cX12_ways 190 = .ok (.goto 4, 3) := by decide +kernel
theorem dX12_ways_193 : decode cX12_ways 193 = .ok (.lconst 0, 1) := by decide +kernel
theorem dX12_ways_194 : decode cX12_ways 194 = .ok (.ladd, 1) := by decide +kernel
theorem dX12_ways_195 : decode cX12_ways 195 = .ok (.lstore 5, 2) := by decide +kernel
theorem dX12_ways_197 : decode cX12_ways 197 = .ok (.iinc 7 1, 3) := by decide +kernel
theorem dX12_ways_200 : decode cX12_ways 200 = .ok (.goto (-42), 3) := by decide +kernel
theorem dX12_ways_203 : decode cX12_ways 203 = .ok (.lload 5, 2) := by decide +kernel
theorem dX12_ways_205 : decode cX12_ways 205 = .ok (.lreturn, 1) := by decide +kernel
def f_Md_ways_L158 : Nat → Int32 → Int32 → Int64 → Int64 → Int32 → (Nat → Nat → Int32) → (Nat → Nat → Int64) → Option (Int64 × (Nat → Nat → Int32) × (Nat → Nat → Int64))
  | 0, _, _, _, _, _, _, _ => none
  | n + 1, l1, l2, l3, l5, l7, I, L => (if (800 : Int32) ≤ l7 then (some (l5, I, L)) else (bnd (f_Md_within (l3 + (Int32.toInt64 l7)) (Int32.toInt64 l1) (Int32.toInt64 l2)) fun x7 => (if x7 = (0 : Int32) then (bnd (l5 + (0 : Int64)) fun x9 => (f_Md_ways_L158 n l1 l2 l3 x9 (l7 + (1 : Int32)) I L)) else (if (0 ≤ l7 ∧ l7 < (800 : Int32)) then (bnd (l5 + (L 68 (l7.toNatClampNeg))) fun x11 => (f_Md_ways_L158 n l1 l2 l3 x11 (l7 + (1 : Int32)) I L)) else none))))
set_option maxRecDepth 100000 in
set_option maxHeartbeats 4000000 in
theorem x_Md_ways_L158 {G : xG} {S : List xSh} {Rf : Nat → Nat → Option Nat} (hT : xTM S Rf) : ∀ (n : Nat) {l1 : Int32} {l2 : Int32} {l3 : Int64} {l5 : Int64} {l7 : Int32} {I : Nat → Nat → Int32} {L : Nat → Nat → Int64} {q : (Int64 × (Nat → Nat → Int32) × (Nat → Nat → Int64))}, f_Md_ways_L158 n l1 l2 l3 l5 l7 I L = some q → X G 3 m_Md_ways 158 [(0, .ref (xP G 34)), (1, .int l1), (2, .int l2), (3, .long l3), (5, .long l5), (7, .int l7)] [] (S, I, L, Rf) (some (.long q.1), (S, q.2.1, q.2.2, Rf)) := by
  intro n
  induction n with
  | zero =>
    intro l1 l2 l3 l5 l7 I L q hf
    exact absurd (show none = some q from hf) (by simp)
  | succ n ih =>
    intro l1 l2 l3 l5 l7 I L q hf
    replace hf := (f_Md_ways_L158.eq_2 _ _ _ _ _ _ _ _).symm.trans hf
    refine X_iload (pc := 158) 5 dX12_ways_158 rfl ?_
    refine X_sipush (pc := 160) (800 : Int32) dX12_ways_160 (by decide) ?_
    by_cases c6 : (800 : Int32) ≤ l7
    · replace hf := (if_pos c6).symm.trans hf
      refine X_icmp_ge_t (pc := 163) 203 dX12_ways_163 (by decide) c6 ?_
      refine X_lload (pc := 203) 4 dX12_ways_203 rfl ?_
      cases hf
      exact X_lreturn (pc := 205) rfl dX12_ways_205
    · replace hf := (if_neg c6).symm.trans hf
      refine X_icmp_ge_f (pc := 163) 203 dX12_ways_163 (by decide) c6 ?_
      refine X_lload (pc := 166) 4 dX12_ways_166 rfl ?_
      refine X_lload_n (pc := 168) (i := 3) 3 dX12_ways_168 rfl rfl ?_
      refine X_iload (pc := 169) 5 dX12_ways_169 rfl ?_
      refine X_i2l (pc := 171) dX12_ways_171 ?_
      refine X_ladd (pc := 172) dX12_ways_172 ?_
      refine X_iload_n (pc := 173) (i := 1) 1 dX12_ways_173 rfl rfl ?_
      refine X_i2l (pc := 174) dX12_ways_174 ?_
      refine X_iload_n (pc := 175) (i := 2) 2 dX12_ways_175 rfl rfl ?_
      refine X_i2l (pc := 176) dX12_ways_176 ?_
      refine X_invS_i (pc := 177) (c_Md_within hT rfl) ok_Md_within k_1482 k_1483 nd_33 (by decide) rfl (Nat.le_of_ble_eq_true rfl) dX12_ways_177 ?_
      obtain ⟨x7, ex7, hf⟩ := bnd_e hf
      refine X_tope ex7 ?_
      by_cases c8 : x7 = (0 : Int32)
      · replace hf := (if_pos c8).symm.trans hf
        refine X_if_eq_t (pc := 180) 193 dX12_ways_180 (by decide) c8 ?_
        refine X_lconst (pc := 193) (0 : Int64) dX12_ways_193 (by decide) ?_
        refine X_ladd (pc := 194) dX12_ways_194 ?_
        obtain ⟨x9, ex9, hf⟩ := bnd_e hf
        refine X_tople ex9 ?_
        refine X_lstore (pc := 195) [(5, .long x9), (0, .ref (xP G 34)), (1, .int l1), (2, .int l2), (3, .long l3), (7, .int l7)] dX12_ways_195 (by decide) rfl ?_
        refine X_iinc (pc := 197) (i := 7) (q := 5) (v := (l7 + (1 : Int32))) [(7, .int (l7 + (1 : Int32))), (5, .long x9), (0, .ref (xP G 34)), (1, .int l1), (2, .int l2), (3, .long l3)] dX12_ways_197 rfl rfl (by decide) rfl ?_
        refine X_goto (pc := 200) 158 dX12_ways_200 (by decide) ?_
        exact X_lvs [2, 3, 4, 5, 1, 0] rfl (ih hf)
      · replace hf := (if_neg c8).symm.trans hf
        refine X_if_eq_f (pc := 180) 193 dX12_ways_180 (by decide) c8 ?_
        refine X_aload_n (pc := 183) (i := 0) 0 dX12_ways_183 rfl rfl ?_
        refine X_getr (pc := 184) (a := 34) (ci := 11) (j := 72) (c := 68) (sh_34 hT) (by decide) k_1300 (rf_34_72 hT) (fun _ h => h) dX12_ways_184 ?_
        refine X_iload (pc := 187) 5 dX12_ways_187 rfl ?_
        obtain ⟨c10, hf⟩ := gd_some hf
        refine X_laldj (pc := 189) (j := l7.toNatClampNeg) (L 68 (l7.toNatClampNeg)) (sh_68 hT) (vp_in_lit (N := 800) c10 (by decide)) rfl rfl dX12_ways_189 ?_
        refine X_goto (pc := 190) 194 dX12_ways_190 (by decide) ?_
        refine X_ladd (pc := 194) dX12_ways_194 ?_
        obtain ⟨x11, ex11, hf⟩ := bnd_e hf
        refine X_tople ex11 ?_
        refine X_lstore (pc := 195) [(5, .long x11), (0, .ref (xP G 34)), (1, .int l1), (2, .int l2), (3, .long l3), (7, .int l7)] dX12_ways_195 (by decide) rfl ?_
        refine X_iinc (pc := 197) (i := 7) (q := 5) (v := (l7 + (1 : Int32))) [(7, .int (l7 + (1 : Int32))), (5, .long x11), (0, .ref (xP G 34)), (1, .int l1), (2, .int l2), (3, .long l3)] dX12_ways_197 rfl rfl (by decide) rfl ?_
        refine X_goto (pc := 200) 158 dX12_ways_200 (by decide) ?_
        exact X_lvs [2, 3, 4, 5, 1, 0] rfl (ih hf)
theorem u_Md_ways_L158 {S : List xSh} : ∀ (n : Nat) {l1 : Int32} {l2 : Int32} {l3 : Int64} {l5 : Int64} {l7 : Int32} {I : Nat → Nat → Int32} {L : Nat → Nat → Int64} {q : (Int64 × (Nat → Nat → Int32) × (Nat → Nat → Int64))}, f_Md_ways_L158 n l1 l2 l3 l5 l7 I L = some q → FR S [] [68, 69] I q.2.1 L q.2.2 := by
  intro n
  induction n with
  | zero =>
    intro l1 l2 l3 l5 l7 I L q hf
    exact absurd (show none = some q from hf) (by simp)
  | succ n ih =>
    intro l1 l2 l3 l5 l7 I L q hf
    replace hf := (f_Md_ways_L158.eq_2 _ _ _ _ _ _ _ _).symm.trans hf
    by_cases c6 : (800 : Int32) ≤ l7
    · replace hf := (if_pos c6).symm.trans hf
      cases hf
      exact FR.rf
    · replace hf := (if_neg c6).symm.trans hf
      obtain ⟨x7, ex7, hf⟩ := bnd_e hf
      by_cases c8 : x7 = (0 : Int32)
      · replace hf := (if_pos c8).symm.trans hf
        obtain ⟨x9, ex9, hf⟩ := bnd_e hf
        exact FR.tr FR.rf (ih hf) (by decide) (by decide)
      · replace hf := (if_neg c8).symm.trans hf
        obtain ⟨c10, hf⟩ := gd_some hf
        obtain ⟨x11, ex11, hf⟩ := bnd_e hf
        exact FR.tr FR.rf (ih hf) (by decide) (by decide)
def f_Md_ways_L77 (k32 : Int32 → Int32 → Int32 → (Nat → Nat → Int32) → (Nat → Nat → Int64) → Option (Int64 × (Nat → Nat → Int32) × (Nat → Nat → Int64))) (k58 : Int32 → Int32 → Int32 → Int32 → Int32 → (Nat → Nat → Int32) → (Nat → Nat → Int64) → Option (Int64 × (Nat → Nat → Int32) × (Nat → Nat → Int64))) : Nat → Int32 → Int32 → Int32 → Int32 → Int32 → Int32 → (Nat → Nat → Int32) → (Nat → Nat → Int64) → Option (Int64 × (Nat → Nat → Int32) × (Nat → Nat → Int64))
  | 0, _, _, _, _, _, _, _, _ => none
  | n + 1, l1, l2, l3, l4, l5, l6, I, L => (if l4 < l6 then (k58 l1 l2 l3 l4 (l5 + (1 : Int32)) I L) else (if l5 < l6 then (k58 l1 l2 l3 l4 (l5 + (1 : Int32)) I L) else (if (0 ≤ l5 ∧ l5 < (800 : Int32)) then (if (0 ≤ (l5 - l6) ∧ (l5 - l6) < (800 : Int32)) then (bnd ((L 69 (l5.toNatClampNeg)) + (L 68 ((l5 - l6).toNatClampNeg))) fun x21 => (if (0 ≤ l5 ∧ l5 < (800 : Int32)) then (f_Md_ways_L77 k32 k58 n l1 l2 l3 l4 l5 (l6 + (1 : Int32)) I (uL L 69 (l5.toNatClampNeg) x21)) else none)) else none) else none)))
set_option maxRecDepth 100000 in
set_option maxHeartbeats 4000000 in
theorem x_Md_ways_L77 {G : xG} {S : List xSh} {Rf : Nat → Nat → Option Nat} (hT : xTM S Rf) {k32 : Int32 → Int32 → Int32 → (Nat → Nat → Int32) → (Nat → Nat → Int64) → Option (Int64 × (Nat → Nat → Int32) × (Nat → Nat → Int64))} {k58 : Int32 → Int32 → Int32 → Int32 → Int32 → (Nat → Nat → Int32) → (Nat → Nat → Int64) → Option (Int64 × (Nat → Nat → Int32) × (Nat → Nat → Int64))} (hk32 : ∀ {l1 : Int32} {l2 : Int32} {l3 : Int32} {I : Nat → Nat → Int32} {L : Nat → Nat → Int64} {q : (Int64 × (Nat → Nat → Int32) × (Nat → Nat → Int64))}, k32 l1 l2 l3 I L = some q → X G 3 m_Md_ways 32 [(0, .ref (xP G 34)), (1, .int l1), (2, .int l2), (3, .int l3)] [] (S, I, L, Rf) (some (.long q.1), (S, q.2.1, q.2.2, Rf))) (hk58 : ∀ {l1 : Int32} {l2 : Int32} {l3 : Int32} {l4 : Int32} {l5 : Int32} {I : Nat → Nat → Int32} {L : Nat → Nat → Int64} {q : (Int64 × (Nat → Nat → Int32) × (Nat → Nat → Int64))}, k58 l1 l2 l3 l4 l5 I L = some q → X G 3 m_Md_ways 58 [(0, .ref (xP G 34)), (1, .int l1), (2, .int l2), (3, .int l3), (4, .int l4), (5, .int l5)] [] (S, I, L, Rf) (some (.long q.1), (S, q.2.1, q.2.2, Rf))) : ∀ (n : Nat) {l1 : Int32} {l2 : Int32} {l3 : Int32} {l4 : Int32} {l5 : Int32} {l6 : Int32} {I : Nat → Nat → Int32} {L : Nat → Nat → Int64} {q : (Int64 × (Nat → Nat → Int32) × (Nat → Nat → Int64))}, f_Md_ways_L77 k32 k58 n l1 l2 l3 l4 l5 l6 I L = some q → X G 3 m_Md_ways 77 [(0, .ref (xP G 34)), (1, .int l1), (2, .int l2), (3, .int l3), (4, .int l4), (5, .int l5), (6, .int l6)] [] (S, I, L, Rf) (some (.long q.1), (S, q.2.1, q.2.2, Rf)) := by
  intro n
  induction n with
  | zero =>
    intro l1 l2 l3 l4 l5 l6 I L q hf
    exact absurd (show none = some q from hf) (by simp)
  | succ n ih =>
    intro l1 l2 l3 l4 l5 l6 I L q hf
    replace hf := (f_Md_ways_L77.eq_2 _ _ _ _ _ _ _ _ _ _ _).symm.trans hf
    refine X_iload (pc := 77) 6 dX12_ways_77 rfl ?_
    refine X_iload (pc := 79) 4 dX12_ways_79 rfl ?_
    by_cases c17 : l4 < l6
    · replace hf := (if_pos c17).symm.trans hf
      refine X_icmp_gt_t (pc := 81) 117 dX12_ways_81 (by decide) c17 ?_
      refine X_iinc (pc := 117) (i := 5) (q := 5) (v := (l5 + (1 : Int32))) [(5, .int (l5 + (1 : Int32))), (0, .ref (xP G 34)), (1, .int l1), (2, .int l2), (3, .int l3), (4, .int l4), (6, .int l6)] dX12_ways_117 rfl rfl (by decide) rfl ?_
      refine X_goto (pc := 120) 58 dX12_ways_120 (by decide) ?_
      exact X_lvs [1, 2, 3, 4, 5, 0] rfl (hk58 hf)
    · replace hf := (if_neg c17).symm.trans hf
      refine X_icmp_gt_f (pc := 81) 117 dX12_ways_81 (by decide) c17 ?_
      refine X_iload (pc := 84) 6 dX12_ways_84 rfl ?_
      refine X_iload (pc := 86) 5 dX12_ways_86 rfl ?_
      by_cases c18 : l5 < l6
      · replace hf := (if_pos c18).symm.trans hf
        refine X_icmp_gt_t (pc := 88) 117 dX12_ways_88 (by decide) c18 ?_
        refine X_iinc (pc := 117) (i := 5) (q := 5) (v := (l5 + (1 : Int32))) [(5, .int (l5 + (1 : Int32))), (0, .ref (xP G 34)), (1, .int l1), (2, .int l2), (3, .int l3), (4, .int l4), (6, .int l6)] dX12_ways_117 rfl rfl (by decide) rfl ?_
        refine X_goto (pc := 120) 58 dX12_ways_120 (by decide) ?_
        exact X_lvs [1, 2, 3, 4, 5, 0] rfl (hk58 hf)
      · replace hf := (if_neg c18).symm.trans hf
        refine X_icmp_gt_f (pc := 88) 117 dX12_ways_88 (by decide) c18 ?_
        refine X_aload_n (pc := 91) (i := 0) 0 dX12_ways_91 rfl rfl ?_
        refine X_getr (pc := 92) (a := 34) (ci := 11) (j := 73) (c := 69) (sh_34 hT) (by decide) k_1301 (rf_34_73 hT) (fun _ h => h) dX12_ways_92 ?_
        refine X_iload (pc := 95) 5 dX12_ways_95 rfl ?_
        refine X_dup2 (pc := 97) dX12_ways_97 rfl rfl ?_
        obtain ⟨c19, hf⟩ := gd_some hf
        refine X_laldj (pc := 98) (j := l5.toNatClampNeg) (L 69 (l5.toNatClampNeg)) (sh_69 hT) (vp_in_lit (N := 800) c19 (by decide)) rfl rfl dX12_ways_98 ?_
        refine X_aload_n (pc := 99) (i := 0) 0 dX12_ways_99 rfl rfl ?_
        refine X_getr (pc := 100) (a := 34) (ci := 11) (j := 72) (c := 68) (sh_34 hT) (by decide) k_1300 (rf_34_72 hT) (fun _ h => h) dX12_ways_100 ?_
        refine X_iload (pc := 103) 5 dX12_ways_103 rfl ?_
        refine X_iload (pc := 105) 6 dX12_ways_105 rfl ?_
        refine X_isub (pc := 107) dX12_ways_107 ?_
        obtain ⟨c20, hf⟩ := gd_some hf
        refine X_laldj (pc := 108) (j := (l5 - l6).toNatClampNeg) (L 68 ((l5 - l6).toNatClampNeg)) (sh_68 hT) (vp_in_lit (N := 800) c20 (by decide)) rfl rfl dX12_ways_108 ?_
        refine X_ladd (pc := 109) dX12_ways_109 ?_
        obtain ⟨x21, ex21, hf⟩ := bnd_e hf
        refine X_tople ex21 ?_
        obtain ⟨c22, hf⟩ := gd_some hf
        refine X_lastj (pc := 110) (j := (l5.toNatClampNeg)) (sh_69 hT) (vp_in_lit (N := 800) c22 (by decide)) rfl dX12_ways_110 ?_
        refine X_iinc (pc := 111) (i := 6) (q := 6) (v := (l6 + (1 : Int32))) [(6, .int (l6 + (1 : Int32))), (0, .ref (xP G 34)), (1, .int l1), (2, .int l2), (3, .int l3), (4, .int l4), (5, .int l5)] dX12_ways_111 rfl rfl (by decide) rfl ?_
        refine X_goto (pc := 114) 77 dX12_ways_114 (by decide) ?_
        exact X_lvs [1, 2, 3, 4, 5, 6, 0] rfl (ih hf)
theorem u_Md_ways_L77 {S : List xSh} {k32 : Int32 → Int32 → Int32 → (Nat → Nat → Int32) → (Nat → Nat → Int64) → Option (Int64 × (Nat → Nat → Int32) × (Nat → Nat → Int64))} {k58 : Int32 → Int32 → Int32 → Int32 → Int32 → (Nat → Nat → Int32) → (Nat → Nat → Int64) → Option (Int64 × (Nat → Nat → Int32) × (Nat → Nat → Int64))} (hk32 : ∀ {l1 : Int32} {l2 : Int32} {l3 : Int32} {I : Nat → Nat → Int32} {L : Nat → Nat → Int64} {q : (Int64 × (Nat → Nat → Int32) × (Nat → Nat → Int64))}, k32 l1 l2 l3 I L = some q → FR S [] [68, 69] I q.2.1 L q.2.2) (hk58 : ∀ {l1 : Int32} {l2 : Int32} {l3 : Int32} {l4 : Int32} {l5 : Int32} {I : Nat → Nat → Int32} {L : Nat → Nat → Int64} {q : (Int64 × (Nat → Nat → Int32) × (Nat → Nat → Int64))}, k58 l1 l2 l3 l4 l5 I L = some q → FR S [] [68, 69] I q.2.1 L q.2.2) : ∀ (n : Nat) {l1 : Int32} {l2 : Int32} {l3 : Int32} {l4 : Int32} {l5 : Int32} {l6 : Int32} {I : Nat → Nat → Int32} {L : Nat → Nat → Int64} {q : (Int64 × (Nat → Nat → Int32) × (Nat → Nat → Int64))}, f_Md_ways_L77 k32 k58 n l1 l2 l3 l4 l5 l6 I L = some q → FR S [] [68, 69] I q.2.1 L q.2.2 := by
  intro n
  induction n with
  | zero =>
    intro l1 l2 l3 l4 l5 l6 I L q hf
    exact absurd (show none = some q from hf) (by simp)
  | succ n ih =>
    intro l1 l2 l3 l4 l5 l6 I L q hf
    replace hf := (f_Md_ways_L77.eq_2 _ _ _ _ _ _ _ _ _ _ _).symm.trans hf
    by_cases c17 : l4 < l6
    · replace hf := (if_pos c17).symm.trans hf
      exact FR.tr FR.rf (hk58 hf) (by decide) (by decide)
    · replace hf := (if_neg c17).symm.trans hf
      by_cases c18 : l5 < l6
      · replace hf := (if_pos c18).symm.trans hf
        exact FR.tr FR.rf (hk58 hf) (by decide) (by decide)
      · replace hf := (if_neg c18).symm.trans hf
        obtain ⟨c19, hf⟩ := gd_some hf
        obtain ⟨c20, hf⟩ := gd_some hf
        obtain ⟨x21, ex21, hf⟩ := bnd_e hf
        obtain ⟨c22, hf⟩ := gd_some hf
        exact FR.tr (FR.al FR.rf (by decide)) (ih hf) (by decide) (by decide)
def f_Md_ways_L58 (k32 : Int32 → Int32 → Int32 → (Nat → Nat → Int32) → (Nat → Nat → Int64) → Option (Int64 × (Nat → Nat → Int32) × (Nat → Nat → Int64))) : Nat → Int32 → Int32 → Int32 → Int32 → Int32 → (Nat → Nat → Int32) → (Nat → Nat → Int64) → Option (Int64 × (Nat → Nat → Int32) × (Nat → Nat → Int64))
  | 0, _, _, _, _, _, _, _ => none
  | n + 1, l1, l2, l3, l4, l5, I, L => (if (800 : Int32) ≤ l5 then (k32 l1 l2 (l3 + (1 : Int32)) I (uC L 69 (Int32.toNatClampNeg (0 : Int32)) 68 (Int32.toNatClampNeg (0 : Int32)) (Int32.toNatClampNeg (800 : Int32)))) else (if (0 ≤ l5 ∧ l5 < (800 : Int32)) then (f_Md_ways_L77 k32 (f_Md_ways_L58 k32 n) xF l1 l2 l3 l4 l5 (0 : Int32) I (uL L 69 (l5.toNatClampNeg) (0 : Int64))) else none))
set_option maxRecDepth 100000 in
set_option maxHeartbeats 4000000 in
theorem x_Md_ways_L58 {G : xG} {S : List xSh} {Rf : Nat → Nat → Option Nat} (hT : xTM S Rf) {k32 : Int32 → Int32 → Int32 → (Nat → Nat → Int32) → (Nat → Nat → Int64) → Option (Int64 × (Nat → Nat → Int32) × (Nat → Nat → Int64))} (hk32 : ∀ {l1 : Int32} {l2 : Int32} {l3 : Int32} {I : Nat → Nat → Int32} {L : Nat → Nat → Int64} {q : (Int64 × (Nat → Nat → Int32) × (Nat → Nat → Int64))}, k32 l1 l2 l3 I L = some q → X G 3 m_Md_ways 32 [(0, .ref (xP G 34)), (1, .int l1), (2, .int l2), (3, .int l3)] [] (S, I, L, Rf) (some (.long q.1), (S, q.2.1, q.2.2, Rf))) : ∀ (n : Nat) {l1 : Int32} {l2 : Int32} {l3 : Int32} {l4 : Int32} {l5 : Int32} {I : Nat → Nat → Int32} {L : Nat → Nat → Int64} {q : (Int64 × (Nat → Nat → Int32) × (Nat → Nat → Int64))}, f_Md_ways_L58 k32 n l1 l2 l3 l4 l5 I L = some q → X G 3 m_Md_ways 58 [(0, .ref (xP G 34)), (1, .int l1), (2, .int l2), (3, .int l3), (4, .int l4), (5, .int l5)] [] (S, I, L, Rf) (some (.long q.1), (S, q.2.1, q.2.2, Rf)) := by
  intro n
  induction n with
  | zero =>
    intro l1 l2 l3 l4 l5 I L q hf
    exact absurd (show none = some q from hf) (by simp)
  | succ n ih =>
    intro l1 l2 l3 l4 l5 I L q hf
    replace hf := (f_Md_ways_L58.eq_2 _ _ _ _ _ _ _ _ _).symm.trans hf
    refine X_iload (pc := 58) 5 dX12_ways_58 rfl ?_
    refine X_sipush (pc := 60) (800 : Int32) dX12_ways_60 (by decide) ?_
    by_cases c15 : (800 : Int32) ≤ l5
    · replace hf := (if_pos c15).symm.trans hf
      refine X_icmp_ge_t (pc := 63) 123 dX12_ways_63 (by decide) c15 ?_
      refine X_aload_n (pc := 123) (i := 0) 0 dX12_ways_123 rfl rfl ?_
      refine X_getr (pc := 124) (a := 34) (ci := 11) (j := 73) (c := 69) (sh_34 hT) (by decide) k_1301 (rf_34_73 hT) (fun _ h => h) dX12_ways_124 ?_
      refine X_iconst (pc := 127) (0 : Int32) dX12_ways_127 (by decide) ?_
      refine X_aload_n (pc := 128) (i := 0) 0 dX12_ways_128 rfl rfl ?_
      refine X_getr (pc := 129) (a := 34) (ci := 11) (j := 72) (c := 68) (sh_34 hT) (by decide) k_1300 (rf_34_72 hT) (fun _ h => h) dX12_ways_129 ?_
      refine X_iconst (pc := 132) (0 : Int32) dX12_ways_132 (by decide) ?_
      refine X_sipush (pc := 133) (800 : Int32) dX12_ways_133 (by decide) ?_
      refine X_copyl (pc := 136) (sh_69 hT) (sh_68 hT) k_1738 k_1037 k_1036 k_86 (by decide) (by decide) (by decide) (by decide) (by decide) (by decide) (Nat.le_of_ble_eq_true rfl) dX12_ways_136 ?_
      refine X_iinc (pc := 139) (i := 3) (q := 3) (v := (l3 + (1 : Int32))) [(3, .int (l3 + (1 : Int32))), (0, .ref (xP G 34)), (1, .int l1), (2, .int l2), (4, .int l4), (5, .int l5)] dX12_ways_139 rfl rfl (by decide) rfl ?_
      refine X_goto (pc := 142) 32 dX12_ways_142 (by decide) ?_
      exact X_lvs [1, 2, 3, 0] rfl (hk32 hf)
    · replace hf := (if_neg c15).symm.trans hf
      refine X_icmp_ge_f (pc := 63) 123 dX12_ways_63 (by decide) c15 ?_
      refine X_aload_n (pc := 66) (i := 0) 0 dX12_ways_66 rfl rfl ?_
      refine X_getr (pc := 67) (a := 34) (ci := 11) (j := 73) (c := 69) (sh_34 hT) (by decide) k_1301 (rf_34_73 hT) (fun _ h => h) dX12_ways_67 ?_
      refine X_iload (pc := 70) 5 dX12_ways_70 rfl ?_
      refine X_lconst (pc := 72) (0 : Int64) dX12_ways_72 (by decide) ?_
      obtain ⟨c16, hf⟩ := gd_some hf
      refine X_lastj (pc := 73) (j := (l5.toNatClampNeg)) (sh_69 hT) (vp_in_lit (N := 800) c16 (by decide)) rfl dX12_ways_73 ?_
      refine X_iconst (pc := 74) (0 : Int32) dX12_ways_74 (by decide) ?_
      refine X_istore (pc := 75) [(6, .int (0 : Int32)), (0, .ref (xP G 34)), (1, .int l1), (2, .int l2), (3, .int l3), (4, .int l4), (5, .int l5)] dX12_ways_75 (by decide) rfl ?_
      exact X_lvs [1, 2, 3, 4, 5, 6, 0] rfl (x_Md_ways_L77 hT hk32 ih xF hf)
theorem u_Md_ways_L58 {S : List xSh} {k32 : Int32 → Int32 → Int32 → (Nat → Nat → Int32) → (Nat → Nat → Int64) → Option (Int64 × (Nat → Nat → Int32) × (Nat → Nat → Int64))} (hk32 : ∀ {l1 : Int32} {l2 : Int32} {l3 : Int32} {I : Nat → Nat → Int32} {L : Nat → Nat → Int64} {q : (Int64 × (Nat → Nat → Int32) × (Nat → Nat → Int64))}, k32 l1 l2 l3 I L = some q → FR S [] [68, 69] I q.2.1 L q.2.2) : ∀ (n : Nat) {l1 : Int32} {l2 : Int32} {l3 : Int32} {l4 : Int32} {l5 : Int32} {I : Nat → Nat → Int32} {L : Nat → Nat → Int64} {q : (Int64 × (Nat → Nat → Int32) × (Nat → Nat → Int64))}, f_Md_ways_L58 k32 n l1 l2 l3 l4 l5 I L = some q → FR S [] [68, 69] I q.2.1 L q.2.2 := by
  intro n
  induction n with
  | zero =>
    intro l1 l2 l3 l4 l5 I L q hf
    exact absurd (show none = some q from hf) (by simp)
  | succ n ih =>
    intro l1 l2 l3 l4 l5 I L q hf
    replace hf := (f_Md_ways_L58.eq_2 _ _ _ _ _ _ _ _ _).symm.trans hf
    by_cases c15 : (800 : Int32) ≤ l5
    · replace hf := (if_pos c15).symm.trans hf
      exact FR.tr (FR.cl FR.rf (by decide)) (hk32 hf) (by decide) (by decide)
    · replace hf := (if_neg c15).symm.trans hf
      obtain ⟨c16, hf⟩ := gd_some hf
      exact FR.tr (FR.al FR.rf (by decide)) (u_Md_ways_L77 hk32 ih xF hf) (by decide) (by decide)
def f_Md_ways_L32 : Nat → Int32 → Int32 → Int32 → (Nat → Nat → Int32) → (Nat → Nat → Int64) → Option (Int64 × (Nat → Nat → Int32) × (Nat → Nat → Int64))
  | 0, _, _, _, _, _ => none
  | n + 1, l1, l2, l3, I, L => (if (I 34 67) ≤ l3 then ((f_Md_limit (0 : Int32) I L).bind fun q3 => (bnd (Int32.toInt64 q3) fun x5 => (f_Md_ways_L158 xF l1 l2 x5 (0 : Int64) (0 : Int32) I L))) else (if (0 ≤ l3 ∧ l3 < (8 : Int32)) then (if (0 ≤ l3 ∧ l3 < (8 : Int32)) then (bnd ((I 67 (l3.toNatClampNeg)) - (I 66 (l3.toNatClampNeg))) fun x14 => (f_Md_ways_L58 (f_Md_ways_L32 n) xF l1 l2 l3 x14 (0 : Int32) I L)) else none) else none))
set_option maxRecDepth 100000 in
set_option maxHeartbeats 4000000 in
theorem x_Md_ways_L32 {G : xG} {S : List xSh} {Rf : Nat → Nat → Option Nat} (hT : xTM S Rf) : ∀ (n : Nat) {l1 : Int32} {l2 : Int32} {l3 : Int32} {I : Nat → Nat → Int32} {L : Nat → Nat → Int64} {q : (Int64 × (Nat → Nat → Int32) × (Nat → Nat → Int64))}, f_Md_ways_L32 n l1 l2 l3 I L = some q → X G 3 m_Md_ways 32 [(0, .ref (xP G 34)), (1, .int l1), (2, .int l2), (3, .int l3)] [] (S, I, L, Rf) (some (.long q.1), (S, q.2.1, q.2.2, Rf)) := by
  intro n
  induction n with
  | zero =>
    intro l1 l2 l3 I L q hf
    exact absurd (show none = some q from hf) (by simp)
  | succ n ih =>
    intro l1 l2 l3 I L q hf
    replace hf := (f_Md_ways_L32.eq_2 _ _ _ _ _ _).symm.trans hf
    refine X_iload_n (pc := 32) (i := 3) 3 dX12_ways_32 rfl rfl ?_
    refine X_aload_n (pc := 33) (i := 0) 0 dX12_ways_33 rfl rfl ?_
    refine X_get (pc := 34) (a := 34) (ci := 11) (j := 67) (.int (I 34 67)) (sh_34 hT) (by decide) k_1295 rfl dX12_ways_34 ?_
    by_cases c2 : (I 34 67) ≤ l3
    · replace hf := (if_pos c2).symm.trans hf
      refine X_icmp_ge_t (pc := 37) 145 dX12_ways_37 (by decide) c2 ?_
      refine X_aload_n (pc := 145) (i := 0) 0 dX12_ways_145 rfl rfl ?_
      refine X_iconst (pc := 146) (0 : Int32) dX12_ways_146 (by decide) ?_
      obtain ⟨q3, c4, hf⟩ := bd_some hf
      refine X_invV_i (pc := 147) (c_Md_limit hT c4) ok_Md_limit (ci := 11) (sh_34 hT) k_1766 k_1758 k_1759 nd_8 (by decide) rfl (Nat.le_of_ble_eq_true rfl) dX12_ways_147 ?_
      refine X_i2l (pc := 150) dX12_ways_150 ?_
      obtain ⟨x5, ex5, hf⟩ := bnd_e hf
      refine X_tople ex5 ?_
      refine X_lstore_n (pc := 151) (i := 3) [(3, .long x5), (0, .ref (xP G 34)), (1, .int l1), (2, .int l2)] dX12_ways_151 rfl (by decide) rfl ?_
      refine X_lconst (pc := 152) (0 : Int64) dX12_ways_152 (by decide) ?_
      refine X_lstore (pc := 153) [(5, .long (0 : Int64)), (3, .long x5), (0, .ref (xP G 34)), (1, .int l1), (2, .int l2)] dX12_ways_153 (by decide) rfl ?_
      refine X_iconst (pc := 155) (0 : Int32) dX12_ways_155 (by decide) ?_
      refine X_istore (pc := 156) [(7, .int (0 : Int32)), (5, .long (0 : Int64)), (3, .long x5), (0, .ref (xP G 34)), (1, .int l1), (2, .int l2)] dX12_ways_156 (by decide) rfl ?_
      exact X_lvs [3, 4, 5, 2, 1, 0] rfl (x_Md_ways_L158 hT xF hf)
    · replace hf := (if_neg c2).symm.trans hf
      refine X_icmp_ge_f (pc := 37) 145 dX12_ways_37 (by decide) c2 ?_
      refine X_aload_n (pc := 40) (i := 0) 0 dX12_ways_40 rfl rfl ?_
      refine X_getr (pc := 41) (a := 34) (ci := 11) (j := 71) (c := 67) (sh_34 hT) (by decide) k_1299 (rf_34_71 hT) (fun _ h => h) dX12_ways_41 ?_
      refine X_iload_n (pc := 44) (i := 3) 3 dX12_ways_44 rfl rfl ?_
      obtain ⟨c12, hf⟩ := gd_some hf
      refine X_ialdj (pc := 45) (j := l3.toNatClampNeg) (I 67 (l3.toNatClampNeg)) (sh_67 hT) (vp_in_lit (N := 8) c12 (by decide)) rfl rfl dX12_ways_45 ?_
      refine X_aload_n (pc := 46) (i := 0) 0 dX12_ways_46 rfl rfl ?_
      refine X_getr (pc := 47) (a := 34) (ci := 11) (j := 70) (c := 66) (sh_34 hT) (by decide) k_1298 (rf_34_70 hT) (fun _ h => h) dX12_ways_47 ?_
      refine X_iload_n (pc := 50) (i := 3) 3 dX12_ways_50 rfl rfl ?_
      obtain ⟨c13, hf⟩ := gd_some hf
      refine X_ialdj (pc := 51) (j := l3.toNatClampNeg) (I 66 (l3.toNatClampNeg)) (sh_66 hT) (vp_in_lit (N := 8) c13 (by decide)) rfl rfl dX12_ways_51 ?_
      refine X_isub (pc := 52) dX12_ways_52 ?_
      obtain ⟨x14, ex14, hf⟩ := bnd_e hf
      refine X_tope ex14 ?_
      refine X_istore (pc := 53) [(4, .int x14), (0, .ref (xP G 34)), (1, .int l1), (2, .int l2), (3, .int l3)] dX12_ways_53 (by decide) rfl ?_
      refine X_iconst (pc := 55) (0 : Int32) dX12_ways_55 (by decide) ?_
      refine X_istore (pc := 56) [(5, .int (0 : Int32)), (4, .int x14), (0, .ref (xP G 34)), (1, .int l1), (2, .int l2), (3, .int l3)] dX12_ways_56 (by decide) rfl ?_
      exact X_lvs [2, 3, 4, 5, 1, 0] rfl (x_Md_ways_L58 hT ih xF hf)
theorem u_Md_ways_L32 {S : List xSh} : ∀ (n : Nat) {l1 : Int32} {l2 : Int32} {l3 : Int32} {I : Nat → Nat → Int32} {L : Nat → Nat → Int64} {q : (Int64 × (Nat → Nat → Int32) × (Nat → Nat → Int64))}, f_Md_ways_L32 n l1 l2 l3 I L = some q → FR S [] [68, 69] I q.2.1 L q.2.2 := by
  intro n
  induction n with
  | zero =>
    intro l1 l2 l3 I L q hf
    exact absurd (show none = some q from hf) (by simp)
  | succ n ih =>
    intro l1 l2 l3 I L q hf
    replace hf := (f_Md_ways_L32.eq_2 _ _ _ _ _ _).symm.trans hf
    by_cases c2 : (I 34 67) ≤ l3
    · replace hf := (if_pos c2).symm.trans hf
      obtain ⟨q3, c4, hf⟩ := bd_some hf
      obtain ⟨x5, ex5, hf⟩ := bnd_e hf
      exact FR.tr FR.rf (u_Md_ways_L158 xF hf) (by decide) (by decide)
    · replace hf := (if_neg c2).symm.trans hf
      obtain ⟨c12, hf⟩ := gd_some hf
      obtain ⟨c13, hf⟩ := gd_some hf
      obtain ⟨x14, ex14, hf⟩ := bnd_e hf
      exact FR.tr FR.rf (u_Md_ways_L58 ih xF hf) (by decide) (by decide)
def f_Md_ways_L2 : Nat → Int32 → Int32 → Int32 → (Nat → Nat → Int32) → (Nat → Nat → Int64) → Option (Int64 × (Nat → Nat → Int32) × (Nat → Nat → Int64))
  | 0, _, _, _, _, _ => none
  | n + 1, l1, l2, l3, I, L => (if (800 : Int32) ≤ l3 then (f_Md_ways_L32 xF l1 l2 (0 : Int32) I L) else (if l3 = (0 : Int32) then (if (0 ≤ l3 ∧ l3 < (800 : Int32)) then (f_Md_ways_L2 n l1 l2 (l3 + (1 : Int32)) I (uL L 68 (l3.toNatClampNeg) (1 : Int64))) else none) else (if (0 ≤ l3 ∧ l3 < (800 : Int32)) then (f_Md_ways_L2 n l1 l2 (l3 + (1 : Int32)) I (uL L 68 (l3.toNatClampNeg) (0 : Int64))) else none)))
set_option maxRecDepth 100000 in
set_option maxHeartbeats 4000000 in
theorem x_Md_ways_L2 {G : xG} {S : List xSh} {Rf : Nat → Nat → Option Nat} (hT : xTM S Rf) : ∀ (n : Nat) {l1 : Int32} {l2 : Int32} {l3 : Int32} {I : Nat → Nat → Int32} {L : Nat → Nat → Int64} {q : (Int64 × (Nat → Nat → Int32) × (Nat → Nat → Int64))}, f_Md_ways_L2 n l1 l2 l3 I L = some q → X G 3 m_Md_ways 2 [(0, .ref (xP G 34)), (1, .int l1), (2, .int l2), (3, .int l3)] [] (S, I, L, Rf) (some (.long q.1), (S, q.2.1, q.2.2, Rf)) := by
  intro n
  induction n with
  | zero =>
    intro l1 l2 l3 I L q hf
    exact absurd (show none = some q from hf) (by simp)
  | succ n ih =>
    intro l1 l2 l3 I L q hf
    replace hf := (f_Md_ways_L2.eq_2 _ _ _ _ _ _).symm.trans hf
    refine X_iload_n (pc := 2) (i := 3) 3 dX12_ways_2 rfl rfl ?_
    refine X_sipush (pc := 3) (800 : Int32) dX12_ways_3 (by decide) ?_
    by_cases c1 : (800 : Int32) ≤ l3
    · replace hf := (if_pos c1).symm.trans hf
      refine X_icmp_ge_t (pc := 6) 30 dX12_ways_6 (by decide) c1 ?_
      refine X_iconst (pc := 30) (0 : Int32) dX12_ways_30 (by decide) ?_
      refine X_istore_n (pc := 31) (i := 3) [(3, .int (0 : Int32)), (0, .ref (xP G 34)), (1, .int l1), (2, .int l2)] dX12_ways_31 rfl (by decide) rfl ?_
      exact X_lvs [1, 2, 3, 0] rfl (x_Md_ways_L32 hT xF hf)
    · replace hf := (if_neg c1).symm.trans hf
      refine X_icmp_ge_f (pc := 6) 30 dX12_ways_6 (by decide) c1 ?_
      refine X_aload_n (pc := 9) (i := 0) 0 dX12_ways_9 rfl rfl ?_
      refine X_getr (pc := 10) (a := 34) (ci := 11) (j := 72) (c := 68) (sh_34 hT) (by decide) k_1300 (rf_34_72 hT) (fun _ h => h) dX12_ways_10 ?_
      refine X_iload_n (pc := 13) (i := 3) 3 dX12_ways_13 rfl rfl ?_
      refine X_iload_n (pc := 14) (i := 3) 3 dX12_ways_14 rfl rfl ?_
      by_cases c23 : l3 = (0 : Int32)
      · replace hf := (if_pos c23).symm.trans hf
        refine X_if_ne_f (pc := 15) 22 dX12_ways_15 (by decide) c23 ?_
        refine X_lconst (pc := 18) (1 : Int64) dX12_ways_18 (by decide) ?_
        refine X_goto (pc := 19) 23 dX12_ways_19 (by decide) ?_
        obtain ⟨c24, hf⟩ := gd_some hf
        refine X_lastj (pc := 23) (j := (l3.toNatClampNeg)) (sh_68 hT) (vp_in_lit (N := 800) c24 (by decide)) rfl dX12_ways_23 ?_
        refine X_iinc (pc := 24) (i := 3) (q := 3) (v := (l3 + (1 : Int32))) [(3, .int (l3 + (1 : Int32))), (0, .ref (xP G 34)), (1, .int l1), (2, .int l2)] dX12_ways_24 rfl rfl (by decide) rfl ?_
        refine X_goto (pc := 27) 2 dX12_ways_27 (by decide) ?_
        exact X_lvs [1, 2, 3, 0] rfl (ih hf)
      · replace hf := (if_neg c23).symm.trans hf
        refine X_if_ne_t (pc := 15) 22 dX12_ways_15 (by decide) c23 ?_
        refine X_lconst (pc := 22) (0 : Int64) dX12_ways_22 (by decide) ?_
        obtain ⟨c25, hf⟩ := gd_some hf
        refine X_lastj (pc := 23) (j := (l3.toNatClampNeg)) (sh_68 hT) (vp_in_lit (N := 800) c25 (by decide)) rfl dX12_ways_23 ?_
        refine X_iinc (pc := 24) (i := 3) (q := 3) (v := (l3 + (1 : Int32))) [(3, .int (l3 + (1 : Int32))), (0, .ref (xP G 34)), (1, .int l1), (2, .int l2)] dX12_ways_24 rfl rfl (by decide) rfl ?_
        refine X_goto (pc := 27) 2 dX12_ways_27 (by decide) ?_
        exact X_lvs [1, 2, 3, 0] rfl (ih hf)
theorem u_Md_ways_L2 {S : List xSh} : ∀ (n : Nat) {l1 : Int32} {l2 : Int32} {l3 : Int32} {I : Nat → Nat → Int32} {L : Nat → Nat → Int64} {q : (Int64 × (Nat → Nat → Int32) × (Nat → Nat → Int64))}, f_Md_ways_L2 n l1 l2 l3 I L = some q → FR S [] [68, 69] I q.2.1 L q.2.2 := by
  intro n
  induction n with
  | zero =>
    intro l1 l2 l3 I L q hf
    exact absurd (show none = some q from hf) (by simp)
  | succ n ih =>
    intro l1 l2 l3 I L q hf
    replace hf := (f_Md_ways_L2.eq_2 _ _ _ _ _ _).symm.trans hf
    by_cases c1 : (800 : Int32) ≤ l3
    · replace hf := (if_pos c1).symm.trans hf
      exact FR.tr FR.rf (u_Md_ways_L32 xF hf) (by decide) (by decide)
    · replace hf := (if_neg c1).symm.trans hf
      by_cases c23 : l3 = (0 : Int32)
      · replace hf := (if_pos c23).symm.trans hf
        obtain ⟨c24, hf⟩ := gd_some hf
        exact FR.tr (FR.al FR.rf (by decide)) (ih hf) (by decide) (by decide)
      · replace hf := (if_neg c23).symm.trans hf
        obtain ⟨c25, hf⟩ := gd_some hf
        exact FR.tr (FR.al FR.rf (by decide)) (ih hf) (by decide) (by decide)
def f_Md_ways (a0 : Int32) (a1 : Int32) (I : Nat → Nat → Int32) (L : Nat → Nat → Int64) : Option (Int64 × (Nat → Nat → Int32) × (Nat → Nat → Int64)) := (f_Md_ways_L2 xF a0 a1 (0 : Int32) I L)
set_option maxRecDepth 100000 in
set_option maxHeartbeats 4000000 in
theorem c_Md_ways {G : xG} {S : List xSh} {Rf : Nat → Nat → Option Nat} (hT : xTM S Rf) {a0 : Int32} {a1 : Int32} {I : Nat → Nat → Int32} {L : Nat → Nat → Int64} {q : (Int64 × (Nat → Nat → Int32) × (Nat → Nat → Int64))} (hf : f_Md_ways a0 a1 I L = some q) : CT G 3 m_Md_ways [.ref (xP G 34), .int a0, .int a1] (S, I, L, Rf) (some (.long q.1), (S, q.2.1, q.2.2, Rf)) := by
  refine CT.of (by decide +kernel) (Nat.le_of_ble_eq_true rfl) ?_
  show X G 3 m_Md_ways 0 [(0, .ref (xP G 34)), (1, .int a0), (2, .int a1)] [] (S, I, L, Rf) (some (.long q.1), (S, q.2.1, q.2.2, Rf))
  replace hf := (f_Md_ways.eq_1 _ _ _ _).symm.trans hf
  refine X_iconst (pc := 0) (0 : Int32) dX12_ways_0 (by decide) ?_
  refine X_istore_n (pc := 1) (i := 3) [(3, .int (0 : Int32)), (0, .ref (xP G 34)), (1, .int a0), (2, .int a1)] dX12_ways_1 rfl (by decide) rfl ?_
  exact X_lvs [1, 2, 3, 0] rfl (x_Md_ways_L2 hT xF hf)
theorem u_Md_ways {S : List xSh} {a0 : Int32} {a1 : Int32} {I : Nat → Nat → Int32} {L : Nat → Nat → Int64} {q : (Int64 × (Nat → Nat → Int32) × (Nat → Nat → Int64))} (hf : f_Md_ways a0 a1 I L = some q) : FR S [] [68, 69] I q.2.1 L q.2.2 := by
  replace hf := (f_Md_ways.eq_1 _ _ _ _).symm.trans hf
  exact FR.tr FR.rf (u_Md_ways_L2 xF hf) (by decide) (by decide)
theorem dX12_rate_0 : decode cX12_rate 0 = .ok (.iload_n 1, 1) := by decide +kernel
theorem dX12_rate_1 : decode cX12_rate 1 = .ok (.i2l, 1) := by decide +kernel
theorem dX12_rate_2 : decode cX12_rate 2 = .ok (.lconst 1, 1) := by decide +kernel
theorem dX12_rate_3 : decode cX12_rate 3 = .ok (.ldc2_w 484, 3) := by decide +kernel
theorem dX12_rate_6 : decode cX12_rate 6 = .ok (.invokestatic 140, 3) := by decide +kernel
theorem dX12_rate_9 : decode cX12_rate 9 = .ok (.ifCond .eq 17, 3) := by decide +kernel
theorem dX12_rate_12 : decode cX12_rate 12 = .ok (.iload_n 2, 1) := by decide +kernel
theorem dX12_rate_13 : decode cX12_rate 13 = .ok (.i2l, 1) := by decide +kernel
theorem dX12_rate_14 : decode cX12_rate 14 = .ok (.ldc2_w 486, 3) := by decide +kernel
theorem dX12_rate_17 : decode cX12_rate 17 = .ok (.ldc2_w 243, 3) := by decide +kernel
theorem dX12_rate_20 : decode cX12_rate 20 = .ok (.invokestatic 140, 3) := by decide +kernel
theorem dX12_rate_23 : decode cX12_rate 23 = .ok (.ifCond .ne 5, 3) := by decide +kernel
theorem dX12_rate_26 : decode cX12_rate 26 = .ok (.iconst (-1), 1) := by decide +kernel
theorem dX12_rate_27 : decode cX12_rate 27 = .ok (.ireturn, 1) := by decide +kernel
theorem dX12_rate_28 : decode cX12_rate 28 = .ok (.aload_n 0, 1) := by decide +kernel
theorem dX12_rate_29 : decode cX12_rate 29 = .ok (.getfield 117, 3) := by decide +kernel
theorem dX12_rate_32 : decode cX12_rate 32 = .ok (.iload_n 1, 1) := by decide +kernel
theorem dX12_rate_33 : decode cX12_rate 33 = .ok (.iconst 1, 1) := by decide +kernel
theorem dX12_rate_34 : decode cX12_rate 34 = .ok (.isub, 1) := by decide +kernel
theorem dX12_rate_35 : decode cX12_rate 35 = .ok (.iaload, 1) := by decide +kernel
theorem dX12_rate_36 : decode cX12_rate 36 = .ok (.istore_n 3, 1) := by decide +kernel
theorem dX12_rate_37 : decode cX12_rate 37 = .ok (.aload_n 0, 1) := by decide +kernel
theorem dX12_rate_38 : decode cX12_rate 38 = .ok (.getfield 117, 3) := by decide +kernel
theorem dX12_rate_41 : decode cX12_rate 41 = .ok (.iload_n 1, 1) := by decide +kernel
theorem dX12_rate_42 : decode cX12_rate 42 = .ok (.iconst 1, 1) := by decide +kernel
theorem dX12_rate_43 : decode cX12_rate 43 = .ok (.isub, 1) := by decide +kernel
theorem dX12_rate_44 : decode cX12_rate 44 = .ok (.iload_n 2, 1) := by decide +kernel
theorem dX12_rate_45 : decode cX12_rate 45 = .ok (.iastore, 1) := by decide +kernel
theorem dX12_rate_46 : decode cX12_rate 46 = .ok (.iload_n 3, 1) := by decide +kernel
theorem dX12_rate_47 : decode cX12_rate 47 = .ok (.ireturn, 1) := by decide +kernel
def f_Md_rate (a0 : Int32) (a1 : Int32) (I : Nat → Nat → Int32) (L : Nat → Nat → Int64) : Option (Int32 × (Nat → Nat → Int32) × (Nat → Nat → Int64)) := (bnd (f_Md_within (Int32.toInt64 a0) (1 : Int64) (15 : Int64)) fun x1 => (if x1 = (0 : Int32) then (some ((-1 : Int32), I, L)) else (bnd (f_Md_within (Int32.toInt64 a1) (-1000 : Int64) (1000 : Int64)) fun x3 => (if x3 = (0 : Int32) then (some ((-1 : Int32), I, L)) else (if (0 ≤ (a0 - (1 : Int32)) ∧ (a0 - (1 : Int32)) < (15 : Int32)) then (bnd (I 70 ((a0 - (1 : Int32)).toNatClampNeg)) fun x6 => (if (0 ≤ (a0 - (1 : Int32)) ∧ (a0 - (1 : Int32)) < (15 : Int32)) then (some (x6, (uI I 70 ((a0 - (1 : Int32)).toNatClampNeg) a1), L)) else none)) else none)))))
set_option maxRecDepth 100000 in
set_option maxHeartbeats 4000000 in
theorem c_Md_rate {G : xG} {S : List xSh} {Rf : Nat → Nat → Option Nat} (hT : xTM S Rf) {a0 : Int32} {a1 : Int32} {I : Nat → Nat → Int32} {L : Nat → Nat → Int64} {q : (Int32 × (Nat → Nat → Int32) × (Nat → Nat → Int64))} (hf : f_Md_rate a0 a1 I L = some q) : CT G 2 m_Md_rate [.ref (xP G 34), .int a0, .int a1] (S, I, L, Rf) (some (.int q.1), (S, q.2.1, q.2.2, Rf)) := by
  refine CT.of (by decide +kernel) (Nat.le_of_ble_eq_true rfl) ?_
  show X G 2 m_Md_rate 0 [(0, .ref (xP G 34)), (1, .int a0), (2, .int a1)] [] (S, I, L, Rf) (some (.int q.1), (S, q.2.1, q.2.2, Rf))
  replace hf := (f_Md_rate.eq_1 _ _ _ _).symm.trans hf
  refine X_iload_n (pc := 0) (i := 1) 1 dX12_rate_0 rfl rfl ?_
  refine X_i2l (pc := 1) dX12_rate_1 ?_
  refine X_lconst (pc := 2) (1 : Int64) dX12_rate_2 (by decide) ?_
  refine X_ldc2 (pc := 3) (15 : Int64) k_1771 dX12_rate_3 ?_
  refine X_invS_i (pc := 6) (c_Md_within hT rfl) ok_Md_within k_1482 k_1483 nd_33 (by decide) rfl (Nat.le_of_ble_eq_true rfl) dX12_rate_6 ?_
  obtain ⟨x1, ex1, hf⟩ := bnd_e hf
  refine X_tope ex1 ?_
  by_cases c2 : x1 = (0 : Int32)
  · replace hf := (if_pos c2).symm.trans hf
    refine X_if_eq_t (pc := 9) 26 dX12_rate_9 (by decide) c2 ?_
    refine X_iconst (pc := 26) (-1 : Int32) dX12_rate_26 (by decide) ?_
    cases hf
    exact X_ireturn (pc := 27) rfl dX12_rate_27
  · replace hf := (if_neg c2).symm.trans hf
    refine X_if_eq_f (pc := 9) 26 dX12_rate_9 (by decide) c2 ?_
    refine X_iload_n (pc := 12) (i := 2) 2 dX12_rate_12 rfl rfl ?_
    refine X_i2l (pc := 13) dX12_rate_13 ?_
    refine X_ldc2 (pc := 14) (-1000 : Int64) k_1772 dX12_rate_14 ?_
    refine X_ldc2 (pc := 17) (1000 : Int64) k_1504 dX12_rate_17 ?_
    refine X_invS_i (pc := 20) (c_Md_within hT rfl) ok_Md_within k_1482 k_1483 nd_33 (by decide) rfl (Nat.le_of_ble_eq_true rfl) dX12_rate_20 ?_
    obtain ⟨x3, ex3, hf⟩ := bnd_e hf
    refine X_tope ex3 ?_
    by_cases c4 : x3 = (0 : Int32)
    · replace hf := (if_pos c4).symm.trans hf
      refine X_if_ne_f (pc := 23) 28 dX12_rate_23 (by decide) c4 ?_
      refine X_iconst (pc := 26) (-1 : Int32) dX12_rate_26 (by decide) ?_
      cases hf
      exact X_ireturn (pc := 27) rfl dX12_rate_27
    · replace hf := (if_neg c4).symm.trans hf
      refine X_if_ne_t (pc := 23) 28 dX12_rate_23 (by decide) c4 ?_
      refine X_aload_n (pc := 28) (i := 0) 0 dX12_rate_28 rfl rfl ?_
      refine X_getr (pc := 29) (a := 34) (ci := 11) (j := 74) (c := 70) (sh_34 hT) (by decide) k_1302 (rf_34_74 hT) (fun _ h => h) dX12_rate_29 ?_
      refine X_iload_n (pc := 32) (i := 1) 1 dX12_rate_32 rfl rfl ?_
      refine X_iconst (pc := 33) (1 : Int32) dX12_rate_33 (by decide) ?_
      refine X_isub (pc := 34) dX12_rate_34 ?_
      obtain ⟨c5, hf⟩ := gd_some hf
      refine X_ialdj (pc := 35) (j := (a0 - (1 : Int32)).toNatClampNeg) (I 70 ((a0 - (1 : Int32)).toNatClampNeg)) (sh_70 hT) (vp_in_lit (N := 15) c5 (by decide)) rfl rfl dX12_rate_35 ?_
      obtain ⟨x6, ex6, hf⟩ := bnd_e hf
      refine X_tope ex6 ?_
      refine X_istore_n (pc := 36) (i := 3) [(3, .int x6), (0, .ref (xP G 34)), (1, .int a0), (2, .int a1)] dX12_rate_36 rfl (by decide) rfl ?_
      refine X_aload_n (pc := 37) (i := 0) 1 dX12_rate_37 rfl rfl ?_
      refine X_getr (pc := 38) (a := 34) (ci := 11) (j := 74) (c := 70) (sh_34 hT) (by decide) k_1302 (rf_34_74 hT) (fun _ h => h) dX12_rate_38 ?_
      refine X_iload_n (pc := 41) (i := 1) 2 dX12_rate_41 rfl rfl ?_
      refine X_iconst (pc := 42) (1 : Int32) dX12_rate_42 (by decide) ?_
      refine X_isub (pc := 43) dX12_rate_43 ?_
      refine X_iload_n (pc := 44) (i := 2) 3 dX12_rate_44 rfl rfl ?_
      obtain ⟨c7, hf⟩ := gd_some hf
      refine X_iastj (pc := 45) (j := ((a0 - (1 : Int32)).toNatClampNeg)) (sh_70 hT) (vp_in_lit (N := 15) c7 (by decide)) rfl dX12_rate_45 ?_
      refine X_iload_n (pc := 46) (i := 3) 0 dX12_rate_46 rfl rfl ?_
      cases hf
      exact X_ireturn (pc := 47) rfl dX12_rate_47
theorem u_Md_rate {S : List xSh} {a0 : Int32} {a1 : Int32} {I : Nat → Nat → Int32} {L : Nat → Nat → Int64} {q : (Int32 × (Nat → Nat → Int32) × (Nat → Nat → Int64))} (hf : f_Md_rate a0 a1 I L = some q) : FR S [70] [] I q.2.1 L q.2.2 := by
  replace hf := (f_Md_rate.eq_1 _ _ _ _).symm.trans hf
  obtain ⟨x1, ex1, hf⟩ := bnd_e hf
  by_cases c2 : x1 = (0 : Int32)
  · replace hf := (if_pos c2).symm.trans hf
    cases hf
    exact FR.rf
  · replace hf := (if_neg c2).symm.trans hf
    obtain ⟨x3, ex3, hf⟩ := bnd_e hf
    by_cases c4 : x3 = (0 : Int32)
    · replace hf := (if_pos c4).symm.trans hf
      cases hf
      exact FR.rf
    · replace hf := (if_neg c4).symm.trans hf
      obtain ⟨c5, hf⟩ := gd_some hf
      obtain ⟨x6, ex6, hf⟩ := bnd_e hf
      obtain ⟨c7, hf⟩ := gd_some hf
      cases hf
      exact (FR.ai FR.rf (by decide))
theorem dX12_verdict_0 : decode cX12_verdict 0 = .ok (.iconst 0, 1) := by decide +kernel
theorem dX12_verdict_1 : decode cX12_verdict 1 = .ok (.istore_n 2, 1) := by decide +kernel
theorem dX12_verdict_2 : decode cX12_verdict 2 = .ok (.iconst 0, 1) := by decide +kernel
theorem dX12_verdict_3 : decode cX12_verdict 3 = .ok (.istore_n 3, 1) := by decide +kernel
theorem dX12_verdict_4 : decode cX12_verdict 4 = .ok (.iconst 0, 1) := by decide +kernel
theorem dX12_verdict_5 : decode cX12_verdict 5 = .ok (.istore 4, 2) := by decide +kernel
theorem dX12_verdict_7 : decode cX12_verdict 7 = .ok (.iconst 0, 1) := by decide +kernel
theorem dX12_verdict_8 : decode cX12_verdict 8 = .ok (.istore 5, 2) := by decide +kernel
theorem dX12_verdict_10 : decode cX12_verdict 10 = .ok (.iconst 0, 1) := by decide +kernel
theorem dX12_verdict_11 : decode cX12_verdict 11 = .ok (.istore 6, 2) := by decide +kernel
theorem dX12_verdict_13 : decode cX12_verdict 13 = .ok (.iload 6, 2) := by decide +kernel
theorem dX12_verdict_15 : decode cX12_verdict 15 = .ok (.bipush 10, 2) := by decide +kernel
theorem dX12_verdict_17 : decode cX12_verdict 17 = .ok (.if_icmp .ge 19, 3) := by decide +kernel
theorem dX12_verdict_20 : decode cX12_verdict 20 = .ok (.iload_n 2, 1) := by decide +kernel
theorem dX12_verdict_21 : decode cX12_verdict 21 = .ok (.aload_n 0, 1) := by decide +kernel
theorem dX12_verdict_22 : decode cX12_verdict 22 = .ok (.getfield 117, 3) := by decide +kernel
theorem dX12_verdict_25 : decode cX12_verdict 25 = .ok (.iload 6, 2) := by decide +kernel
theorem dX12_verdict_27 : decode cX12_verdict 27 = .ok (.iaload, 1) := by decide +kernel
theorem dX12_verdict_28 : decode cX12_verdict 28 = .ok (.iadd, 1) := by decide +kernel
theorem dX12_verdict_29 : decode cX12_verdict 29 = .ok (.istore_n 2, 1) := by decide +kernel
theorem dX12_verdict_30 : decode cX12_verdict 30 = .ok (.iinc 6 1, 3) := by decide +kernel
theorem dX12_verdict_33 : decode cX12_verdict 33 = .ok (.goto (-20), 3) := by decide +kernel
theorem dX12_verdict_36 : decode cX12_verdict 36 = .ok (.iconst 0, 1) := by decide +kernel
theorem dX12_verdict_37 : decode cX12_verdict 37 = .ok (.istore 6, 2) := by decide +kernel
theorem dX12_verdict_39 : decode cX12_verdict 39 = .ok (.iload 6, 2) := by decide +kernel
theorem dX12_verdict_41 : decode cX12_verdict 41 = .ok (.bipush 10, 2) := by decide +kernel
theorem dX12_verdict_43 : decode cX12_verdict 43 = .ok (.if_icmp .ge 45, 3) := by decide +kernel
theorem dX12_verdict_46 : decode cX12_verdict 46 = .ok (.aload_n 0, 1) := by decide +kernel
theorem dX12_verdict_47 : decode cX12_verdict 47 = .ok (.getfield 117, 3) := by decide +kernel
theorem dX12_verdict_50 : decode cX12_verdict 50 = .ok (.iload 6, 2) := by decide +kernel
theorem dX12_verdict_52 : decode cX12_verdict 52 = .ok (.iaload, 1) := by decide +kernel
theorem dX12_verdict_53 : decode cX12_verdict 53 = .ok (.aload_n 0, 1) := by decide +kernel
theorem dX12_verdict_54 : decode cX12_verdict 54 = .ok (.getfield 117, 3) := by decide +kernel
theorem dX12_verdict_57 : decode cX12_verdict 57 = .ok (.iload 6, 2) := by decide +kernel
theorem dX12_verdict_59 : decode cX12_verdict 59 = .ok (.iconst 1, 1) := by decide +kernel
theorem dX12_verdict_60 : decode cX12_verdict 60 = .ok (.iadd, 1) := by decide +kernel
theorem dX12_verdict_61 : decode cX12_verdict 61 = .ok (.iaload, 1) := by decide +kernel
theorem dX12_verdict_62 : decode cX12_verdict 62 = .ok (.isub, 1) := by decide +kernel
theorem dX12_verdict_63 : decode cX12_verdict 63 = .ok (.invokestatic 350, 3) := by decide +kernel
theorem dX12_verdict_66 : decode cX12_verdict 66 = .ok (.istore 7, 2) := by decide +kernel
theorem dX12_verdict_68 : decode cX12_verdict 68 = .ok (.iload_n 3, 1) := by decide +kernel
theorem dX12_verdict_69 : decode cX12_verdict 69 = .ok (.iload 7, 2) := by decide +kernel
theorem dX12_verdict_71 : decode cX12_verdict 71 = .ok (.iadd, 1) := by decide +kernel
theorem dX12_verdict_72 : decode cX12_verdict 72 = .ok (.istore_n 3, 1) := by decide +kernel
theorem dX12_verdict_73 : decode cX12_verdict 73 = .ok (.iload 4, 2) := by decide +kernel
theorem dX12_verdict_75 : decode cX12_verdict 75 = .ok (.iload 7, 2) := by decide +kernel
theorem dX12_verdict_77 : decode cX12_verdict 77 = .ok (.invokestatic 346, 3) := by decide +kernel
theorem dX12_verdict_80 : decode cX12_verdict 80 = .ok (.istore 4, 2) := by decide +kernel
theorem dX12_verdict_82 : decode cX12_verdict 82 = .ok (.iinc 6 2, 3) := by decide +kernel
theorem dX12_verdict_85 : decode cX12_verdict 85 = .ok (.goto (-46), 3) := by decide +kernel
theorem dX12_verdict_88 : decode cX12_verdict 88 = .ok (.iconst 0, 1) := by decide +kernel
theorem dX12_verdict_89 : decode cX12_verdict 89 = .ok (.istore 6, 2) := by decide +kernel
theorem dX12_verdict_91 : decode cX12_verdict 91 = .ok (.iload 6, 2) := by decide +kernel
theorem dX12_verdict_93 : decode cX12_verdict 93 = .ok (.bipush 10, 2) := by decide +kernel
theorem dX12_verdict_95 : decode cX12_verdict 95 = .ok (.if_icmp .ge 31, 3) := by decide +kernel
theorem dX12_verdict_98 : decode cX12_verdict 98 = .ok (.iload 5, 2) := by decide +kernel
theorem dX12_verdict_100 : decode cX12_verdict 100 = .ok (.bipush 10, 2) := by decide +kernel
theorem dX12_verdict_102 : decode cX12_verdict 102 = .ok (.aload_n 0, 1) := by decide +kernel
theorem dX12_verdict_103 : decode cX12_verdict 103 = .ok (.getfield 117, 3) := by decide +kernel
theorem dX12_verdict_106 : decode cX12_verdict 106 = .ok (.iload 6, 2) := by decide +kernel
theorem dX12_verdict_108 : decode cX12_verdict 108 = .ok (.iaload, 1) := by decide +kernel
theorem dX12_verdict_109 : decode cX12_verdict 109 = .ok (.imul, 1) := by decide +kernel
theorem dX12_verdict_110 : decode cX12_verdict 110 = .ok (.iload_n 2, 1) := by decide +kernel
theorem dX12_verdict_111 : decode cX12_verdict 111 = .ok (.isub, 1) := by decide +kernel
theorem dX12_verdict_112 : decode cX12_verdict 112 = .ok (.invokestatic 350, 3) := by decide +kernel
theorem dX12_verdict_115 : decode cX12_verdict 115 = .ok (.invokestatic 346, 3) := by decide +kernel
theorem dX12_verdict_118 : decode cX12_verdict 118 = .ok (.istore 5, 2) := by decide +kernel
theorem dX12_verdict_120 : decode cX12_verdict 120 = .ok (.iinc 6 1, 3) := by decide +kernel
theorem dX12_verdict_123 : decode cX12_verdict 123 = .ok (.goto (-32), 3) := by decide +kernel
theorem dX12_verdict_126 : decode cX12_verdict 126 = .ok (.aload_n 0, 1) := by decide +kernel
theorem dX12_verdict_127 : decode cX12_verdict 127 = .ok (.getfield 117, 3) := by decide +kernel
theorem dX12_verdict_130 : decode cX12_verdict 130 = .ok (.iconst 0, 1) := by decide +kernel
theorem dX12_verdict_131 : decode cX12_verdict 131 = .ok (.iaload, 1) := by decide +kernel
theorem dX12_verdict_132 : decode cX12_verdict 132 = .ok (.aload_n 0, 1) := by decide +kernel
theorem dX12_verdict_133 : decode cX12_verdict 133 = .ok (.getfield 117, 3) := by decide +kernel
theorem dX12_verdict_136 : decode cX12_verdict 136 = .ok (.iconst 1, 1) := by decide +kernel
theorem dX12_verdict_137 : decode cX12_verdict 137 = .ok (.iaload, 1) := by decide +kernel
theorem dX12_verdict_138 : decode cX12_verdict 138 = .ok (.iadd, 1) := by decide +kernel
theorem dX12_verdict_139 : decode cX12_verdict 139 = .ok (.aload_n 0, 1) := by decide +kernel
theorem dX12_verdict_140 : decode cX12_verdict 140 = .ok (.getfield 117, 3) := by decide +kernel
theorem dX12_verdict_143 : decode cX12_verdict 143 = .ok (.bipush 8, 2) := by decide +kernel
theorem dX12_verdict_145 : decode cX12_verdict 145 = .ok (.iaload, 1) := by decide +kernel
theorem dX12_verdict_146 : decode cX12_verdict 146 = .ok (.isub, 1) := by decide +kernel
theorem dX12_verdict_147 : decode cX12_verdict 147 = .ok (.aload_n 0, 1) := by decide +kernel
theorem dX12_verdict_148 : decode cX12_verdict 148 = .ok (.getfield 117, 3) := by decide +kernel
theorem dX12_verdict_151 : decode cX12_verdict 151 = .ok (.bipush 9, 2) := by decide +kernel
theorem dX12_verdict_153 : decode cX12_verdict 153 = .ok (.iaload, 1) := by decide +kernel
theorem dX12_verdict_154 : decode cX12_verdict 154 = .ok (.isub, 1) := by decide +kernel
theorem dX12_verdict_155 : decode cX12_verdict 155 = .ok (.istore 6, 2) := by decide +kernel
theorem dX12_verdict_157 : decode cX12_verdict 157 = .ok (.aload_n 0, 1) := by decide +kernel
theorem dX12_verdict_158 : decode cX12_verdict 158 = .ok (.getfield 117, 3) := by decide +kernel
theorem dX12_verdict_161 : decode cX12_verdict 161 = .ok (.bipush 12, 2) := by decide +kernel
theorem dX12_verdict_163 : decode cX12_verdict 163 = .ok (.iaload, 1) := by decide +kernel
theorem dX12_verdict_164 : decode cX12_verdict 164 = .ok (.aload_n 0, 1) := by decide +kernel
theorem dX12_verdict_165 : decode cX12_verdict 165 = .ok (.getfield 117, 3) := by decide +kernel
theorem dX12_verdict_168 : decode cX12_verdict 168 = .ok (.bipush 10, 2) := by decide +kernel
theorem dX12_verdict_170 : decode cX12_verdict 170 = .ok (.iaload, 1) := by decide +kernel
theorem dX12_verdict_171 : decode cX12_verdict 171 = .ok (.isub, 1) := by decide +kernel
theorem dX12_verdict_172 : decode cX12_verdict 172 = .ok (.istore 7, 2) := by decide +kernel
theorem dX12_verdict_174 : decode cX12_verdict 174 = .ok (.iconst 2, 1) := by decide +kernel
theorem dX12_verdict_175 : decode cX12_verdict 175 = .ok (.aload_n 0, 1) := by decide +kernel
theorem dX12_verdict_176 : decode cX12_verdict 176 = .ok (.getfield 117, 3) := by decide +kernel
theorem dX12_verdict_179 : decode cX12_verdict 179 = .ok (.bipush 14, 2) := by decide +kernel
theorem dX12_verdict_181 : decode cX12_verdict 181 = .ok (.iaload, 1) := by decide +kernel
theorem dX12_verdict_182 : decode cX12_verdict 182 = .ok (.imul, 1) := by decide +kernel
theorem dX12_verdict_183 : decode cX12_verdict 183 = .ok (.aload_n 0, 1) := by decide +kernel
theorem dX12_verdict_184 : decode cX12_verdict 184 = .ok (.getfield 117, 3) := by decide +kernel
theorem dX12_verdict_187 : decode cX12_verdict 187 = .ok (.iconst 0, 1) := by decide +kernel
theorem dX12_verdict_188 : decode cX12_verdict 188 = .ok (.iaload, 1) := by decide +kernel
theorem dX12_verdict_189 : decode cX12_verdict 189 = .ok (.isub, 1) := by decide +kernel
theorem dX12_verdict_190 : decode cX12_verdict 190 = .ok (.aload_n 0, 1) := by decide +kernel
theorem dX12_verdict_191 : decode cX12_verdict 191 = .ok (.getfield 117, 3) := by decide +kernel
theorem dX12_verdict_194 : decode cX12_verdict 194 = .ok (.iconst 1, 1) := by decide +kernel
theorem dX12_verdict_195 : decode cX12_verdict 195 = .ok (.iaload, 1) := by decide +kernel
theorem dX12_verdict_196 : decode cX12_verdict 196 = .ok (.isub, 1) := by decide +kernel
theorem dX12_verdict_197 : decode cX12_verdict 197 = .ok (.istore 8, 2) := by decide +kernel
theorem dX12_verdict_199 : decode cX12_verdict 199 = .ok (.iload_n 1, 1) := by decide +kernel
theorem dX12_verdict_200 : decode cX12_verdict 200 = .ok (.bipush 7, 2) := by decide +kernel
theorem dX12_verdict_202 : decode cX12_verdict 202 = .ok (.if_icmp .ne 153, 3) := by decide +kernel
theorem dX12_verdict_205 : decode cX12_verdict 205 = .ok (.iload_n 2, 1) := by decide +kernel
theorem dX12_verdict_206 : decode cX12_verdict 206 = .ok (.i2l, 1) := by decide +kernel
theorem dX12_verdict_207 : decode cX12_verdict 207 = .ok (.ldc2_w 488, 3) := by decide +kernel
theorem dX12_verdict_210 : decode cX12_verdict 210 = .ok (.ldc2_w 490, 3) := by decide +kernel
theorem dX12_verdict_213 : decode cX12_verdict 213 = .ok (.invokestatic 140, 3) := by decide +kernel
theorem dX12_verdict_216 : decode cX12_verdict 216 = .ok (.ifCond .eq 7, 3) := by decide +kernel
theorem dX12_verdict_219 : decode cX12_verdict 219 = .ok (.iconst 0, 1) := by decide +kernel
theorem dX12_verdict_220 : decode cX12_verdict 220 = .ok (.goto 4, 3) := by decide +kernel
theorem dX12_verdict_223 : decode cX12_verdict 223 = .ok (.iconst 1, 1) := by decide +kernel
theorem dX12_verdict_224 : decode cX12_verdict 224 = .ok (.istore 9, 2) := by decide +kernel
theorem dX12_verdict_226 : decode cX12_verdict 226 = .ok (.iload 9, 2) := by decide +kernel
theorem dX12_verdict_228 : decode cX12_verdict 228 = .ok (.iload_n 3, 1) := by decide +kernel
theorem dX12_verdict_229 : decode cX12_verdict 229 = .ok (.bipush 100, 2) := by decide +kernel
theorem dX12_verdict_231 : decode cX12_verdict 231 = .ok (.if_icmp .gt 7, 3) := by decide +kernel
theorem dX12_verdict_234 : decode cX12_verdict 234 = .ok (.iconst 0, 1) := by decide +kernel
theorem dX12_verdict_235 : decode cX12_verdict 235 = .ok (.goto 4, 3) := by decide +kernel
theorem dX12_verdict_238 : decode cX12_verdict 238 = .ok (.iconst 2, 1) := by decide +kernel
theorem dX12_verdict_239 : decode cX12_verdict 239 = .ok (.ior, 1) := by decide +kernel
theorem dX12_verdict_240 : decode cX12_verdict 240 = .ok (.istore 9, 2) := by decide +kernel
theorem dX12_verdict_242 : decode cX12_verdict 242 = .ok (.iload 9, 2) := by decide +kernel
theorem dX12_verdict_244 : decode cX12_verdict 244 = .ok (.iload 4, 2) := by decide +kernel
theorem dX12_verdict_246 : decode cX12_verdict 246 = .ok (.bipush 50, 2) := by decide +kernel
theorem dX12_verdict_248 : decode cX12_verdict 248 = .ok (.if_icmp .gt 7, 3) := by decide +kernel
theorem dX12_verdict_251 : decode cX12_verdict 251 = .ok (.iconst 0, 1) := by decide +kernel
theorem dX12_verdict_252 : decode cX12_verdict 252 = .ok (.goto 4, 3) := by decide +kernel
theorem dX12_verdict_255 : decode cX12_verdict 255 = .ok (.iconst 4, 1) := by decide +kernel
theorem dX12_verdict_256 : decode cX12_verdict 256 = .ok (.ior, 1) := by decide +kernel
theorem dX12_verdict_257 : decode cX12_verdict 257 = .ok (.istore 9, 2) := by decide +kernel
theorem dX12_verdict_259 : decode cX12_verdict 259 = .ok (.iload 9, 2) := by decide +kernel
theorem dX12_verdict_261 : decode cX12_verdict 261 = .ok (.iload 6, 2) := by decide +kernel
theorem dX12_verdict_263 : decode cX12_verdict 263 = .ok (.i2l, 1) := by decide +kernel
theorem dX12_verdict_264 : decode cX12_verdict 264 = .ok (.ldc2_w 492, 3) := by decide +kernel
theorem dX12_verdict_267 : decode cX12_verdict 267 = .ok (.ldc2_w 494, 3) := by decide +kernel
theorem dX12_verdict_270 : decode cX12_verdict 270 = .ok (.invokestatic 140, 3) := by decide +kernel
theorem dX12_verdict_273 : decode cX12_verdict 273 = .ok (.ifCond .eq 7, 3) := by decide +kernel
theorem dX12_verdict_276 : decode cX12_verdict 276 = .ok (.iconst 0, 1) := by decide +kernel
theorem dX12_verdict_277 : decode cX12_verdict 277 = .ok (.goto 5, 3) := by decide +kernel
theorem dX12_verdict_280 : decode cX12_verdict 280 = .ok (.bipush 8, 2) := by decide +kernel
theorem dX12_verdict_282 : decode cX12_verdict 282 = .ok (.ior, 1) := by decide +kernel
theorem dX12_verdict_283 : decode cX12_verdict 283 = .ok (.istore 9, 2) := by decide +kernel
theorem dX12_verdict_285 : decode cX12_verdict 285 = .ok (.iload 9, 2) := by decide +kernel
theorem dX12_verdict_287 : decode cX12_verdict 287 = .ok (.iload 5, 2) := by decide +kernel
theorem dX12_verdict_289 : decode cX12_verdict 289 = .ok (.sipush 1000, 3) := by decide +kernel
theorem dX12_verdict_292 : decode cX12_verdict 292 = .ok (.if_icmp .gt 7, 3) := by decide +kernel
theorem dX12_verdict_295 : decode cX12_verdict 295 = .ok (.iconst 0, 1) := by decide +kernel
theorem dX12_verdict_296 : decode cX12_verdict 296 = .ok (.goto 5, 3) := by decide +kernel
theorem dX12_verdict_299 : decode cX12_verdict 299 = .ok (.bipush 16, 2) := by decide +kernel
theorem dX12_verdict_301 : decode cX12_verdict 301 = .ok (.ior, 1) := by decide +kernel
theorem dX12_verdict_302 : decode cX12_verdict 302 = .ok (.istore 9, 2) := by decide +kernel
theorem dX12_verdict_304 : decode cX12_verdict 304 = .ok (.iload 9, 2) := by decide +kernel
theorem dX12_verdict_306 : decode cX12_verdict 306 = .ok (.iload 7, 2) := by decide +kernel
theorem dX12_verdict_308 : decode cX12_verdict 308 = .ok (.i2l, 1) := by decide +kernel
theorem dX12_verdict_309 : decode cX12_verdict 309 = .ok (.ldc2_w 496, 3) := by decide +kernel
theorem dX12_verdict_312 : decode cX12_verdict 312 = .ok (.ldc2_w 498, 3) := by decide +kernel
theorem dX12_verdict_315 : decode cX12_verdict 315 = .ok (.invokestatic 140, 3) := by decide +kernel
theorem dX12_verdict_318 : decode cX12_verdict 318 = .ok (.ifCond .eq 7, 3) := by decide +kernel
theorem dX12_verdict_321 : decode cX12_verdict 321 = .ok (.iconst 0, 1) := by decide +kernel
theorem dX12_verdict_322 : decode cX12_verdict 322 = .ok (.goto 5, 3) := by decide +kernel
theorem dX12_verdict_325 : decode cX12_verdict 325 = .ok (.bipush 32, 2) := by decide +kernel
theorem dX12_verdict_327 : decode cX12_verdict 327 = .ok (.ior, 1) := by decide +kernel
theorem dX12_verdict_328 : decode cX12_verdict 328 = .ok (.istore 9, 2) := by decide +kernel
theorem dX12_verdict_330 : decode cX12_verdict 330 = .ok (.iload 9, 2) := by decide +kernel
theorem dX12_verdict_332 : decode cX12_verdict 332 = .ok (.iload 8, 2) := by decide +kernel
theorem dX12_verdict_334 : decode cX12_verdict 334 = .ok (.i2l, 1) := by decide +kernel
theorem dX12_verdict_335 : decode cX12_verdict 335 = .ok (.ldc2_w 500, 3) := by decide +kernel
theorem dX12_verdict_338 : decode cX12_verdict 338 = .ok (.ldc2_w 502, 3) := by decide +kernel
theorem dX12_verdict_341 : decode cX12_verdict 341 = .ok (.invokestatic 140, 3) := by decide +kernel
theorem dX12_verdict_344 : decode cX12_verdict 344 = .ok (.ifCond .eq 7, 3) := by decide +kernel
theorem dX12_verdict_347 : decode cX12_verdict 347 = .ok (.iconst 0, 1) := by decide +kernel
theorem dX12_verdict_348 : decode cX12_verdict 348 = .ok (.goto 5, 3) := by decide +kernel
theorem dX12_verdict_351 : decode cX12_verdict 351 = .ok (.bipush 64, 2) := by decide +kernel
theorem dX12_verdict_353 : decode cX12_verdict 353 = .ok (.ior, 1) := by decide +kernel
theorem dX12_verdict_354 : decode cX12_verdict 354 = .ok (.ireturn, 1) := by decide +kernel
theorem dX12_verdict_355 : decode cX12_verdict 355 = .ok (.iload_n 1, 1) := by decide +kernel
theorem dX12_verdict_356 : decode cX12_verdict 356 = .ok (.ifCond .ne 7, 3) := by decide +kernel
theorem dX12_verdict_359 : decode cX12_verdict 359 = .ok (.iload_n 2, 1) := by decide +kernel
theorem dX12_verdict_360 : decode cX12_verdict 360 = .ok (.goto 66, 3) := by decide +kernel
theorem dX12_verdict_363 : decode cX12_verdict 363 = .ok (.iload_n 1, 1) := by decide +kernel
theorem dX12_verdict_364 : decode cX12_verdict 364 = .ok (.iconst 1, 1) := by decide +kernel
theorem dX12_verdict_365 : decode cX12_verdict 365 = .ok (.if_icmp .ne 7, 3) := by decide +kernel
theorem dX12_verdict_368 : decode cX12_verdict 368 = .ok (.iload_n 3, 1) := by decide +kernel
theorem dX12_verdict_369 : decode cX12_verdict 369 = .ok (.goto 57, 3) := by decide +kernel
theorem dX12_verdict_372 : decode cX12_verdict 372 = .ok (.iload_n 1, 1) := by decide +kernel
theorem dX12_verdict_373 : decode cX12_verdict 373 = .ok (.iconst 2, 1) := by decide +kernel
theorem dX12_verdict_374 : decode cX12_verdict 374 = .ok (.if_icmp .ne 8, 3) := by decide +kernel
theorem dX12_verdict_377 : decode cX12_verdict 377 = .ok (.iload 4, 2) := by decide +kernel
theorem dX12_verdict_379 : decode cX12_verdict 379 = .ok (.goto 47, 3) := by decide +kernel
theorem dX12_verdict_382 : decode cX12_verdict 382 = .ok (.iload_n 1, 1) := by decide +kernel
theorem dX12_verdict_383 : decode cX12_verdict 383 = .ok (.iconst 3, 1) := by decide +kernel
theorem dX12_verdict_384 : decode cX12_verdict 384 = .ok (.if_icmp .ne 8, 3) := by decide +kernel
theorem dX12_verdict_387 : decode cX12_verdict 387 = .ok (.iload 6, 2) := by decide +kernel
theorem dX12_verdict_389 : decode cX12_verdict 389 = .ok (.goto 37, 3) := by decide +kernel
theorem dX12_verdict_392 : decode cX12_verdict 392 = .ok (.iload_n 1, 1) := by decide +kernel
theorem dX12_verdict_393 : decode cX12_verdict 393 = .ok (.iconst 4, 1) := by decide +kernel
theorem dX12_verdict_394 : decode cX12_verdict 394 = .ok (.if_icmp .ne 8, 3) := by decide +kernel
theorem dX12_verdict_397 : decode cX12_verdict 397 = .ok (.iload 5, 2) := by decide +kernel
theorem dX12_verdict_399 : decode cX12_verdict 399 = .ok (.goto 27, 3) := by decide +kernel
theorem dX12_verdict_402 : decode cX12_verdict 402 = .ok (.iload_n 1, 1) := by decide +kernel
theorem dX12_verdict_403 : decode cX12_verdict 403 = .ok (.iconst 5, 1) := by decide +kernel
theorem dX12_verdict_404 : decode cX12_verdict 404 = .ok (.if_icmp .ne 8, 3) := by decide +kernel
theorem dX12_verdict_407 : decode cX12_verdict 407 = .ok (.iload 7, 2) := by decide +kernel
theorem dX12_verdict_409 : decode cX12_verdict 409 = .ok (.goto 17, 3) := by decide +kernel
theorem dX12_verdict_412 : decode cX12_verdict 412 = .ok (.iload_n 1, 1) := by decide +kernel
theorem dX12_verdict_413 : decode cX12_verdict 413 = .ok (.bipush 6, 2) := by decide +kernel
theorem dX12_verdict_415 : decode cX12_verdict 415 = .ok (.if_icmp .ne 8, 3) := by decide +kernel
theorem dX12_verdict_418 : decode cX12_verdict 418 = .ok (.iload 8, 2) := by decide +kernel
theorem dX12_verdict_420 : decode cX12_verdict 420 = .ok (.goto 6, 3) := by decide +kernel
theorem dX12_verdict_423 : decode cX12_verdict 423 = .ok (.ldc_w 480, 3) := by decide +kernel
theorem dX12_verdict_426 : decode cX12_verdict 426 = .ok (.ireturn, 1) := by decide +kernel
def f_Md_verdict_L327 (l8 : Int32) (s0 : Int32) (s1 : Int32) (I : (Nat → Nat → Int32)) (L : (Nat → Nat → Int64)) : Option Int32 := (bnd (s0 ||| s1) fun x21 => (bnd (f_Md_within (Int32.toInt64 l8) (-100 : Int64) (100 : Int64)) fun x22 => (if x22 = (0 : Int32) then (some (x21 ||| (64 : Int32))) else (some (x21 ||| (0 : Int32))))))
set_option maxRecDepth 100000 in
set_option maxHeartbeats 4000000 in
theorem x_Md_verdict_L327 {G : xG} {S : List xSh} {Rf : Nat → Nat → Option Nat} (hT : xTM S Rf) {l8 : Int32} {s0 : Int32} {s1 : Int32} {I : Nat → Nat → Int32} {L : Nat → Nat → Int64} {q : Int32} (hf : f_Md_verdict_L327 l8 s0 s1 I L = some q) : X G 2 m_Md_verdict 327 [(8, .int l8)] [.int s1, .int s0] (S, I, L, Rf) (some (.int q), (S, I, L, Rf)) := by
  replace hf := (f_Md_verdict_L327.eq_1 _ _ _ _ _).symm.trans hf
  refine X_ior (pc := 327) dX12_verdict_327 ?_
  obtain ⟨x21, ex21, hf⟩ := bnd_e hf
  refine X_tope ex21 ?_
  refine X_istore (pc := 328) [(9, .int x21), (8, .int l8)] dX12_verdict_328 (by decide) rfl ?_
  refine X_iload (pc := 330) 0 dX12_verdict_330 rfl ?_
  refine X_iload (pc := 332) 1 dX12_verdict_332 rfl ?_
  refine X_i2l (pc := 334) dX12_verdict_334 ?_
  refine X_ldc2 (pc := 335) (-100 : Int64) k_1783 dX12_verdict_335 ?_
  refine X_ldc2 (pc := 338) (100 : Int64) k_1784 dX12_verdict_338 ?_
  refine X_invS_i (pc := 341) (c_Md_within hT rfl) ok_Md_within k_1482 k_1483 nd_33 (by decide) rfl (Nat.le_of_ble_eq_true rfl) dX12_verdict_341 ?_
  obtain ⟨x22, ex22, hf⟩ := bnd_e hf
  refine X_tope ex22 ?_
  by_cases c23 : x22 = (0 : Int32)
  · replace hf := (if_pos c23).symm.trans hf
    refine X_if_eq_t (pc := 344) 351 dX12_verdict_344 (by decide) c23 ?_
    refine X_bipush (pc := 351) (64 : Int32) dX12_verdict_351 (by decide) ?_
    refine X_ior (pc := 353) dX12_verdict_353 ?_
    cases hf
    exact X_ireturn (pc := 354) rfl dX12_verdict_354
  · replace hf := (if_neg c23).symm.trans hf
    refine X_if_eq_f (pc := 344) 351 dX12_verdict_344 (by decide) c23 ?_
    refine X_iconst (pc := 347) (0 : Int32) dX12_verdict_347 (by decide) ?_
    refine X_goto (pc := 348) 353 dX12_verdict_348 (by decide) ?_
    refine X_ior (pc := 353) dX12_verdict_353 ?_
    cases hf
    exact X_ireturn (pc := 354) rfl dX12_verdict_354
def f_Md_verdict_L301 (l7 : Int32) (l8 : Int32) (s0 : Int32) (s1 : Int32) (I : (Nat → Nat → Int32)) (L : (Nat → Nat → Int64)) : Option Int32 := (bnd (s0 ||| s1) fun x18 => (bnd (f_Md_within (Int32.toInt64 l7) (-180 : Int64) (180 : Int64)) fun x19 => (if x19 = (0 : Int32) then (f_Md_verdict_L327 l8 x18 (32 : Int32) I L) else (f_Md_verdict_L327 l8 x18 (0 : Int32) I L))))
set_option maxRecDepth 100000 in
set_option maxHeartbeats 4000000 in
theorem x_Md_verdict_L301 {G : xG} {S : List xSh} {Rf : Nat → Nat → Option Nat} (hT : xTM S Rf) {l7 : Int32} {l8 : Int32} {s0 : Int32} {s1 : Int32} {I : Nat → Nat → Int32} {L : Nat → Nat → Int64} {q : Int32} (hf : f_Md_verdict_L301 l7 l8 s0 s1 I L = some q) : X G 2 m_Md_verdict 301 [(7, .int l7), (8, .int l8)] [.int s1, .int s0] (S, I, L, Rf) (some (.int q), (S, I, L, Rf)) := by
  replace hf := (f_Md_verdict_L301.eq_1 _ _ _ _ _ _).symm.trans hf
  refine X_ior (pc := 301) dX12_verdict_301 ?_
  obtain ⟨x18, ex18, hf⟩ := bnd_e hf
  refine X_tope ex18 ?_
  refine X_istore (pc := 302) [(9, .int x18), (7, .int l7), (8, .int l8)] dX12_verdict_302 (by decide) rfl ?_
  refine X_iload (pc := 304) 0 dX12_verdict_304 rfl ?_
  refine X_iload (pc := 306) 1 dX12_verdict_306 rfl ?_
  refine X_i2l (pc := 308) dX12_verdict_308 ?_
  refine X_ldc2 (pc := 309) (-180 : Int64) k_1781 dX12_verdict_309 ?_
  refine X_ldc2 (pc := 312) (180 : Int64) k_1782 dX12_verdict_312 ?_
  refine X_invS_i (pc := 315) (c_Md_within hT rfl) ok_Md_within k_1482 k_1483 nd_33 (by decide) rfl (Nat.le_of_ble_eq_true rfl) dX12_verdict_315 ?_
  obtain ⟨x19, ex19, hf⟩ := bnd_e hf
  refine X_tope ex19 ?_
  by_cases c20 : x19 = (0 : Int32)
  · replace hf := (if_pos c20).symm.trans hf
    refine X_if_eq_t (pc := 318) 325 dX12_verdict_318 (by decide) c20 ?_
    refine X_bipush (pc := 325) (32 : Int32) dX12_verdict_325 (by decide) ?_
    exact X_lvs [2] rfl (x_Md_verdict_L327 hT hf)
  · replace hf := (if_neg c20).symm.trans hf
    refine X_if_eq_f (pc := 318) 325 dX12_verdict_318 (by decide) c20 ?_
    refine X_iconst (pc := 321) (0 : Int32) dX12_verdict_321 (by decide) ?_
    refine X_goto (pc := 322) 327 dX12_verdict_322 (by decide) ?_
    exact X_lvs [2] rfl (x_Md_verdict_L327 hT hf)
def f_Md_verdict_L282 (l5 : Int32) (l7 : Int32) (l8 : Int32) (s0 : Int32) (s1 : Int32) (I : (Nat → Nat → Int32)) (L : (Nat → Nat → Int64)) : Option Int32 := (bnd (s0 ||| s1) fun x16 => (if (1000 : Int32) < l5 then (f_Md_verdict_L301 l7 l8 x16 (16 : Int32) I L) else (f_Md_verdict_L301 l7 l8 x16 (0 : Int32) I L)))
set_option maxRecDepth 100000 in
set_option maxHeartbeats 4000000 in
theorem x_Md_verdict_L282 {G : xG} {S : List xSh} {Rf : Nat → Nat → Option Nat} (hT : xTM S Rf) {l5 : Int32} {l7 : Int32} {l8 : Int32} {s0 : Int32} {s1 : Int32} {I : Nat → Nat → Int32} {L : Nat → Nat → Int64} {q : Int32} (hf : f_Md_verdict_L282 l5 l7 l8 s0 s1 I L = some q) : X G 2 m_Md_verdict 282 [(5, .int l5), (7, .int l7), (8, .int l8)] [.int s1, .int s0] (S, I, L, Rf) (some (.int q), (S, I, L, Rf)) := by
  replace hf := (f_Md_verdict_L282.eq_1 _ _ _ _ _ _ _).symm.trans hf
  refine X_ior (pc := 282) dX12_verdict_282 ?_
  obtain ⟨x16, ex16, hf⟩ := bnd_e hf
  refine X_tope ex16 ?_
  refine X_istore (pc := 283) [(9, .int x16), (5, .int l5), (7, .int l7), (8, .int l8)] dX12_verdict_283 (by decide) rfl ?_
  refine X_iload (pc := 285) 0 dX12_verdict_285 rfl ?_
  refine X_iload (pc := 287) 1 dX12_verdict_287 rfl ?_
  refine X_sipush (pc := 289) (1000 : Int32) dX12_verdict_289 (by decide) ?_
  by_cases c17 : (1000 : Int32) < l5
  · replace hf := (if_pos c17).symm.trans hf
    refine X_icmp_gt_t (pc := 292) 299 dX12_verdict_292 (by decide) c17 ?_
    refine X_bipush (pc := 299) (16 : Int32) dX12_verdict_299 (by decide) ?_
    exact X_lvs [2, 3] rfl (x_Md_verdict_L301 hT hf)
  · replace hf := (if_neg c17).symm.trans hf
    refine X_icmp_gt_f (pc := 292) 299 dX12_verdict_292 (by decide) c17 ?_
    refine X_iconst (pc := 295) (0 : Int32) dX12_verdict_295 (by decide) ?_
    refine X_goto (pc := 296) 301 dX12_verdict_296 (by decide) ?_
    exact X_lvs [2, 3] rfl (x_Md_verdict_L301 hT hf)
def f_Md_verdict_L256 (l5 : Int32) (l6 : Int32) (l7 : Int32) (l8 : Int32) (s0 : Int32) (s1 : Int32) (I : (Nat → Nat → Int32)) (L : (Nat → Nat → Int64)) : Option Int32 := (bnd (s0 ||| s1) fun x13 => (bnd (f_Md_within (Int32.toInt64 l6) (-120 : Int64) (160 : Int64)) fun x14 => (if x14 = (0 : Int32) then (f_Md_verdict_L282 l5 l7 l8 x13 (8 : Int32) I L) else (f_Md_verdict_L282 l5 l7 l8 x13 (0 : Int32) I L))))
set_option maxRecDepth 100000 in
set_option maxHeartbeats 4000000 in
theorem x_Md_verdict_L256 {G : xG} {S : List xSh} {Rf : Nat → Nat → Option Nat} (hT : xTM S Rf) {l5 : Int32} {l6 : Int32} {l7 : Int32} {l8 : Int32} {s0 : Int32} {s1 : Int32} {I : Nat → Nat → Int32} {L : Nat → Nat → Int64} {q : Int32} (hf : f_Md_verdict_L256 l5 l6 l7 l8 s0 s1 I L = some q) : X G 2 m_Md_verdict 256 [(5, .int l5), (6, .int l6), (7, .int l7), (8, .int l8)] [.int s1, .int s0] (S, I, L, Rf) (some (.int q), (S, I, L, Rf)) := by
  replace hf := (f_Md_verdict_L256.eq_1 _ _ _ _ _ _ _ _).symm.trans hf
  refine X_ior (pc := 256) dX12_verdict_256 ?_
  obtain ⟨x13, ex13, hf⟩ := bnd_e hf
  refine X_tope ex13 ?_
  refine X_istore (pc := 257) [(9, .int x13), (5, .int l5), (6, .int l6), (7, .int l7), (8, .int l8)] dX12_verdict_257 (by decide) rfl ?_
  refine X_iload (pc := 259) 0 dX12_verdict_259 rfl ?_
  refine X_iload (pc := 261) 2 dX12_verdict_261 rfl ?_
  refine X_i2l (pc := 263) dX12_verdict_263 ?_
  refine X_ldc2 (pc := 264) (-120 : Int64) k_1779 dX12_verdict_264 ?_
  refine X_ldc2 (pc := 267) (160 : Int64) k_1780 dX12_verdict_267 ?_
  refine X_invS_i (pc := 270) (c_Md_within hT rfl) ok_Md_within k_1482 k_1483 nd_33 (by decide) rfl (Nat.le_of_ble_eq_true rfl) dX12_verdict_270 ?_
  obtain ⟨x14, ex14, hf⟩ := bnd_e hf
  refine X_tope ex14 ?_
  by_cases c15 : x14 = (0 : Int32)
  · replace hf := (if_pos c15).symm.trans hf
    refine X_if_eq_t (pc := 273) 280 dX12_verdict_273 (by decide) c15 ?_
    refine X_bipush (pc := 280) (8 : Int32) dX12_verdict_280 (by decide) ?_
    exact X_lvs [1, 3, 4] rfl (x_Md_verdict_L282 hT hf)
  · replace hf := (if_neg c15).symm.trans hf
    refine X_if_eq_f (pc := 273) 280 dX12_verdict_273 (by decide) c15 ?_
    refine X_iconst (pc := 276) (0 : Int32) dX12_verdict_276 (by decide) ?_
    refine X_goto (pc := 277) 282 dX12_verdict_277 (by decide) ?_
    exact X_lvs [1, 3, 4] rfl (x_Md_verdict_L282 hT hf)
def f_Md_verdict_L239 (l4 : Int32) (l5 : Int32) (l6 : Int32) (l7 : Int32) (l8 : Int32) (s0 : Int32) (s1 : Int32) (I : (Nat → Nat → Int32)) (L : (Nat → Nat → Int64)) : Option Int32 := (bnd (s0 ||| s1) fun x11 => (if (50 : Int32) < l4 then (f_Md_verdict_L256 l5 l6 l7 l8 x11 (4 : Int32) I L) else (f_Md_verdict_L256 l5 l6 l7 l8 x11 (0 : Int32) I L)))
set_option maxRecDepth 100000 in
set_option maxHeartbeats 4000000 in
theorem x_Md_verdict_L239 {G : xG} {S : List xSh} {Rf : Nat → Nat → Option Nat} (hT : xTM S Rf) {l4 : Int32} {l5 : Int32} {l6 : Int32} {l7 : Int32} {l8 : Int32} {s0 : Int32} {s1 : Int32} {I : Nat → Nat → Int32} {L : Nat → Nat → Int64} {q : Int32} (hf : f_Md_verdict_L239 l4 l5 l6 l7 l8 s0 s1 I L = some q) : X G 2 m_Md_verdict 239 [(4, .int l4), (5, .int l5), (6, .int l6), (7, .int l7), (8, .int l8)] [.int s1, .int s0] (S, I, L, Rf) (some (.int q), (S, I, L, Rf)) := by
  replace hf := (f_Md_verdict_L239.eq_1 _ _ _ _ _ _ _ _ _).symm.trans hf
  refine X_ior (pc := 239) dX12_verdict_239 ?_
  obtain ⟨x11, ex11, hf⟩ := bnd_e hf
  refine X_tope ex11 ?_
  refine X_istore (pc := 240) [(9, .int x11), (4, .int l4), (5, .int l5), (6, .int l6), (7, .int l7), (8, .int l8)] dX12_verdict_240 (by decide) rfl ?_
  refine X_iload (pc := 242) 0 dX12_verdict_242 rfl ?_
  refine X_iload (pc := 244) 1 dX12_verdict_244 rfl ?_
  refine X_bipush (pc := 246) (50 : Int32) dX12_verdict_246 (by decide) ?_
  by_cases c12 : (50 : Int32) < l4
  · replace hf := (if_pos c12).symm.trans hf
    refine X_icmp_gt_t (pc := 248) 255 dX12_verdict_248 (by decide) c12 ?_
    refine X_iconst (pc := 255) (4 : Int32) dX12_verdict_255 (by decide) ?_
    exact X_lvs [2, 3, 4, 5] rfl (x_Md_verdict_L256 hT hf)
  · replace hf := (if_neg c12).symm.trans hf
    refine X_icmp_gt_f (pc := 248) 255 dX12_verdict_248 (by decide) c12 ?_
    refine X_iconst (pc := 251) (0 : Int32) dX12_verdict_251 (by decide) ?_
    refine X_goto (pc := 252) 256 dX12_verdict_252 (by decide) ?_
    exact X_lvs [2, 3, 4, 5] rfl (x_Md_verdict_L256 hT hf)
def f_Md_verdict_L224 (l3 : Int32) (l4 : Int32) (l5 : Int32) (l6 : Int32) (l7 : Int32) (l8 : Int32) (s0 : Int32) (I : (Nat → Nat → Int32)) (L : (Nat → Nat → Int64)) : Option Int32 := (if (100 : Int32) < l3 then (f_Md_verdict_L239 l4 l5 l6 l7 l8 s0 (2 : Int32) I L) else (f_Md_verdict_L239 l4 l5 l6 l7 l8 s0 (0 : Int32) I L))
set_option maxRecDepth 100000 in
set_option maxHeartbeats 4000000 in
theorem x_Md_verdict_L224 {G : xG} {S : List xSh} {Rf : Nat → Nat → Option Nat} (hT : xTM S Rf) {l3 : Int32} {l4 : Int32} {l5 : Int32} {l6 : Int32} {l7 : Int32} {l8 : Int32} {s0 : Int32} {I : Nat → Nat → Int32} {L : Nat → Nat → Int64} {q : Int32} (hf : f_Md_verdict_L224 l3 l4 l5 l6 l7 l8 s0 I L = some q) : X G 2 m_Md_verdict 224 [(3, .int l3), (4, .int l4), (5, .int l5), (6, .int l6), (7, .int l7), (8, .int l8)] [.int s0] (S, I, L, Rf) (some (.int q), (S, I, L, Rf)) := by
  replace hf := (f_Md_verdict_L224.eq_1 _ _ _ _ _ _ _ _ _).symm.trans hf
  refine X_istore (pc := 224) [(9, .int s0), (3, .int l3), (4, .int l4), (5, .int l5), (6, .int l6), (7, .int l7), (8, .int l8)] dX12_verdict_224 (by decide) rfl ?_
  refine X_iload (pc := 226) 0 dX12_verdict_226 rfl ?_
  refine X_iload_n (pc := 228) (i := 3) 1 dX12_verdict_228 rfl rfl ?_
  refine X_bipush (pc := 229) (100 : Int32) dX12_verdict_229 (by decide) ?_
  by_cases c10 : (100 : Int32) < l3
  · replace hf := (if_pos c10).symm.trans hf
    refine X_icmp_gt_t (pc := 231) 238 dX12_verdict_231 (by decide) c10 ?_
    refine X_iconst (pc := 238) (2 : Int32) dX12_verdict_238 (by decide) ?_
    exact X_lvs [2, 3, 4, 5, 6] rfl (x_Md_verdict_L239 hT hf)
  · replace hf := (if_neg c10).symm.trans hf
    refine X_icmp_gt_f (pc := 231) 238 dX12_verdict_231 (by decide) c10 ?_
    refine X_iconst (pc := 234) (0 : Int32) dX12_verdict_234 (by decide) ?_
    refine X_goto (pc := 235) 239 dX12_verdict_235 (by decide) ?_
    exact X_lvs [2, 3, 4, 5, 6] rfl (x_Md_verdict_L239 hT hf)
def f_Md_verdict_L91 : Nat → Int32 → Int32 → Int32 → Int32 → Int32 → Int32 → (Nat → Nat → Int32) → (Nat → Nat → Int64) → Option Int32
  | 0, _, _, _, _, _, _, _, _ => none
  | n + 1, l1, l2, l3, l4, l5, l6, I, L => (if (10 : Int32) ≤ l6 then (bnd ((((I 70 0) + (I 70 1)) - (I 70 8)) - (I 70 9)) fun x4 => (bnd ((I 70 12) - (I 70 10)) fun x5 => (bnd ((((2 : Int32) * (I 70 14)) - (I 70 0)) - (I 70 1)) fun x6 => (if l1 = (7 : Int32) then (bnd (f_Md_within (Int32.toInt64 l2) (-400 : Int64) (600 : Int64)) fun x8 => (if x8 = (0 : Int32) then (f_Md_verdict_L224 l3 l4 l5 x4 x5 x6 (1 : Int32) I L) else (f_Md_verdict_L224 l3 l4 l5 x4 x5 x6 (0 : Int32) I L))) else (if l1 = (0 : Int32) then (some l2) else (if l1 = (1 : Int32) then (some l3) else (if l1 = (2 : Int32) then (some l4) else (if l1 = (3 : Int32) then (some x4) else (if l1 = (4 : Int32) then (some l5) else (if l1 = (5 : Int32) then (some x5) else (if l1 = (6 : Int32) then (some x6) else (some (-9999999 : Int32))))))))))))) else (if (0 ≤ l6 ∧ l6 < (15 : Int32)) then (bnd (jabs (((10 : Int32) * (I 70 (l6.toNatClampNeg))) - l2)) fun x32 => (bnd (jmax l5 x32) fun x33 => (f_Md_verdict_L91 n l1 l2 l3 l4 x33 (l6 + (1 : Int32)) I L))) else none))
set_option maxRecDepth 100000 in
set_option maxHeartbeats 4000000 in
theorem x_Md_verdict_L91 {G : xG} {S : List xSh} {Rf : Nat → Nat → Option Nat} (hT : xTM S Rf) : ∀ (n : Nat) {l1 : Int32} {l2 : Int32} {l3 : Int32} {l4 : Int32} {l5 : Int32} {l6 : Int32} {I : Nat → Nat → Int32} {L : Nat → Nat → Int64} {q : Int32}, f_Md_verdict_L91 n l1 l2 l3 l4 l5 l6 I L = some q → X G 2 m_Md_verdict 91 [(0, .ref (xP G 34)), (1, .int l1), (2, .int l2), (3, .int l3), (4, .int l4), (5, .int l5), (6, .int l6)] [] (S, I, L, Rf) (some (.int q), (S, I, L, Rf)) := by
  intro n
  induction n with
  | zero =>
    intro l1 l2 l3 l4 l5 l6 I L q hf
    exact absurd (show none = some q from hf) (by simp)
  | succ n ih =>
    intro l1 l2 l3 l4 l5 l6 I L q hf
    replace hf := (f_Md_verdict_L91.eq_2 _ _ _ _ _ _ _ _ _).symm.trans hf
    refine X_iload (pc := 91) 6 dX12_verdict_91 rfl ?_
    refine X_bipush (pc := 93) (10 : Int32) dX12_verdict_93 (by decide) ?_
    by_cases c3 : (10 : Int32) ≤ l6
    · replace hf := (if_pos c3).symm.trans hf
      refine X_icmp_ge_t (pc := 95) 126 dX12_verdict_95 (by decide) c3 ?_
      refine X_aload_n (pc := 126) (i := 0) 0 dX12_verdict_126 rfl rfl ?_
      refine X_getr (pc := 127) (a := 34) (ci := 11) (j := 74) (c := 70) (sh_34 hT) (by decide) k_1302 (rf_34_74 hT) (fun _ h => h) dX12_verdict_127 ?_
      refine X_iconst (pc := 130) (0 : Int32) dX12_verdict_130 (by decide) ?_
      refine X_ialdj (pc := 131) (j := 0) (I 70 0) (sh_70 hT) (vp_in_lit (N := 15) (by decide) (by decide)) (by decide) rfl dX12_verdict_131 ?_
      refine X_aload_n (pc := 132) (i := 0) 0 dX12_verdict_132 rfl rfl ?_
      refine X_getr (pc := 133) (a := 34) (ci := 11) (j := 74) (c := 70) (sh_34 hT) (by decide) k_1302 (rf_34_74 hT) (fun _ h => h) dX12_verdict_133 ?_
      refine X_iconst (pc := 136) (1 : Int32) dX12_verdict_136 (by decide) ?_
      refine X_ialdj (pc := 137) (j := 1) (I 70 1) (sh_70 hT) (vp_in_lit (N := 15) (by decide) (by decide)) (by decide) rfl dX12_verdict_137 ?_
      refine X_iadd (pc := 138) dX12_verdict_138 ?_
      refine X_aload_n (pc := 139) (i := 0) 0 dX12_verdict_139 rfl rfl ?_
      refine X_getr (pc := 140) (a := 34) (ci := 11) (j := 74) (c := 70) (sh_34 hT) (by decide) k_1302 (rf_34_74 hT) (fun _ h => h) dX12_verdict_140 ?_
      refine X_bipush (pc := 143) (8 : Int32) dX12_verdict_143 (by decide) ?_
      refine X_ialdj (pc := 145) (j := 8) (I 70 8) (sh_70 hT) (vp_in_lit (N := 15) (by decide) (by decide)) (by decide) rfl dX12_verdict_145 ?_
      refine X_isub (pc := 146) dX12_verdict_146 ?_
      refine X_aload_n (pc := 147) (i := 0) 0 dX12_verdict_147 rfl rfl ?_
      refine X_getr (pc := 148) (a := 34) (ci := 11) (j := 74) (c := 70) (sh_34 hT) (by decide) k_1302 (rf_34_74 hT) (fun _ h => h) dX12_verdict_148 ?_
      refine X_bipush (pc := 151) (9 : Int32) dX12_verdict_151 (by decide) ?_
      refine X_ialdj (pc := 153) (j := 9) (I 70 9) (sh_70 hT) (vp_in_lit (N := 15) (by decide) (by decide)) (by decide) rfl dX12_verdict_153 ?_
      refine X_isub (pc := 154) dX12_verdict_154 ?_
      obtain ⟨x4, ex4, hf⟩ := bnd_e hf
      refine X_tope ex4 ?_
      refine X_istore (pc := 155) [(6, .int x4), (0, .ref (xP G 34)), (1, .int l1), (2, .int l2), (3, .int l3), (4, .int l4), (5, .int l5)] dX12_verdict_155 (by decide) rfl ?_
      refine X_aload_n (pc := 157) (i := 0) 1 dX12_verdict_157 rfl rfl ?_
      refine X_getr (pc := 158) (a := 34) (ci := 11) (j := 74) (c := 70) (sh_34 hT) (by decide) k_1302 (rf_34_74 hT) (fun _ h => h) dX12_verdict_158 ?_
      refine X_bipush (pc := 161) (12 : Int32) dX12_verdict_161 (by decide) ?_
      refine X_ialdj (pc := 163) (j := 12) (I 70 12) (sh_70 hT) (vp_in_lit (N := 15) (by decide) (by decide)) (by decide) rfl dX12_verdict_163 ?_
      refine X_aload_n (pc := 164) (i := 0) 1 dX12_verdict_164 rfl rfl ?_
      refine X_getr (pc := 165) (a := 34) (ci := 11) (j := 74) (c := 70) (sh_34 hT) (by decide) k_1302 (rf_34_74 hT) (fun _ h => h) dX12_verdict_165 ?_
      refine X_bipush (pc := 168) (10 : Int32) dX12_verdict_168 (by decide) ?_
      refine X_ialdj (pc := 170) (j := 10) (I 70 10) (sh_70 hT) (vp_in_lit (N := 15) (by decide) (by decide)) (by decide) rfl dX12_verdict_170 ?_
      refine X_isub (pc := 171) dX12_verdict_171 ?_
      obtain ⟨x5, ex5, hf⟩ := bnd_e hf
      refine X_tope ex5 ?_
      refine X_istore (pc := 172) [(7, .int x5), (6, .int x4), (0, .ref (xP G 34)), (1, .int l1), (2, .int l2), (3, .int l3), (4, .int l4), (5, .int l5)] dX12_verdict_172 (by decide) rfl ?_
      refine X_iconst (pc := 174) (2 : Int32) dX12_verdict_174 (by decide) ?_
      refine X_aload_n (pc := 175) (i := 0) 2 dX12_verdict_175 rfl rfl ?_
      refine X_getr (pc := 176) (a := 34) (ci := 11) (j := 74) (c := 70) (sh_34 hT) (by decide) k_1302 (rf_34_74 hT) (fun _ h => h) dX12_verdict_176 ?_
      refine X_bipush (pc := 179) (14 : Int32) dX12_verdict_179 (by decide) ?_
      refine X_ialdj (pc := 181) (j := 14) (I 70 14) (sh_70 hT) (vp_in_lit (N := 15) (by decide) (by decide)) (by decide) rfl dX12_verdict_181 ?_
      refine X_imul (pc := 182) dX12_verdict_182 ?_
      refine X_aload_n (pc := 183) (i := 0) 2 dX12_verdict_183 rfl rfl ?_
      refine X_getr (pc := 184) (a := 34) (ci := 11) (j := 74) (c := 70) (sh_34 hT) (by decide) k_1302 (rf_34_74 hT) (fun _ h => h) dX12_verdict_184 ?_
      refine X_iconst (pc := 187) (0 : Int32) dX12_verdict_187 (by decide) ?_
      refine X_ialdj (pc := 188) (j := 0) (I 70 0) (sh_70 hT) (vp_in_lit (N := 15) (by decide) (by decide)) (by decide) rfl dX12_verdict_188 ?_
      refine X_isub (pc := 189) dX12_verdict_189 ?_
      refine X_aload_n (pc := 190) (i := 0) 2 dX12_verdict_190 rfl rfl ?_
      refine X_getr (pc := 191) (a := 34) (ci := 11) (j := 74) (c := 70) (sh_34 hT) (by decide) k_1302 (rf_34_74 hT) (fun _ h => h) dX12_verdict_191 ?_
      refine X_iconst (pc := 194) (1 : Int32) dX12_verdict_194 (by decide) ?_
      refine X_ialdj (pc := 195) (j := 1) (I 70 1) (sh_70 hT) (vp_in_lit (N := 15) (by decide) (by decide)) (by decide) rfl dX12_verdict_195 ?_
      refine X_isub (pc := 196) dX12_verdict_196 ?_
      obtain ⟨x6, ex6, hf⟩ := bnd_e hf
      refine X_tope ex6 ?_
      refine X_istore (pc := 197) [(8, .int x6), (7, .int x5), (6, .int x4), (0, .ref (xP G 34)), (1, .int l1), (2, .int l2), (3, .int l3), (4, .int l4), (5, .int l5)] dX12_verdict_197 (by decide) rfl ?_
      refine X_iload_n (pc := 199) (i := 1) 4 dX12_verdict_199 rfl rfl ?_
      refine X_bipush (pc := 200) (7 : Int32) dX12_verdict_200 (by decide) ?_
      by_cases c7 : l1 = (7 : Int32)
      · replace hf := (if_pos c7).symm.trans hf
        refine X_icmp_ne_f (pc := 202) 355 dX12_verdict_202 (by decide) c7 ?_
        refine X_iload_n (pc := 205) (i := 2) 5 dX12_verdict_205 rfl rfl ?_
        refine X_i2l (pc := 206) dX12_verdict_206 ?_
        refine X_ldc2 (pc := 207) (-400 : Int64) k_1777 dX12_verdict_207 ?_
        refine X_ldc2 (pc := 210) (600 : Int64) k_1778 dX12_verdict_210 ?_
        refine X_invS_i (pc := 213) (c_Md_within hT rfl) ok_Md_within k_1482 k_1483 nd_33 (by decide) rfl (Nat.le_of_ble_eq_true rfl) dX12_verdict_213 ?_
        obtain ⟨x8, ex8, hf⟩ := bnd_e hf
        refine X_tope ex8 ?_
        by_cases c9 : x8 = (0 : Int32)
        · replace hf := (if_pos c9).symm.trans hf
          refine X_if_eq_t (pc := 216) 223 dX12_verdict_216 (by decide) c9 ?_
          refine X_iconst (pc := 223) (1 : Int32) dX12_verdict_223 (by decide) ?_
          exact X_lvs [6, 7, 8, 2, 1, 0] rfl (x_Md_verdict_L224 hT hf)
        · replace hf := (if_neg c9).symm.trans hf
          refine X_if_eq_f (pc := 216) 223 dX12_verdict_216 (by decide) c9 ?_
          refine X_iconst (pc := 219) (0 : Int32) dX12_verdict_219 (by decide) ?_
          refine X_goto (pc := 220) 224 dX12_verdict_220 (by decide) ?_
          exact X_lvs [6, 7, 8, 2, 1, 0] rfl (x_Md_verdict_L224 hT hf)
      · replace hf := (if_neg c7).symm.trans hf
        refine X_icmp_ne_t (pc := 202) 355 dX12_verdict_202 (by decide) c7 ?_
        refine X_iload_n (pc := 355) (i := 1) 4 dX12_verdict_355 rfl rfl ?_
        by_cases c24 : l1 = (0 : Int32)
        · replace hf := (if_pos c24).symm.trans hf
          refine X_if_ne_f (pc := 356) 363 dX12_verdict_356 (by decide) c24 ?_
          refine X_iload_n (pc := 359) (i := 2) 5 dX12_verdict_359 rfl rfl ?_
          refine X_goto (pc := 360) 426 dX12_verdict_360 (by decide) ?_
          cases hf
          exact X_ireturn (pc := 426) rfl dX12_verdict_426
        · replace hf := (if_neg c24).symm.trans hf
          refine X_if_ne_t (pc := 356) 363 dX12_verdict_356 (by decide) c24 ?_
          refine X_iload_n (pc := 363) (i := 1) 4 dX12_verdict_363 rfl rfl ?_
          refine X_iconst (pc := 364) (1 : Int32) dX12_verdict_364 (by decide) ?_
          by_cases c25 : l1 = (1 : Int32)
          · replace hf := (if_pos c25).symm.trans hf
            refine X_icmp_ne_f (pc := 365) 372 dX12_verdict_365 (by decide) c25 ?_
            refine X_iload_n (pc := 368) (i := 3) 6 dX12_verdict_368 rfl rfl ?_
            refine X_goto (pc := 369) 426 dX12_verdict_369 (by decide) ?_
            cases hf
            exact X_ireturn (pc := 426) rfl dX12_verdict_426
          · replace hf := (if_neg c25).symm.trans hf
            refine X_icmp_ne_t (pc := 365) 372 dX12_verdict_365 (by decide) c25 ?_
            refine X_iload_n (pc := 372) (i := 1) 4 dX12_verdict_372 rfl rfl ?_
            refine X_iconst (pc := 373) (2 : Int32) dX12_verdict_373 (by decide) ?_
            by_cases c26 : l1 = (2 : Int32)
            · replace hf := (if_pos c26).symm.trans hf
              refine X_icmp_ne_f (pc := 374) 382 dX12_verdict_374 (by decide) c26 ?_
              refine X_iload (pc := 377) 7 dX12_verdict_377 rfl ?_
              refine X_goto (pc := 379) 426 dX12_verdict_379 (by decide) ?_
              cases hf
              exact X_ireturn (pc := 426) rfl dX12_verdict_426
            · replace hf := (if_neg c26).symm.trans hf
              refine X_icmp_ne_t (pc := 374) 382 dX12_verdict_374 (by decide) c26 ?_
              refine X_iload_n (pc := 382) (i := 1) 4 dX12_verdict_382 rfl rfl ?_
              refine X_iconst (pc := 383) (3 : Int32) dX12_verdict_383 (by decide) ?_
              by_cases c27 : l1 = (3 : Int32)
              · replace hf := (if_pos c27).symm.trans hf
                refine X_icmp_ne_f (pc := 384) 392 dX12_verdict_384 (by decide) c27 ?_
                refine X_iload (pc := 387) 2 dX12_verdict_387 rfl ?_
                refine X_goto (pc := 389) 426 dX12_verdict_389 (by decide) ?_
                cases hf
                exact X_ireturn (pc := 426) rfl dX12_verdict_426
              · replace hf := (if_neg c27).symm.trans hf
                refine X_icmp_ne_t (pc := 384) 392 dX12_verdict_384 (by decide) c27 ?_
                refine X_iload_n (pc := 392) (i := 1) 4 dX12_verdict_392 rfl rfl ?_
                refine X_iconst (pc := 393) (4 : Int32) dX12_verdict_393 (by decide) ?_
                by_cases c28 : l1 = (4 : Int32)
                · replace hf := (if_pos c28).symm.trans hf
                  refine X_icmp_ne_f (pc := 394) 402 dX12_verdict_394 (by decide) c28 ?_
                  refine X_iload (pc := 397) 8 dX12_verdict_397 rfl ?_
                  refine X_goto (pc := 399) 426 dX12_verdict_399 (by decide) ?_
                  cases hf
                  exact X_ireturn (pc := 426) rfl dX12_verdict_426
                · replace hf := (if_neg c28).symm.trans hf
                  refine X_icmp_ne_t (pc := 394) 402 dX12_verdict_394 (by decide) c28 ?_
                  refine X_iload_n (pc := 402) (i := 1) 4 dX12_verdict_402 rfl rfl ?_
                  refine X_iconst (pc := 403) (5 : Int32) dX12_verdict_403 (by decide) ?_
                  by_cases c29 : l1 = (5 : Int32)
                  · replace hf := (if_pos c29).symm.trans hf
                    refine X_icmp_ne_f (pc := 404) 412 dX12_verdict_404 (by decide) c29 ?_
                    refine X_iload (pc := 407) 1 dX12_verdict_407 rfl ?_
                    refine X_goto (pc := 409) 426 dX12_verdict_409 (by decide) ?_
                    cases hf
                    exact X_ireturn (pc := 426) rfl dX12_verdict_426
                  · replace hf := (if_neg c29).symm.trans hf
                    refine X_icmp_ne_t (pc := 404) 412 dX12_verdict_404 (by decide) c29 ?_
                    refine X_iload_n (pc := 412) (i := 1) 4 dX12_verdict_412 rfl rfl ?_
                    refine X_bipush (pc := 413) (6 : Int32) dX12_verdict_413 (by decide) ?_
                    by_cases c30 : l1 = (6 : Int32)
                    · replace hf := (if_pos c30).symm.trans hf
                      refine X_icmp_ne_f (pc := 415) 423 dX12_verdict_415 (by decide) c30 ?_
                      refine X_iload (pc := 418) 0 dX12_verdict_418 rfl ?_
                      refine X_goto (pc := 420) 426 dX12_verdict_420 (by decide) ?_
                      cases hf
                      exact X_ireturn (pc := 426) rfl dX12_verdict_426
                    · replace hf := (if_neg c30).symm.trans hf
                      refine X_icmp_ne_t (pc := 415) 423 dX12_verdict_415 (by decide) c30 ?_
                      refine X_ldcw (pc := 423) (-9999999 : Int32) k_1761 dX12_verdict_423 ?_
                      cases hf
                      exact X_ireturn (pc := 426) rfl dX12_verdict_426
    · replace hf := (if_neg c3).symm.trans hf
      refine X_icmp_ge_f (pc := 95) 126 dX12_verdict_95 (by decide) c3 ?_
      refine X_iload (pc := 98) 5 dX12_verdict_98 rfl ?_
      refine X_bipush (pc := 100) (10 : Int32) dX12_verdict_100 (by decide) ?_
      refine X_aload_n (pc := 102) (i := 0) 0 dX12_verdict_102 rfl rfl ?_
      refine X_getr (pc := 103) (a := 34) (ci := 11) (j := 74) (c := 70) (sh_34 hT) (by decide) k_1302 (rf_34_74 hT) (fun _ h => h) dX12_verdict_103 ?_
      refine X_iload (pc := 106) 6 dX12_verdict_106 rfl ?_
      obtain ⟨c31, hf⟩ := gd_some hf
      refine X_ialdj (pc := 108) (j := l6.toNatClampNeg) (I 70 (l6.toNatClampNeg)) (sh_70 hT) (vp_in_lit (N := 15) c31 (by decide)) rfl rfl dX12_verdict_108 ?_
      refine X_imul (pc := 109) dX12_verdict_109 ?_
      refine X_iload_n (pc := 110) (i := 2) 2 dX12_verdict_110 rfl rfl ?_
      refine X_isub (pc := 111) dX12_verdict_111 ?_
      refine X_jabs (pc := 112) k_1596 (by decide) (Nat.le_of_ble_eq_true rfl) dX12_verdict_112 ?_
      obtain ⟨x32, ex32, hf⟩ := bnd_e hf
      refine X_tope ex32 ?_
      refine X_jmax (pc := 115) k_1594 (by decide) (Nat.le_of_ble_eq_true rfl) dX12_verdict_115 ?_
      obtain ⟨x33, ex33, hf⟩ := bnd_e hf
      refine X_tope ex33 ?_
      refine X_istore (pc := 118) [(5, .int x33), (0, .ref (xP G 34)), (1, .int l1), (2, .int l2), (3, .int l3), (4, .int l4), (6, .int l6)] dX12_verdict_118 (by decide) rfl ?_
      refine X_iinc (pc := 120) (i := 6) (q := 6) (v := (l6 + (1 : Int32))) [(6, .int (l6 + (1 : Int32))), (5, .int x33), (0, .ref (xP G 34)), (1, .int l1), (2, .int l2), (3, .int l3), (4, .int l4)] dX12_verdict_120 rfl rfl (by decide) rfl ?_
      refine X_goto (pc := 123) 91 dX12_verdict_123 (by decide) ?_
      exact X_lvs [2, 3, 4, 5, 6, 1, 0] rfl (ih hf)
def f_Md_verdict_L39 : Nat → Int32 → Int32 → Int32 → Int32 → Int32 → Int32 → (Nat → Nat → Int32) → (Nat → Nat → Int64) → Option Int32
  | 0, _, _, _, _, _, _, _, _ => none
  | n + 1, l1, l2, l3, l4, l5, l6, I, L => (if (10 : Int32) ≤ l6 then (f_Md_verdict_L91 xF l1 l2 l3 l4 l5 (0 : Int32) I L) else (if (0 ≤ l6 ∧ l6 < (15 : Int32)) then (if (0 ≤ (l6 + (1 : Int32)) ∧ (l6 + (1 : Int32)) < (15 : Int32)) then (bnd (jabs ((I 70 (l6.toNatClampNeg)) - (I 70 ((l6 + (1 : Int32)).toNatClampNeg)))) fun x36 => (bnd (l3 + x36) fun x37 => (bnd (jmax l4 x36) fun x38 => (f_Md_verdict_L39 n l1 l2 x37 x38 l5 (l6 + (2 : Int32)) I L)))) else none) else none))
set_option maxRecDepth 100000 in
set_option maxHeartbeats 4000000 in
theorem x_Md_verdict_L39 {G : xG} {S : List xSh} {Rf : Nat → Nat → Option Nat} (hT : xTM S Rf) : ∀ (n : Nat) {l1 : Int32} {l2 : Int32} {l3 : Int32} {l4 : Int32} {l5 : Int32} {l6 : Int32} {I : Nat → Nat → Int32} {L : Nat → Nat → Int64} {q : Int32}, f_Md_verdict_L39 n l1 l2 l3 l4 l5 l6 I L = some q → X G 2 m_Md_verdict 39 [(0, .ref (xP G 34)), (1, .int l1), (2, .int l2), (3, .int l3), (4, .int l4), (5, .int l5), (6, .int l6)] [] (S, I, L, Rf) (some (.int q), (S, I, L, Rf)) := by
  intro n
  induction n with
  | zero =>
    intro l1 l2 l3 l4 l5 l6 I L q hf
    exact absurd (show none = some q from hf) (by simp)
  | succ n ih =>
    intro l1 l2 l3 l4 l5 l6 I L q hf
    replace hf := (f_Md_verdict_L39.eq_2 _ _ _ _ _ _ _ _ _).symm.trans hf
    refine X_iload (pc := 39) 6 dX12_verdict_39 rfl ?_
    refine X_bipush (pc := 41) (10 : Int32) dX12_verdict_41 (by decide) ?_
    by_cases c2 : (10 : Int32) ≤ l6
    · replace hf := (if_pos c2).symm.trans hf
      refine X_icmp_ge_t (pc := 43) 88 dX12_verdict_43 (by decide) c2 ?_
      refine X_iconst (pc := 88) (0 : Int32) dX12_verdict_88 (by decide) ?_
      refine X_istore (pc := 89) [(6, .int (0 : Int32)), (0, .ref (xP G 34)), (1, .int l1), (2, .int l2), (3, .int l3), (4, .int l4), (5, .int l5)] dX12_verdict_89 (by decide) rfl ?_
      exact X_lvs [1, 2, 3, 4, 5, 6, 0] rfl (x_Md_verdict_L91 hT xF hf)
    · replace hf := (if_neg c2).symm.trans hf
      refine X_icmp_ge_f (pc := 43) 88 dX12_verdict_43 (by decide) c2 ?_
      refine X_aload_n (pc := 46) (i := 0) 0 dX12_verdict_46 rfl rfl ?_
      refine X_getr (pc := 47) (a := 34) (ci := 11) (j := 74) (c := 70) (sh_34 hT) (by decide) k_1302 (rf_34_74 hT) (fun _ h => h) dX12_verdict_47 ?_
      refine X_iload (pc := 50) 6 dX12_verdict_50 rfl ?_
      obtain ⟨c34, hf⟩ := gd_some hf
      refine X_ialdj (pc := 52) (j := l6.toNatClampNeg) (I 70 (l6.toNatClampNeg)) (sh_70 hT) (vp_in_lit (N := 15) c34 (by decide)) rfl rfl dX12_verdict_52 ?_
      refine X_aload_n (pc := 53) (i := 0) 0 dX12_verdict_53 rfl rfl ?_
      refine X_getr (pc := 54) (a := 34) (ci := 11) (j := 74) (c := 70) (sh_34 hT) (by decide) k_1302 (rf_34_74 hT) (fun _ h => h) dX12_verdict_54 ?_
      refine X_iload (pc := 57) 6 dX12_verdict_57 rfl ?_
      refine X_iconst (pc := 59) (1 : Int32) dX12_verdict_59 (by decide) ?_
      refine X_iadd (pc := 60) dX12_verdict_60 ?_
      obtain ⟨c35, hf⟩ := gd_some hf
      refine X_ialdj (pc := 61) (j := (l6 + (1 : Int32)).toNatClampNeg) (I 70 ((l6 + (1 : Int32)).toNatClampNeg)) (sh_70 hT) (vp_in_lit (N := 15) c35 (by decide)) rfl rfl dX12_verdict_61 ?_
      refine X_isub (pc := 62) dX12_verdict_62 ?_
      refine X_jabs (pc := 63) k_1596 (by decide) (Nat.le_of_ble_eq_true rfl) dX12_verdict_63 ?_
      obtain ⟨x36, ex36, hf⟩ := bnd_e hf
      refine X_tope ex36 ?_
      refine X_istore (pc := 66) [(7, .int x36), (0, .ref (xP G 34)), (1, .int l1), (2, .int l2), (3, .int l3), (4, .int l4), (5, .int l5), (6, .int l6)] dX12_verdict_66 (by decide) rfl ?_
      refine X_iload_n (pc := 68) (i := 3) 4 dX12_verdict_68 rfl rfl ?_
      refine X_iload (pc := 69) 0 dX12_verdict_69 rfl ?_
      refine X_iadd (pc := 71) dX12_verdict_71 ?_
      obtain ⟨x37, ex37, hf⟩ := bnd_e hf
      refine X_tope ex37 ?_
      refine X_istore_n (pc := 72) (i := 3) [(3, .int x37), (7, .int x36), (0, .ref (xP G 34)), (1, .int l1), (2, .int l2), (4, .int l4), (5, .int l5), (6, .int l6)] dX12_verdict_72 rfl (by decide) rfl ?_
      refine X_iload (pc := 73) 5 dX12_verdict_73 rfl ?_
      refine X_iload (pc := 75) 1 dX12_verdict_75 rfl ?_
      refine X_jmax (pc := 77) k_1594 (by decide) (Nat.le_of_ble_eq_true rfl) dX12_verdict_77 ?_
      obtain ⟨x38, ex38, hf⟩ := bnd_e hf
      refine X_tope ex38 ?_
      refine X_istore (pc := 80) [(4, .int x38), (3, .int x37), (7, .int x36), (0, .ref (xP G 34)), (1, .int l1), (2, .int l2), (5, .int l5), (6, .int l6)] dX12_verdict_80 (by decide) rfl ?_
      refine X_iinc (pc := 82) (i := 6) (q := 7) (v := (l6 + (2 : Int32))) [(6, .int (l6 + (2 : Int32))), (4, .int x38), (3, .int x37), (7, .int x36), (0, .ref (xP G 34)), (1, .int l1), (2, .int l2), (5, .int l5)] dX12_verdict_82 rfl rfl (by decide) rfl ?_
      refine X_goto (pc := 85) 39 dX12_verdict_85 (by decide) ?_
      exact X_lvs [4, 5, 6, 2, 1, 7, 0] rfl (ih hf)
def f_Md_verdict_L13 : Nat → Int32 → Int32 → Int32 → Int32 → Int32 → Int32 → (Nat → Nat → Int32) → (Nat → Nat → Int64) → Option Int32
  | 0, _, _, _, _, _, _, _, _ => none
  | n + 1, l1, l2, l3, l4, l5, l6, I, L => (if (10 : Int32) ≤ l6 then (f_Md_verdict_L39 xF l1 l2 l3 l4 l5 (0 : Int32) I L) else (if (0 ≤ l6 ∧ l6 < (15 : Int32)) then (bnd (l2 + (I 70 (l6.toNatClampNeg))) fun x40 => (f_Md_verdict_L13 n l1 x40 l3 l4 l5 (l6 + (1 : Int32)) I L)) else none))
set_option maxRecDepth 100000 in
set_option maxHeartbeats 4000000 in
theorem x_Md_verdict_L13 {G : xG} {S : List xSh} {Rf : Nat → Nat → Option Nat} (hT : xTM S Rf) : ∀ (n : Nat) {l1 : Int32} {l2 : Int32} {l3 : Int32} {l4 : Int32} {l5 : Int32} {l6 : Int32} {I : Nat → Nat → Int32} {L : Nat → Nat → Int64} {q : Int32}, f_Md_verdict_L13 n l1 l2 l3 l4 l5 l6 I L = some q → X G 2 m_Md_verdict 13 [(0, .ref (xP G 34)), (1, .int l1), (2, .int l2), (3, .int l3), (4, .int l4), (5, .int l5), (6, .int l6)] [] (S, I, L, Rf) (some (.int q), (S, I, L, Rf)) := by
  intro n
  induction n with
  | zero =>
    intro l1 l2 l3 l4 l5 l6 I L q hf
    exact absurd (show none = some q from hf) (by simp)
  | succ n ih =>
    intro l1 l2 l3 l4 l5 l6 I L q hf
    replace hf := (f_Md_verdict_L13.eq_2 _ _ _ _ _ _ _ _ _).symm.trans hf
    refine X_iload (pc := 13) 6 dX12_verdict_13 rfl ?_
    refine X_bipush (pc := 15) (10 : Int32) dX12_verdict_15 (by decide) ?_
    by_cases c1 : (10 : Int32) ≤ l6
    · replace hf := (if_pos c1).symm.trans hf
      refine X_icmp_ge_t (pc := 17) 36 dX12_verdict_17 (by decide) c1 ?_
      refine X_iconst (pc := 36) (0 : Int32) dX12_verdict_36 (by decide) ?_
      refine X_istore (pc := 37) [(6, .int (0 : Int32)), (0, .ref (xP G 34)), (1, .int l1), (2, .int l2), (3, .int l3), (4, .int l4), (5, .int l5)] dX12_verdict_37 (by decide) rfl ?_
      exact X_lvs [1, 2, 3, 4, 5, 6, 0] rfl (x_Md_verdict_L39 hT xF hf)
    · replace hf := (if_neg c1).symm.trans hf
      refine X_icmp_ge_f (pc := 17) 36 dX12_verdict_17 (by decide) c1 ?_
      refine X_iload_n (pc := 20) (i := 2) 2 dX12_verdict_20 rfl rfl ?_
      refine X_aload_n (pc := 21) (i := 0) 0 dX12_verdict_21 rfl rfl ?_
      refine X_getr (pc := 22) (a := 34) (ci := 11) (j := 74) (c := 70) (sh_34 hT) (by decide) k_1302 (rf_34_74 hT) (fun _ h => h) dX12_verdict_22 ?_
      refine X_iload (pc := 25) 6 dX12_verdict_25 rfl ?_
      obtain ⟨c39, hf⟩ := gd_some hf
      refine X_ialdj (pc := 27) (j := l6.toNatClampNeg) (I 70 (l6.toNatClampNeg)) (sh_70 hT) (vp_in_lit (N := 15) c39 (by decide)) rfl rfl dX12_verdict_27 ?_
      refine X_iadd (pc := 28) dX12_verdict_28 ?_
      obtain ⟨x40, ex40, hf⟩ := bnd_e hf
      refine X_tope ex40 ?_
      refine X_istore_n (pc := 29) (i := 2) [(2, .int x40), (0, .ref (xP G 34)), (1, .int l1), (3, .int l3), (4, .int l4), (5, .int l5), (6, .int l6)] dX12_verdict_29 rfl (by decide) rfl ?_
      refine X_iinc (pc := 30) (i := 6) (q := 6) (v := (l6 + (1 : Int32))) [(6, .int (l6 + (1 : Int32))), (2, .int x40), (0, .ref (xP G 34)), (1, .int l1), (3, .int l3), (4, .int l4), (5, .int l5)] dX12_verdict_30 rfl rfl (by decide) rfl ?_
      refine X_goto (pc := 33) 13 dX12_verdict_33 (by decide) ?_
      exact X_lvs [2, 3, 1, 4, 5, 6, 0] rfl (ih hf)
def f_Md_verdict (a0 : Int32) (I : Nat → Nat → Int32) (L : Nat → Nat → Int64) : Option Int32 := (f_Md_verdict_L13 xF a0 (0 : Int32) (0 : Int32) (0 : Int32) (0 : Int32) (0 : Int32) I L)
set_option maxRecDepth 100000 in
set_option maxHeartbeats 4000000 in
theorem c_Md_verdict {G : xG} {S : List xSh} {Rf : Nat → Nat → Option Nat} (hT : xTM S Rf) {a0 : Int32} {I : Nat → Nat → Int32} {L : Nat → Nat → Int64} {q : Int32} (hf : f_Md_verdict a0 I L = some q) : CT G 2 m_Md_verdict [.ref (xP G 34), .int a0] (S, I, L, Rf) (some (.int q), (S, I, L, Rf)) := by
  refine CT.of (by decide +kernel) (Nat.le_of_ble_eq_true rfl) ?_
  show X G 2 m_Md_verdict 0 [(0, .ref (xP G 34)), (1, .int a0)] [] (S, I, L, Rf) (some (.int q), (S, I, L, Rf))
  replace hf := (f_Md_verdict.eq_1 _ _ _).symm.trans hf
  refine X_iconst (pc := 0) (0 : Int32) dX12_verdict_0 (by decide) ?_
  refine X_istore_n (pc := 1) (i := 2) [(2, .int (0 : Int32)), (0, .ref (xP G 34)), (1, .int a0)] dX12_verdict_1 rfl (by decide) rfl ?_
  refine X_iconst (pc := 2) (0 : Int32) dX12_verdict_2 (by decide) ?_
  refine X_istore_n (pc := 3) (i := 3) [(3, .int (0 : Int32)), (2, .int (0 : Int32)), (0, .ref (xP G 34)), (1, .int a0)] dX12_verdict_3 rfl (by decide) rfl ?_
  refine X_iconst (pc := 4) (0 : Int32) dX12_verdict_4 (by decide) ?_
  refine X_istore (pc := 5) [(4, .int (0 : Int32)), (3, .int (0 : Int32)), (2, .int (0 : Int32)), (0, .ref (xP G 34)), (1, .int a0)] dX12_verdict_5 (by decide) rfl ?_
  refine X_iconst (pc := 7) (0 : Int32) dX12_verdict_7 (by decide) ?_
  refine X_istore (pc := 8) [(5, .int (0 : Int32)), (4, .int (0 : Int32)), (3, .int (0 : Int32)), (2, .int (0 : Int32)), (0, .ref (xP G 34)), (1, .int a0)] dX12_verdict_8 (by decide) rfl ?_
  refine X_iconst (pc := 10) (0 : Int32) dX12_verdict_10 (by decide) ?_
  refine X_istore (pc := 11) [(6, .int (0 : Int32)), (5, .int (0 : Int32)), (4, .int (0 : Int32)), (3, .int (0 : Int32)), (2, .int (0 : Int32)), (0, .ref (xP G 34)), (1, .int a0)] dX12_verdict_11 (by decide) rfl ?_
  exact X_lvs [5, 6, 4, 3, 2, 1, 0] rfl (x_Md_verdict_L13 hT xF hf)

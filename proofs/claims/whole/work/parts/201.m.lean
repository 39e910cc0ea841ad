theorem dX6_solve_0 : decode cX6_solve 0 = .ok (.lconst 0, 1) := by decide +kernel
theorem dX6_solve_1 : decode cX6_solve 1 = .ok (.lstore_n 3, 1) := by decide +kernel
theorem dX6_solve_2 : decode cX6_solve 2 = .ok (.lconst 1, 1) := by decide +kernel
theorem dX6_solve_3 : decode cX6_solve 3 = .ok (.lstore 5, 2) := by decide +kernel
theorem dX6_solve_5 : decode cX6_solve 5 = .ok (.iconst 0, 1) := by decide +kernel
theorem dX6_solve_6 : decode cX6_solve 6 = .ok (.istore 7, 2) := by decide +kernel
theorem dX6_solve_8 : decode cX6_solve 8 = .ok (.iload 7, 2) := by decide +kernel
theorem dX6_solve_10 : decode cX6_solve 10 = .ok (.iconst 3, 1) := by decide +kernel
theorem dX6_solve_11 : decode cX6_solve 11 = .ok (.if_icmp .ge 83, 3) := by decide +kernel
theorem dX6_solve_14 : decode cX6_solve 14 = .ok (.aload_n 0, 1) := by decide +kernel
theorem dX6_solve_15 : decode cX6_solve 15 = .ok (.getfield 21, 3) := by decide +kernel
theorem dX6_solve_18 : decode cX6_solve 18 = .ok (.iload_n 1, 1) := by decide +kernel
theorem dX6_solve_19 : decode cX6_solve 19 = .ok (.iconst 3, 1) := by decide +kernel
theorem dX6_solve_20 : decode cX6_solve 20 = .ok (.imul, 1) := by decide +kernel
theorem dX6_solve_21 : decode cX6_solve 21 = .ok (.iload 7, 2) := by decide +kernel
theorem dX6_solve_23 : decode cX6_solve 23 = .ok (.iadd, 1) := by decide +kernel
theorem dX6_solve_24 : decode cX6_solve 24 = .ok (.iaload, 1) := by decide +kernel
theorem dX6_solve_25 : decode cX6_solve 25 = .ok (.istore 8, 2) := by decide +kernel
theorem dX6_solve_27 : decode cX6_solve 27 = .ok (.iload 7, 2) := by decide +kernel
theorem dX6_solve_29 : decode cX6_solve 29 = .ok (.iload_n 2, 1) := by decide +kernel
theorem dX6_solve_30 : decode cX6_solve 30 = .ok (.if_icmp .eq 58, 3) := by decide +kernel
theorem dX6_solve_33 : decode cX6_solve 33 = .ok (.aload_n 0, 1) := by decide +kernel
theorem dX6_solve_34 : decode cX6_solve 34 = .ok (.iload 8, 2) := by decide +kernel
theorem dX6_solve_36 : decode cX6_solve 36 = .ok (.invokevirtual 48, 3) := by decide +kernel
theorem dX6_solve_39 : decode cX6_solve 39 = .ok (.ifCond .eq 49, 3) := by decide +kernel
theorem dX6_solve_42 : decode cX6_solve 42 = .ok (.lload_n 3, 1) := by decide +kernel
theorem dX6_solve_43 : decode cX6_solve 43 = .ok (.aload_n 0, 1) := by decide +kernel
theorem dX6_solve_44 : decode cX6_solve 44 = .ok (.getfield 15, 3) := by decide +kernel
theorem dX6_solve_47 : decode cX6_solve 47 = .ok (.iload 8, 2) := by decide +kernel
theorem dX6_solve_49 : decode cX6_solve 49 = .ok (.laload, 1) := by decide +kernel
theorem dX6_solve_50 : decode cX6_solve 50 = .ok (.lmul, 1) := by decide +kernel
theorem dX6_solve_51 : decode cX6_solve 51 = .ok (.aload_n 0, 1) := by decide +kernel
theorem dX6_solve_52 : decode cX6_solve 52 = .ok (.getfield 25, 3) := by decide +kernel
theorem dX6_solve_55 : decode cX6_solve 55 = .ok (.iload_n 1, 1) := by decide +kernel
theorem dX6_solve_56 : decode cX6_solve 56 = .ok (.iconst 3, 1) := by decide +kernel
theorem dX6_solve_57 : decode cX6_solve 57 = .ok (.imul, 1) := by decide +kernel
theorem dX6_solve_58 : decode cX6_solve 58 = .ok (.iload 7, 2) := by decide +kernel
theorem dX6_solve_60 : decode cX6_solve 60 = .ok (.iadd, 1) := by decide +kernel
theorem dX6_solve_61 : decode cX6_solve 61 = .ok (.iaload, 1) := by decide +kernel
theorem dX6_solve_62 : decode cX6_solve 62 = .ok (.i2l, 1) := by decide +kernel
theorem dX6_solve_63 : decode cX6_solve 63 = .ok (.aload_n 0, 1) := by decide +kernel
theorem dX6_solve_64 : decode cX6_solve 64 = .ok (.getfield 11, 3) := by decide +kernel
theorem dX6_solve_67 : decode cX6_solve 67 = .ok (.iload 8, 2) := by decide +kernel
theorem dX6_solve_69 : decode cX6_solve 69 = .ok (.laload, 1) := by decide +kernel
theorem dX6_solve_70 : decode cX6_solve 70 = .ok (.lmul, 1) := by decide +kernel
theorem dX6_solve_71 : decode cX6_solve 71 = .ok (.lload 5, 2) := by decide +kernel
theorem dX6_solve_73 : decode cX6_solve 73 = .ok (.lmul, 1) := by decide +kernel
theorem dX6_solve_74 : decode cX6_solve 74 = .ok (.ladd, 1) := by decide +kernel
theorem dX6_solve_75 : decode cX6_solve 75 = .ok (.lstore_n 3, 1) := by decide +kernel
theorem dX6_solve_76 : decode cX6_solve 76 = .ok (.lload 5, 2) := by decide +kernel
theorem dX6_solve_78 : decode cX6_solve 78 = .ok (.aload_n 0, 1) := by decide +kernel
theorem dX6_solve_79 : decode cX6_solve 79 = .ok (.getfield 15, 3) := by decide +kernel
theorem dX6_solve_82 : decode cX6_solve 82 = .ok (.iload 8, 2) := by decide +kernel
theorem dX6_solve_84 : decode cX6_solve 84 = .ok (.laload, 1) := by decide +kernel
theorem dX6_solve_85 : decode cX6_solve 85 = .ok (.lmul, 1) := by decide +kernel
theorem dX6_solve_86 : decode cX6_solve 86 = .ok (.lstore 5, 2) := by decide +kernel
theorem dX6_solve_88 : decode cX6_solve 88 = .ok (.iinc 7 1, 3) := by decide +kernel
theorem dX6_solve_91 : decode cX6_solve 91 = .ok (.goto (-83), 3) := by decide +kernel
theorem dX6_solve_94 : decode cX6_solve 94 = .ok (.lload 5, 2) := by decide +kernel
theorem dX6_solve_96 : decode cX6_solve 96 = .ok (.aload_n 0, 1) := by decide +kernel
theorem dX6_solve_97 : decode cX6_solve 97 = .ok (.getfield 25, 3) := by decide +kernel
theorem dX6_solve_100 : decode cX6_solve 100 = .ok (.iload_n 1, 1) := by decide +kernel
theorem dX6_solve_101 : decode cX6_solve 101 = .ok (.iconst 3, 1) := by decide +kernel
theorem dX6_solve_102 : decode cX6_solve 102 = .ok (.imul, 1) := by decide +kernel
theorem dX6_solve_103 : decode cX6_solve 103 = .ok (.iload_n 2, 1) := by decide +kernel
theorem dX6_solve_104 : decode cX6_solve 104 = .ok (.iadd, 1) := by decide +kernel
theorem dX6_solve_105 : decode cX6_solve 105 = .ok (.iaload, 1) := by decide +kernel
theorem dX6_solve_106 : decode cX6_solve 106 = .ok (.i2l, 1) := by decide +kernel
theorem dX6_solve_107 : decode cX6_solve 107 = .ok (.lmul, 1) := by decide +kernel
theorem dX6_solve_108 : decode cX6_solve 108 = .ok (.lstore 7, 2) := by decide +kernel
theorem dX6_solve_110 : decode cX6_solve 110 = .ok (.lload_n 3, 1) := by decide +kernel
theorem dX6_solve_111 : decode cX6_solve 111 = .ok (.lload 7, 2) := by decide +kernel
theorem dX6_solve_113 : decode cX6_solve 113 = .ok (.invokestatic 107, 3) := by decide +kernel
theorem dX6_solve_116 : decode cX6_solve 116 = .ok (.lstore 9, 2) := by decide +kernel
theorem dX6_solve_118 : decode cX6_solve 118 = .ok (.aload_n 0, 1) := by decide +kernel
theorem dX6_solve_119 : decode cX6_solve 119 = .ok (.lconst 0, 1) := by decide +kernel
theorem dX6_solve_120 : decode cX6_solve 120 = .ok (.putfield 98, 3) := by decide +kernel
theorem dX6_solve_123 : decode cX6_solve 123 = .ok (.aload_n 0, 1) := by decide +kernel
theorem dX6_solve_124 : decode cX6_solve 124 = .ok (.lconst 0, 1) := by decide +kernel
theorem dX6_solve_125 : decode cX6_solve 125 = .ok (.putfield 104, 3) := by decide +kernel
theorem dX6_solve_128 : decode cX6_solve 128 = .ok (.lload 9, 2) := by decide +kernel
theorem dX6_solve_130 : decode cX6_solve 130 = .ok (.lconst 0, 1) := by decide +kernel
theorem dX6_solve_131 : decode cX6_solve 131 = .ok (.lcmp, 1) := by decide +kernel
theorem dX6_solve_132 : decode cX6_solve 132 = .ok (.ifCond .eq 43, 3) := by decide +kernel
theorem dX6_solve_135 : decode cX6_solve 135 = .ok (.lload 7, 2) := by decide +kernel
theorem dX6_solve_137 : decode cX6_solve 137 = .ok (.lconst 0, 1) := by decide +kernel
theorem dX6_solve_138 : decode cX6_solve 138 = .ok (.lcmp, 1) := by decide +kernel
theorem dX6_solve_139 : decode cX6_solve 139 = .ok (.ifCond .le 9, 3) := by decide +kernel
theorem dX6_solve_142 : decode cX6_solve 142 = .ok (.ldc2_w 111, 3) := by decide +kernel
theorem dX6_solve_145 : decode cX6_solve 145 = .ok (.goto 4, 3) := by decide +kernel
theorem dX6_solve_148 : decode cX6_solve 148 = .ok (.lconst 1, 1) := by decide +kernel
theorem dX6_solve_149 : decode cX6_solve 149 = .ok (.lstore 11, 2) := by decide +kernel
theorem dX6_solve_151 : decode cX6_solve 151 = .ok (.aload_n 0, 1) := by decide +kernel
theorem dX6_solve_152 : decode cX6_solve 152 = .ok (.lload 11, 2) := by decide +kernel
theorem dX6_solve_154 : decode cX6_solve 154 = .ok (.lload_n 3, 1) := by decide +kernel
theorem dX6_solve_155 : decode cX6_solve 155 = .ok (.lmul, 1) := by decide +kernel
theorem dX6_solve_156 : decode cX6_solve 156 = .ok (.lload 9, 2) := by decide +kernel
theorem dX6_solve_158 : decode cX6_solve 158 = .ok (.ldiv, 1) := by decide +kernel
theorem dX6_solve_159 : decode cX6_solve 159 = .ok (.putfield 98, 3) := by decide +kernel
theorem dX6_solve_162 : decode cX6_solve 162 = .ok (.aload_n 0, 1) := by decide +kernel
theorem dX6_solve_163 : decode cX6_solve 163 = .ok (.lload 11, 2) := by decide +kernel
theorem dX6_solve_165 : decode cX6_solve 165 = .ok (.lneg, 1) := by decide +kernel
theorem dX6_solve_166 : decode cX6_solve 166 = .ok (.lload 7, 2) := by decide +kernel
theorem dX6_solve_168 : decode cX6_solve 168 = .ok (.lmul, 1) := by decide +kernel
theorem dX6_solve_169 : decode cX6_solve 169 = .ok (.lload 9, 2) := by decide +kernel
theorem dX6_solve_171 : decode cX6_solve 171 = .ok (.ldiv, 1) := by decide +kernel
theorem dX6_solve_172 : decode cX6_solve 172 = .ok (.putfield 104, 3) := by decide +kernel
theorem dX6_solve_175 : decode cX6_solve 175 = .ok (.return_, 1) := by decide +kernel
def f_Ge_solve_L149 (l3 : Int64) (l7 : Int64) (l9 : Int64) (s0 : Int64) (I : (Nat → Nat → Int32)) (L : (Nat → Nat → Int64)) : Option ((Nat → Nat → Int32) × (Nat → Nat → Int64)) := (if ¬ l9 = (0 : Int64) then (bnd ((s0 * l3) / l9) fun x9 => (if ¬ l9 = (0 : Int64) then (bnd (((-s0) * l7) / l9) fun x11 => (some (I, (uL (uL L 2 10 x9) 2 11 x11)))) else none)) else none)
set_option maxRecDepth 100000 in
set_option maxHeartbeats 4000000 in
theorem x_Ge_solve_L149 {G : xG} {S : List xSh} {Rf : Nat → Nat → Option Nat} (hT : xTH S Rf) {l3 : Int64} {l7 : Int64} {l9 : Int64} {s0 : Int64} {I : Nat → Nat → Int32} {L : Nat → Nat → Int64} {q : ((Nat → Nat → Int32) × (Nat → Nat → Int64))} (hf : f_Ge_solve_L149 l3 l7 l9 s0 I L = some q) : X G 2 m_Ge_solve 149 [(0, .ref (xP G 2)), (3, .long l3), (7, .long l7), (9, .long l9)] [.long s0] (S, I, L, Rf) (none, (S, q.1, q.2, Rf)) := by
  replace hf := (f_Ge_solve_L149.eq_1 _ _ _ _ _ _).symm.trans hf
  refine X_lstore (pc := 149) [(11, .long s0), (0, .ref (xP G 2)), (3, .long l3), (7, .long l7), (9, .long l9)] dX6_solve_149 (by decide) rfl ?_
  refine X_aload_n (pc := 151) (i := 0) 1 dX6_solve_151 rfl rfl ?_
  refine X_lload (pc := 152) 0 dX6_solve_152 rfl ?_
  refine X_lload_n (pc := 154) (i := 3) 2 dX6_solve_154 rfl rfl ?_
  refine X_lmul (pc := 155) dX6_solve_155 ?_
  refine X_lload (pc := 156) 4 dX6_solve_156 rfl ?_
  obtain ⟨c8, hf⟩ := gd_some hf
  refine X_ldiv (pc := 158) dX6_solve_158 c8 ?_
  obtain ⟨x9, ex9, hf⟩ := bnd_e hf
  refine X_tople ex9 ?_
  refine X_putl (pc := 159) (a := 2) (ci := 6) (j := 10) 10 rfl false (sh_2 hT) (by decide) k_123 rfl (fun h => by cases h) rfl dX6_solve_159 ?_
  refine X_aload_n (pc := 162) (i := 0) 1 dX6_solve_162 rfl rfl ?_
  refine X_lload (pc := 163) 0 dX6_solve_163 rfl ?_
  refine X_lneg (pc := 165) dX6_solve_165 ?_
  refine X_lload (pc := 166) 3 dX6_solve_166 rfl ?_
  refine X_lmul (pc := 168) dX6_solve_168 ?_
  refine X_lload (pc := 169) 4 dX6_solve_169 rfl ?_
  obtain ⟨c10, hf⟩ := gd_some hf
  refine X_ldiv (pc := 171) dX6_solve_171 c10 ?_
  obtain ⟨x11, ex11, hf⟩ := bnd_e hf
  refine X_tople ex11 ?_
  refine X_putl (pc := 172) (a := 2) (ci := 6) (j := 11) 11 rfl false (sh_2 hT) (by decide) k_124 rfl (fun h => by cases h) rfl dX6_solve_172 ?_
  cases hf
  exact X_return (pc := 175) rfl dX6_solve_175
theorem u_Ge_solve_L149 {S : List xSh} {l3 : Int64} {l7 : Int64} {l9 : Int64} {s0 : Int64} {I : Nat → Nat → Int32} {L : Nat → Nat → Int64} {q : ((Nat → Nat → Int32) × (Nat → Nat → Int64))} (hf : f_Ge_solve_L149 l3 l7 l9 s0 I L = some q) : FR S [] [1210, 1211] I q.1 L q.2 := by
  replace hf := (f_Ge_solve_L149.eq_1 _ _ _ _ _ _).symm.trans hf
  obtain ⟨c8, hf⟩ := gd_some hf
  obtain ⟨x9, ex9, hf⟩ := bnd_e hf
  obtain ⟨c10, hf⟩ := gd_some hf
  obtain ⟨x11, ex11, hf⟩ := bnd_e hf
  cases hf
  exact (FR.fl (FR.fl FR.rf (by decide)) (by decide))
def f_Ge_solve_L8 : Nat → Int32 → Int32 → Int64 → Int64 → Int32 → (Nat → Nat → Int32) → (Nat → Nat → Int64) → Option ((Nat → Nat → Int32) × (Nat → Nat → Int64))
  | 0, _, _, _, _, _, _, _ => none
  | n + 1, l1, l2, l3, l5, l7, I, L => (if (3 : Int32) ≤ l7 then (if (0 ≤ ((l1 * (3 : Int32)) + l2) ∧ ((l1 * (3 : Int32)) + l2) < (120 : Int32)) then (bnd (l5 * (Int32.toInt64 (I 7 (((l1 * (3 : Int32)) + l2).toNatClampNeg)))) fun x3 => ((f_H_commonDivisor l3 x3).bind fun q4 => (if q4 = (0 : Int64) then (some (I, (uL (uL L 2 10 (0 : Int64)) 2 11 (0 : Int64)))) else (if x3 ≤ (0 : Int64) then (f_Ge_solve_L149 l3 x3 q4 (1 : Int64) I (uL (uL L 2 10 (0 : Int64)) 2 11 (0 : Int64))) else (f_Ge_solve_L149 l3 x3 q4 (-1 : Int64) I (uL (uL L 2 10 (0 : Int64)) 2 11 (0 : Int64))))))) else none) else (if (0 ≤ ((l1 * (3 : Int32)) + l7) ∧ ((l1 * (3 : Int32)) + l7) < (120 : Int32)) then (bnd (I 6 (((l1 * (3 : Int32)) + l7).toNatClampNeg)) fun x13 => (if l7 = l2 then (f_Ge_solve_L8 n l1 l2 l3 l5 (l7 + (1 : Int32)) I L) else (if (f_Ge_hasArbor x13 I L) = (0 : Int32) then (f_Ge_solve_L8 n l1 l2 l3 l5 (l7 + (1 : Int32)) I L) else (if (0 ≤ x13 ∧ x13 < (24 : Int32)) then (if (0 ≤ ((l1 * (3 : Int32)) + l7) ∧ ((l1 * (3 : Int32)) + l7) < (120 : Int32)) then (if (0 ≤ x13 ∧ x13 < (24 : Int32)) then (bnd ((Int32.toInt64 (I 7 (((l1 * (3 : Int32)) + l7).toNatClampNeg))) * (L 3 (x13.toNatClampNeg))) fun x19 => (bnd ((l3 * (L 4 (x13.toNatClampNeg))) + (x19 * l5)) fun x20 => (if (0 ≤ x13 ∧ x13 < (24 : Int32)) then (bnd (l5 * (L 4 (x13.toNatClampNeg))) fun x22 => (f_Ge_solve_L8 n l1 l2 x20 x22 (l7 + (1 : Int32)) I L)) else none))) else none) else none) else none)))) else none))
set_option maxRecDepth 100000 in
set_option maxHeartbeats 4000000 in
theorem x_Ge_solve_L8 {G : xG} {S : List xSh} {Rf : Nat → Nat → Option Nat} (hT : xTH S Rf) : ∀ (n : Nat) {l1 : Int32} {l2 : Int32} {l3 : Int64} {l5 : Int64} {l7 : Int32} {I : Nat → Nat → Int32} {L : Nat → Nat → Int64} {q : ((Nat → Nat → Int32) × (Nat → Nat → Int64))}, f_Ge_solve_L8 n l1 l2 l3 l5 l7 I L = some q → X G 2 m_Ge_solve 8 [(0, .ref (xP G 2)), (1, .int l1), (2, .int l2), (3, .long l3), (5, .long l5), (7, .int l7)] [] (S, I, L, Rf) (none, (S, q.1, q.2, Rf)) := by
  intro n
  induction n with
  | zero =>
    intro l1 l2 l3 l5 l7 I L q hf
    exact absurd (show none = some q from hf) (by simp)
  | succ n ih =>
    intro l1 l2 l3 l5 l7 I L q hf
    replace hf := (f_Ge_solve_L8.eq_2 _ _ _ _ _ _ _ _).symm.trans hf
    refine X_iload (pc := 8) 5 dX6_solve_8 rfl ?_
    refine X_iconst (pc := 10) (3 : Int32) dX6_solve_10 (by decide) ?_
    by_cases c1 : (3 : Int32) ≤ l7
    · replace hf := (if_pos c1).symm.trans hf
      refine X_icmp_ge_t (pc := 11) 94 dX6_solve_11 (by decide) c1 ?_
      refine X_lload (pc := 94) 4 dX6_solve_94 rfl ?_
      refine X_aload_n (pc := 96) (i := 0) 0 dX6_solve_96 rfl rfl ?_
      refine X_getr (pc := 97) (a := 2) (ci := 6) (j := 9) (c := 7) (sh_2 hT) (by decide) k_122 (rf_2_9 hT) (fun _ h => h) dX6_solve_97 ?_
      refine X_iload_n (pc := 100) (i := 1) 1 dX6_solve_100 rfl rfl ?_
      refine X_iconst (pc := 101) (3 : Int32) dX6_solve_101 (by decide) ?_
      refine X_imul (pc := 102) dX6_solve_102 ?_
      refine X_iload_n (pc := 103) (i := 2) 2 dX6_solve_103 rfl rfl ?_
      refine X_iadd (pc := 104) dX6_solve_104 ?_
      obtain ⟨c2, hf⟩ := gd_some hf
      refine X_ialdj (pc := 105) (j := ((l1 * (3 : Int32)) + l2).toNatClampNeg) (I 7 (((l1 * (3 : Int32)) + l2).toNatClampNeg)) (sh_7 hT) (vp_in_lit (N := 120) c2 (by decide)) rfl rfl dX6_solve_105 ?_
      refine X_i2l (pc := 106) dX6_solve_106 ?_
      refine X_lmul (pc := 107) dX6_solve_107 ?_
      obtain ⟨x3, ex3, hf⟩ := bnd_e hf
      refine X_tople ex3 ?_
      refine X_lstore (pc := 108) [(7, .long x3), (0, .ref (xP G 2)), (1, .int l1), (2, .int l2), (3, .long l3), (5, .long l5)] dX6_solve_108 (by decide) rfl ?_
      refine X_lload_n (pc := 110) (i := 3) 4 dX6_solve_110 rfl rfl ?_
      refine X_lload (pc := 111) 0 dX6_solve_111 rfl ?_
      obtain ⟨q4, c5, hf⟩ := bd_some hf
      refine X_invSN_l (pc := 113) (c_H_commonDivisor hT c5) ok_H_commonDivisor k_595 k_596 nd_9 (by decide) rfl (Nat.le_of_ble_eq_true rfl) dX6_solve_113 ?_
      refine X_lstore (pc := 116) [(9, .long q4), (7, .long x3), (0, .ref (xP G 2)), (1, .int l1), (2, .int l2), (3, .long l3), (5, .long l5)] dX6_solve_116 (by decide) rfl ?_
      refine X_aload_n (pc := 118) (i := 0) 2 dX6_solve_118 rfl rfl ?_
      refine X_lconst (pc := 119) (0 : Int64) dX6_solve_119 (by decide) ?_
      refine X_putl (pc := 120) (a := 2) (ci := 6) (j := 10) 10 rfl false (sh_2 hT) (by decide) k_123 rfl (fun h => by cases h) rfl dX6_solve_120 ?_
      refine X_aload_n (pc := 123) (i := 0) 2 dX6_solve_123 rfl rfl ?_
      refine X_lconst (pc := 124) (0 : Int64) dX6_solve_124 (by decide) ?_
      refine X_putl (pc := 125) (a := 2) (ci := 6) (j := 11) 11 rfl false (sh_2 hT) (by decide) k_124 rfl (fun h => by cases h) rfl dX6_solve_125 ?_
      refine X_lload (pc := 128) 0 dX6_solve_128 rfl ?_
      refine X_lconst (pc := 130) (0 : Int64) dX6_solve_130 (by decide) ?_
      refine X_lcmp (pc := 131) dX6_solve_131 ?_
      by_cases c6 : q4 = (0 : Int64)
      · replace hf := (if_pos c6).symm.trans hf
        refine X_if_eq_t (pc := 132) 175 dX6_solve_132 (by decide) ((lg_cmp_eq _ _).mpr c6) ?_
        cases hf
        exact X_return (pc := 175) rfl dX6_solve_175
      · replace hf := (if_neg c6).symm.trans hf
        refine X_if_eq_f (pc := 132) 175 dX6_solve_132 (by decide) (fun h => c6 ((lg_cmp_eq _ _).mp h)) ?_
        refine X_lload (pc := 135) 1 dX6_solve_135 rfl ?_
        refine X_lconst (pc := 137) (0 : Int64) dX6_solve_137 (by decide) ?_
        refine X_lcmp (pc := 138) dX6_solve_138 ?_
        by_cases c7 : x3 ≤ (0 : Int64)
        · replace hf := (if_pos c7).symm.trans hf
          refine X_if_le_t (pc := 139) 148 dX6_solve_139 (by decide) ((lg_cmp_le _ _).mpr c7) ?_
          refine X_lconst (pc := 148) (1 : Int64) dX6_solve_148 (by decide) ?_
          exact X_lvs [2, 5, 1, 0] rfl (x_Ge_solve_L149 hT hf)
        · replace hf := (if_neg c7).symm.trans hf
          refine X_if_le_f (pc := 139) 148 dX6_solve_139 (by decide) (fun h => c7 ((lg_cmp_le _ _).mp h)) ?_
          refine X_ldc2 (pc := 142) (-1 : Int64) k_601 dX6_solve_142 ?_
          refine X_goto (pc := 145) 149 dX6_solve_145 (by decide) ?_
          exact X_lvs [2, 5, 1, 0] rfl (x_Ge_solve_L149 hT hf)
    · replace hf := (if_neg c1).symm.trans hf
      refine X_icmp_ge_f (pc := 11) 94 dX6_solve_11 (by decide) c1 ?_
      refine X_aload_n (pc := 14) (i := 0) 0 dX6_solve_14 rfl rfl ?_
      refine X_getr (pc := 15) (a := 2) (ci := 6) (j := 8) (c := 6) (sh_2 hT) (by decide) k_121 (rf_2_8 hT) (fun _ h => h) dX6_solve_15 ?_
      refine X_iload_n (pc := 18) (i := 1) 1 dX6_solve_18 rfl rfl ?_
      refine X_iconst (pc := 19) (3 : Int32) dX6_solve_19 (by decide) ?_
      refine X_imul (pc := 20) dX6_solve_20 ?_
      refine X_iload (pc := 21) 5 dX6_solve_21 rfl ?_
      refine X_iadd (pc := 23) dX6_solve_23 ?_
      obtain ⟨c12, hf⟩ := gd_some hf
      refine X_ialdj (pc := 24) (j := ((l1 * (3 : Int32)) + l7).toNatClampNeg) (I 6 (((l1 * (3 : Int32)) + l7).toNatClampNeg)) (sh_6 hT) (vp_in_lit (N := 120) c12 (by decide)) rfl rfl dX6_solve_24 ?_
      obtain ⟨x13, ex13, hf⟩ := bnd_e hf
      refine X_tope ex13 ?_
      refine X_istore (pc := 25) [(8, .int x13), (0, .ref (xP G 2)), (1, .int l1), (2, .int l2), (3, .long l3), (5, .long l5), (7, .int l7)] dX6_solve_25 (by decide) rfl ?_
      refine X_iload (pc := 27) 6 dX6_solve_27 rfl ?_
      refine X_iload_n (pc := 29) (i := 2) 3 dX6_solve_29 rfl rfl ?_
      by_cases c14 : l7 = l2
      · replace hf := (if_pos c14).symm.trans hf
        refine X_icmp_eq_t (pc := 30) 88 dX6_solve_30 (by decide) c14 ?_
        refine X_iinc (pc := 88) (i := 7) (q := 6) (v := (l7 + (1 : Int32))) [(7, .int (l7 + (1 : Int32))), (8, .int x13), (0, .ref (xP G 2)), (1, .int l1), (2, .int l2), (3, .long l3), (5, .long l5)] dX6_solve_88 rfl rfl (by decide) rfl ?_
        refine X_goto (pc := 91) 8 dX6_solve_91 (by decide) ?_
        exact X_lvs [2, 3, 4, 5, 6, 0] rfl (ih hf)
      · replace hf := (if_neg c14).symm.trans hf
        refine X_icmp_eq_f (pc := 30) 88 dX6_solve_30 (by decide) c14 ?_
        refine X_aload_n (pc := 33) (i := 0) 1 dX6_solve_33 rfl rfl ?_
        refine X_iload (pc := 34) 0 dX6_solve_34 rfl ?_
        refine X_invV_i (pc := 36) (c_Ge_hasArbor hT rfl) ok_Ge_hasArbor (ci := 6) (sh_2 hT) k_578 k_560 k_561 nd_5 (by decide) rfl (Nat.le_of_ble_eq_true rfl) dX6_solve_36 ?_
        by_cases c15 : (f_Ge_hasArbor x13 I L) = (0 : Int32)
        · replace hf := (if_pos c15).symm.trans hf
          refine X_if_eq_t (pc := 39) 88 dX6_solve_39 (by decide) c15 ?_
          refine X_iinc (pc := 88) (i := 7) (q := 6) (v := (l7 + (1 : Int32))) [(7, .int (l7 + (1 : Int32))), (8, .int x13), (0, .ref (xP G 2)), (1, .int l1), (2, .int l2), (3, .long l3), (5, .long l5)] dX6_solve_88 rfl rfl (by decide) rfl ?_
          refine X_goto (pc := 91) 8 dX6_solve_91 (by decide) ?_
          exact X_lvs [2, 3, 4, 5, 6, 0] rfl (ih hf)
        · replace hf := (if_neg c15).symm.trans hf
          refine X_if_eq_f (pc := 39) 88 dX6_solve_39 (by decide) c15 ?_
          refine X_lload_n (pc := 42) (i := 3) 4 dX6_solve_42 rfl rfl ?_
          refine X_aload_n (pc := 43) (i := 0) 1 dX6_solve_43 rfl rfl ?_
          refine X_getr (pc := 44) (a := 2) (ci := 6) (j := 6) (c := 4) (sh_2 hT) (by decide) k_118 (rf_2_6 hT) (fun _ h => h) dX6_solve_44 ?_
          refine X_iload (pc := 47) 0 dX6_solve_47 rfl ?_
          obtain ⟨c16, hf⟩ := gd_some hf
          refine X_laldj (pc := 49) (j := x13.toNatClampNeg) (L 4 (x13.toNatClampNeg)) (sh_4 hT) (vp_in_lit (N := 24) c16 (by decide)) rfl rfl dX6_solve_49 ?_
          refine X_lmul (pc := 50) dX6_solve_50 ?_
          refine X_aload_n (pc := 51) (i := 0) 1 dX6_solve_51 rfl rfl ?_
          refine X_getr (pc := 52) (a := 2) (ci := 6) (j := 9) (c := 7) (sh_2 hT) (by decide) k_122 (rf_2_9 hT) (fun _ h => h) dX6_solve_52 ?_
          refine X_iload_n (pc := 55) (i := 1) 2 dX6_solve_55 rfl rfl ?_
          refine X_iconst (pc := 56) (3 : Int32) dX6_solve_56 (by decide) ?_
          refine X_imul (pc := 57) dX6_solve_57 ?_
          refine X_iload (pc := 58) 6 dX6_solve_58 rfl ?_
          refine X_iadd (pc := 60) dX6_solve_60 ?_
          obtain ⟨c17, hf⟩ := gd_some hf
          refine X_ialdj (pc := 61) (j := ((l1 * (3 : Int32)) + l7).toNatClampNeg) (I 7 (((l1 * (3 : Int32)) + l7).toNatClampNeg)) (sh_7 hT) (vp_in_lit (N := 120) c17 (by decide)) rfl rfl dX6_solve_61 ?_
          refine X_i2l (pc := 62) dX6_solve_62 ?_
          refine X_aload_n (pc := 63) (i := 0) 1 dX6_solve_63 rfl rfl ?_
          refine X_getr (pc := 64) (a := 2) (ci := 6) (j := 5) (c := 3) (sh_2 hT) (by decide) k_116 (rf_2_5 hT) (fun _ h => h) dX6_solve_64 ?_
          refine X_iload (pc := 67) 0 dX6_solve_67 rfl ?_
          obtain ⟨c18, hf⟩ := gd_some hf
          refine X_laldj (pc := 69) (j := x13.toNatClampNeg) (L 3 (x13.toNatClampNeg)) (sh_3 hT) (vp_in_lit (N := 24) c18 (by decide)) rfl rfl dX6_solve_69 ?_
          refine X_lmul (pc := 70) dX6_solve_70 ?_
          obtain ⟨x19, ex19, hf⟩ := bnd_e hf
          refine X_tople ex19 ?_
          refine X_lload (pc := 71) 5 dX6_solve_71 rfl ?_
          refine X_lmul (pc := 73) dX6_solve_73 ?_
          refine X_ladd (pc := 74) dX6_solve_74 ?_
          obtain ⟨x20, ex20, hf⟩ := bnd_e hf
          refine X_tople ex20 ?_
          refine X_lstore_n (pc := 75) (i := 3) [(3, .long x20), (8, .int x13), (0, .ref (xP G 2)), (1, .int l1), (2, .int l2), (5, .long l5), (7, .int l7)] dX6_solve_75 rfl (by decide) rfl ?_
          refine X_lload (pc := 76) 5 dX6_solve_76 rfl ?_
          refine X_aload_n (pc := 78) (i := 0) 2 dX6_solve_78 rfl rfl ?_
          refine X_getr (pc := 79) (a := 2) (ci := 6) (j := 6) (c := 4) (sh_2 hT) (by decide) k_118 (rf_2_6 hT) (fun _ h => h) dX6_solve_79 ?_
          refine X_iload (pc := 82) 1 dX6_solve_82 rfl ?_
          obtain ⟨c21, hf⟩ := gd_some hf
          refine X_laldj (pc := 84) (j := x13.toNatClampNeg) (L 4 (x13.toNatClampNeg)) (sh_4 hT) (vp_in_lit (N := 24) c21 (by decide)) rfl rfl dX6_solve_84 ?_
          refine X_lmul (pc := 85) dX6_solve_85 ?_
          obtain ⟨x22, ex22, hf⟩ := bnd_e hf
          refine X_tople ex22 ?_
          refine X_lstore (pc := 86) [(5, .long x22), (3, .long x20), (8, .int x13), (0, .ref (xP G 2)), (1, .int l1), (2, .int l2), (7, .int l7)] dX6_solve_86 (by decide) rfl ?_
          refine X_iinc (pc := 88) (i := 7) (q := 6) (v := (l7 + (1 : Int32))) [(7, .int (l7 + (1 : Int32))), (5, .long x22), (3, .long x20), (8, .int x13), (0, .ref (xP G 2)), (1, .int l1), (2, .int l2)] dX6_solve_88 rfl rfl (by decide) rfl ?_
          refine X_goto (pc := 91) 8 dX6_solve_91 (by decide) ?_
          exact X_lvs [4, 5, 6, 2, 1, 0] rfl (ih hf)
theorem u_Ge_solve_L8 {S : List xSh} : ∀ (n : Nat) {l1 : Int32} {l2 : Int32} {l3 : Int64} {l5 : Int64} {l7 : Int32} {I : Nat → Nat → Int32} {L : Nat → Nat → Int64} {q : ((Nat → Nat → Int32) × (Nat → Nat → Int64))}, f_Ge_solve_L8 n l1 l2 l3 l5 l7 I L = some q → FR S [] [1210, 1211] I q.1 L q.2 := by
  intro n
  induction n with
  | zero =>
    intro l1 l2 l3 l5 l7 I L q hf
    exact absurd (show none = some q from hf) (by simp)
  | succ n ih =>
    intro l1 l2 l3 l5 l7 I L q hf
    replace hf := (f_Ge_solve_L8.eq_2 _ _ _ _ _ _ _ _).symm.trans hf
    by_cases c1 : (3 : Int32) ≤ l7
    · replace hf := (if_pos c1).symm.trans hf
      obtain ⟨c2, hf⟩ := gd_some hf
      obtain ⟨x3, ex3, hf⟩ := bnd_e hf
      obtain ⟨q4, c5, hf⟩ := bd_some hf
      by_cases c6 : q4 = (0 : Int64)
      · replace hf := (if_pos c6).symm.trans hf
        cases hf
        exact (FR.fl (FR.fl FR.rf (by decide)) (by decide))
      · replace hf := (if_neg c6).symm.trans hf
        by_cases c7 : x3 ≤ (0 : Int64)
        · replace hf := (if_pos c7).symm.trans hf
          exact FR.tr (FR.fl (FR.fl FR.rf (by decide)) (by decide)) (u_Ge_solve_L149 hf) (by decide) (by decide)
        · replace hf := (if_neg c7).symm.trans hf
          exact FR.tr (FR.fl (FR.fl FR.rf (by decide)) (by decide)) (u_Ge_solve_L149 hf) (by decide) (by decide)
    · replace hf := (if_neg c1).symm.trans hf
      obtain ⟨c12, hf⟩ := gd_some hf
      obtain ⟨x13, ex13, hf⟩ := bnd_e hf
      by_cases c14 : l7 = l2
      · replace hf := (if_pos c14).symm.trans hf
        exact FR.tr FR.rf (ih hf) (by decide) (by decide)
      · replace hf := (if_neg c14).symm.trans hf
        by_cases c15 : (f_Ge_hasArbor x13 I L) = (0 : Int32)
        · replace hf := (if_pos c15).symm.trans hf
          exact FR.tr FR.rf (ih hf) (by decide) (by decide)
        · replace hf := (if_neg c15).symm.trans hf
          obtain ⟨c16, hf⟩ := gd_some hf
          obtain ⟨c17, hf⟩ := gd_some hf
          obtain ⟨c18, hf⟩ := gd_some hf
          obtain ⟨x19, ex19, hf⟩ := bnd_e hf
          obtain ⟨x20, ex20, hf⟩ := bnd_e hf
          obtain ⟨c21, hf⟩ := gd_some hf
          obtain ⟨x22, ex22, hf⟩ := bnd_e hf
          exact FR.tr FR.rf (ih hf) (by decide) (by decide)
def f_Ge_solve (a0 : Int32) (a1 : Int32) (I : Nat → Nat → Int32) (L : Nat → Nat → Int64) : Option ((Nat → Nat → Int32) × (Nat → Nat → Int64)) := (f_Ge_solve_L8 xF a0 a1 (0 : Int64) (1 : Int64) (0 : Int32) I L)
set_option maxRecDepth 100000 in
set_option maxHeartbeats 4000000 in
theorem c_Ge_solve {G : xG} {S : List xSh} {Rf : Nat → Nat → Option Nat} (hT : xTH S Rf) {a0 : Int32} {a1 : Int32} {I : Nat → Nat → Int32} {L : Nat → Nat → Int64} {q : ((Nat → Nat → Int32) × (Nat → Nat → Int64))} (hf : f_Ge_solve a0 a1 I L = some q) : CT G 2 m_Ge_solve [.ref (xP G 2), .int a0, .int a1] (S, I, L, Rf) (none, (S, q.1, q.2, Rf)) := by
  refine CT.of (by decide +kernel) (Nat.le_of_ble_eq_true rfl) ?_
  show X G 2 m_Ge_solve 0 [(0, .ref (xP G 2)), (1, .int a0), (2, .int a1)] [] (S, I, L, Rf) (none, (S, q.1, q.2, Rf))
  replace hf := (f_Ge_solve.eq_1 _ _ _ _).symm.trans hf
  refine X_lconst (pc := 0) (0 : Int64) dX6_solve_0 (by decide) ?_
  refine X_lstore_n (pc := 1) (i := 3) [(3, .long (0 : Int64)), (0, .ref (xP G 2)), (1, .int a0), (2, .int a1)] dX6_solve_1 rfl (by decide) rfl ?_
  refine X_lconst (pc := 2) (1 : Int64) dX6_solve_2 (by decide) ?_
  refine X_lstore (pc := 3) [(5, .long (1 : Int64)), (3, .long (0 : Int64)), (0, .ref (xP G 2)), (1, .int a0), (2, .int a1)] dX6_solve_3 (by decide) rfl ?_
  refine X_iconst (pc := 5) (0 : Int32) dX6_solve_5 (by decide) ?_
  refine X_istore (pc := 6) [(7, .int (0 : Int32)), (5, .long (1 : Int64)), (3, .long (0 : Int64)), (0, .ref (xP G 2)), (1, .int a0), (2, .int a1)] dX6_solve_6 (by decide) rfl ?_
  exact X_lvs [3, 4, 5, 2, 1, 0] rfl (x_Ge_solve_L8 hT xF hf)
theorem u_Ge_solve {S : List xSh} {a0 : Int32} {a1 : Int32} {I : Nat → Nat → Int32} {L : Nat → Nat → Int64} {q : ((Nat → Nat → Int32) × (Nat → Nat → Int64))} (hf : f_Ge_solve a0 a1 I L = some q) : FR S [] [1210, 1211] I q.1 L q.2 := by
  replace hf := (f_Ge_solve.eq_1 _ _ _ _).symm.trans hf
  exact FR.tr FR.rf (u_Ge_solve_L8 xF hf) (by decide) (by decide)
theorem dX6_isSomeLinkBroken_0 : decode cX6_isSomeLinkBroken 0 = .ok (.iconst 0, 1) := by decide +kernel
theorem dX6_isSomeLinkBroken_1 : decode cX6_isSomeLinkBroken 1 = .ok (.istore_n 1, 1) := by decide +kernel
theorem dX6_isSomeLinkBroken_2 : decode cX6_isSomeLinkBroken 2 = .ok (.iload_n 1, 1) := by decide +kernel
theorem dX6_isSomeLinkBroken_3 : decode cX6_isSomeLinkBroken 3 = .ok (.aload_n 0, 1) := by decide +kernel
theorem dX6_isSomeLinkBroken_4 : decode cX6_isSomeLinkBroken 4 = .ok (.getfield 32, 3) := by decide +kernel
theorem dX6_isSomeLinkBroken_7 : decode cX6_isSomeLinkBroken 7 = .ok (.if_icmp .ge 70, 3) := by decide +kernel
theorem dX6_isSomeLinkBroken_10 : decode cX6_isSomeLinkBroken 10 = .ok (.aload_n 0, 1) := by decide +kernel
theorem dX6_isSomeLinkBroken_11 : decode cX6_isSomeLinkBroken 11 = .ok (.iload_n 1, 1) := by decide +kernel
theorem dX6_isSomeLinkBroken_12 : decode cX6_isSomeLinkBroken 12 = .ok (.invokevirtual 87, 3) := by decide +kernel
theorem dX6_isSomeLinkBroken_15 : decode cX6_isSomeLinkBroken 15 = .ok (.ifCond .ne 56, 3) := by decide +kernel
theorem dX6_isSomeLinkBroken_18 : decode cX6_isSomeLinkBroken 18 = .ok (.aload_n 0, 1) := by decide +kernel
theorem dX6_isSomeLinkBroken_19 : decode cX6_isSomeLinkBroken 19 = .ok (.getfield 21, 3) := by decide +kernel
theorem dX6_isSomeLinkBroken_22 : decode cX6_isSomeLinkBroken 22 = .ok (.iload_n 1, 1) := by decide +kernel
theorem dX6_isSomeLinkBroken_23 : decode cX6_isSomeLinkBroken 23 = .ok (.iconst 3, 1) := by decide +kernel
theorem dX6_isSomeLinkBroken_24 : decode cX6_isSomeLinkBroken 24 = .ok (.imul, 1) := by decide +kernel
theorem dX6_isSomeLinkBroken_25 : decode cX6_isSomeLinkBroken 25 = .ok (.iaload, 1) := by decide +kernel
theorem dX6_isSomeLinkBroken_26 : decode cX6_isSomeLinkBroken 26 = .ok (.istore_n 2, 1) := by decide +kernel
theorem dX6_isSomeLinkBroken_27 : decode cX6_isSomeLinkBroken 27 = .ok (.aload_n 0, 1) := by decide +kernel
theorem dX6_isSomeLinkBroken_28 : decode cX6_isSomeLinkBroken 28 = .ok (.iload_n 1, 1) := by decide +kernel
theorem dX6_isSomeLinkBroken_29 : decode cX6_isSomeLinkBroken 29 = .ok (.iconst 0, 1) := by decide +kernel
theorem dX6_isSomeLinkBroken_30 : decode cX6_isSomeLinkBroken 30 = .ok (.invokevirtual 94, 3) := by decide +kernel
theorem dX6_isSomeLinkBroken_33 : decode cX6_isSomeLinkBroken 33 = .ok (.aload_n 0, 1) := by decide +kernel
theorem dX6_isSomeLinkBroken_34 : decode cX6_isSomeLinkBroken 34 = .ok (.iload_n 2, 1) := by decide +kernel
theorem dX6_isSomeLinkBroken_35 : decode cX6_isSomeLinkBroken 35 = .ok (.invokevirtual 48, 3) := by decide +kernel
theorem dX6_isSomeLinkBroken_38 : decode cX6_isSomeLinkBroken 38 = .ok (.ifCond .eq 33, 3) := by decide +kernel
theorem dX6_isSomeLinkBroken_41 : decode cX6_isSomeLinkBroken 41 = .ok (.aload_n 0, 1) := by decide +kernel
theorem dX6_isSomeLinkBroken_42 : decode cX6_isSomeLinkBroken 42 = .ok (.getfield 11, 3) := by decide +kernel
theorem dX6_isSomeLinkBroken_45 : decode cX6_isSomeLinkBroken 45 = .ok (.iload_n 2, 1) := by decide +kernel
theorem dX6_isSomeLinkBroken_46 : decode cX6_isSomeLinkBroken 46 = .ok (.laload, 1) := by decide +kernel
theorem dX6_isSomeLinkBroken_47 : decode cX6_isSomeLinkBroken 47 = .ok (.aload_n 0, 1) := by decide +kernel
theorem dX6_isSomeLinkBroken_48 : decode cX6_isSomeLinkBroken 48 = .ok (.getfield 98, 3) := by decide +kernel
theorem dX6_isSomeLinkBroken_51 : decode cX6_isSomeLinkBroken 51 = .ok (.lcmp, 1) := by decide +kernel
theorem dX6_isSomeLinkBroken_52 : decode cX6_isSomeLinkBroken 52 = .ok (.ifCond .ne 17, 3) := by decide +kernel
theorem dX6_isSomeLinkBroken_55 : decode cX6_isSomeLinkBroken 55 = .ok (.aload_n 0, 1) := by decide +kernel
theorem dX6_isSomeLinkBroken_56 : decode cX6_isSomeLinkBroken 56 = .ok (.getfield 15, 3) := by decide +kernel
theorem dX6_isSomeLinkBroken_59 : decode cX6_isSomeLinkBroken 59 = .ok (.iload_n 2, 1) := by decide +kernel
theorem dX6_isSomeLinkBroken_60 : decode cX6_isSomeLinkBroken 60 = .ok (.laload, 1) := by decide +kernel
theorem dX6_isSomeLinkBroken_61 : decode cX6_isSomeLinkBroken 61 = .ok (.aload_n 0, 1) := by decide +kernel
theorem dX6_isSomeLinkBroken_62 : decode cX6_isSomeLinkBroken 62 = .ok (.getfield 104, 3) := by decide +kernel
theorem dX6_isSomeLinkBroken_65 : decode cX6_isSomeLinkBroken 65 = .ok (.lcmp, 1) := by decide +kernel
theorem dX6_isSomeLinkBroken_66 : decode cX6_isSomeLinkBroken 66 = .ok (.ifCond .eq 5, 3) := by decide +kernel
theorem dX6_isSomeLinkBroken_69 : decode cX6_isSomeLinkBroken 69 = .ok (.iconst 1, 1) := by decide +kernel
theorem dX6_isSomeLinkBroken_70 : decode cX6_isSomeLinkBroken 70 = .ok (.ireturn, 1) := by decide +kernel
theorem dX6_isSomeLinkBroken_71 : decode cX6_isSomeLinkBroken 71 = .ok (.iinc 1 1, 3) := by decide +kernel
theorem dX6_isSomeLinkBroken_74 : decode cX6_isSomeLinkBroken 74 = .ok (.goto (-72), 3) := by decide +kernel
theorem dX6_isSomeLinkBroken_77 : decode cX6_isSomeLinkBroken 77 = .ok (.iconst 0, 1) := by decide +kernel
theorem dX6_isSomeLinkBroken_78 : decode cX6_isSomeLinkBroken 78 = .ok (.ireturn, 1) := by decide +kernel
def f_Ge_isSomeLinkBroken_L2 : Nat → Int32 → (Nat → Nat → Int32) → (Nat → Nat → Int64) → Option (Int32 × (Nat → Nat → Int32) × (Nat → Nat → Int64))
  | 0, _, _, _ => none
  | n + 1, l1, I, L => (if (I 2 1) ≤ l1 then (some ((0 : Int32), I, L)) else ((f_Ge_countUnknown l1 I L).bind fun q2 => (if q2 = (0 : Int32) then (if (0 ≤ (l1 * (3 : Int32)) ∧ (l1 * (3 : Int32)) < (120 : Int32)) then (bnd (I 6 ((l1 * (3 : Int32)).toNatClampNeg)) fun x6 => ((f_Ge_solve l1 (0 : Int32) I L).bind fun q7 => (if (f_Ge_hasArbor x6 q7.1 q7.2) = (0 : Int32) then (f_Ge_isSomeLinkBroken_L2 n (l1 + (1 : Int32)) q7.1 q7.2) else (if (0 ≤ x6 ∧ x6 < (24 : Int32)) then (if (q7.2 3 (x6.toNatClampNeg)) = (q7.2 2 10) then (if (0 ≤ x6 ∧ x6 < (24 : Int32)) then (if (q7.2 4 (x6.toNatClampNeg)) = (q7.2 2 11) then (f_Ge_isSomeLinkBroken_L2 n (l1 + (1 : Int32)) q7.1 q7.2) else (some ((1 : Int32), q7.1, q7.2))) else none) else (some ((1 : Int32), q7.1, q7.2))) else none)))) else none) else (f_Ge_isSomeLinkBroken_L2 n (l1 + (1 : Int32)) I L))))
set_option maxRecDepth 100000 in
set_option maxHeartbeats 4000000 in
theorem x_Ge_isSomeLinkBroken_L2 {G : xG} {S : List xSh} {Rf : Nat → Nat → Option Nat} (hT : xTH S Rf) : ∀ (n : Nat) {l1 : Int32} {I : Nat → Nat → Int32} {L : Nat → Nat → Int64} {q : (Int32 × (Nat → Nat → Int32) × (Nat → Nat → Int64))}, f_Ge_isSomeLinkBroken_L2 n l1 I L = some q → X G 3 m_Ge_isSomeLinkBroken 2 [(0, .ref (xP G 2)), (1, .int l1)] [] (S, I, L, Rf) (some (.int q.1), (S, q.2.1, q.2.2, Rf)) := by
  intro n
  induction n with
  | zero =>
    intro l1 I L q hf
    exact absurd (show none = some q from hf) (by simp)
  | succ n ih =>
    intro l1 I L q hf
    replace hf := (f_Ge_isSomeLinkBroken_L2.eq_2 _ _ _ _).symm.trans hf
    refine X_iload_n (pc := 2) (i := 1) 1 dX6_isSomeLinkBroken_2 rfl rfl ?_
    refine X_aload_n (pc := 3) (i := 0) 0 dX6_isSomeLinkBroken_3 rfl rfl ?_
    refine X_get (pc := 4) (a := 2) (ci := 6) (j := 1) (.int (I 2 1)) (sh_2 hT) (by decide) k_109 rfl dX6_isSomeLinkBroken_4 ?_
    by_cases c1 : (I 2 1) ≤ l1
    · replace hf := (if_pos c1).symm.trans hf
      refine X_icmp_ge_t (pc := 7) 77 dX6_isSomeLinkBroken_7 (by decide) c1 ?_
      refine X_iconst (pc := 77) (0 : Int32) dX6_isSomeLinkBroken_77 (by decide) ?_
      cases hf
      exact X_zreturn (pc := 78) rfl (nar_b (by decide)) dX6_isSomeLinkBroken_78
    · replace hf := (if_neg c1).symm.trans hf
      refine X_icmp_ge_f (pc := 7) 77 dX6_isSomeLinkBroken_7 (by decide) c1 ?_
      refine X_aload_n (pc := 10) (i := 0) 0 dX6_isSomeLinkBroken_10 rfl rfl ?_
      refine X_iload_n (pc := 11) (i := 1) 1 dX6_isSomeLinkBroken_11 rfl rfl ?_
      obtain ⟨q2, c3, hf⟩ := bd_some hf
      refine X_invV_i (pc := 12) (c_Ge_countUnknown hT c3) ok_Ge_countUnknown (ci := 6) (sh_2 hT) k_583 k_585 k_5 nd_8 (by decide) rfl (Nat.le_of_ble_eq_true rfl) dX6_isSomeLinkBroken_12 ?_
      by_cases c4 : q2 = (0 : Int32)
      · replace hf := (if_pos c4).symm.trans hf
        refine X_if_ne_f (pc := 15) 71 dX6_isSomeLinkBroken_15 (by decide) c4 ?_
        refine X_aload_n (pc := 18) (i := 0) 0 dX6_isSomeLinkBroken_18 rfl rfl ?_
        refine X_getr (pc := 19) (a := 2) (ci := 6) (j := 8) (c := 6) (sh_2 hT) (by decide) k_121 (rf_2_8 hT) (fun _ h => h) dX6_isSomeLinkBroken_19 ?_
        refine X_iload_n (pc := 22) (i := 1) 1 dX6_isSomeLinkBroken_22 rfl rfl ?_
        refine X_iconst (pc := 23) (3 : Int32) dX6_isSomeLinkBroken_23 (by decide) ?_
        refine X_imul (pc := 24) dX6_isSomeLinkBroken_24 ?_
        obtain ⟨c5, hf⟩ := gd_some hf
        refine X_ialdj (pc := 25) (j := (l1 * (3 : Int32)).toNatClampNeg) (I 6 ((l1 * (3 : Int32)).toNatClampNeg)) (sh_6 hT) (vp_in_lit (N := 120) c5 (by decide)) rfl rfl dX6_isSomeLinkBroken_25 ?_
        obtain ⟨x6, ex6, hf⟩ := bnd_e hf
        refine X_tope ex6 ?_
        refine X_istore_n (pc := 26) (i := 2) [(2, .int x6), (0, .ref (xP G 2)), (1, .int l1)] dX6_isSomeLinkBroken_26 rfl (by decide) rfl ?_
        refine X_aload_n (pc := 27) (i := 0) 1 dX6_isSomeLinkBroken_27 rfl rfl ?_
        refine X_iload_n (pc := 28) (i := 1) 2 dX6_isSomeLinkBroken_28 rfl rfl ?_
        refine X_iconst (pc := 29) (0 : Int32) dX6_isSomeLinkBroken_29 (by decide) ?_
        obtain ⟨q7, c8, hf⟩ := bd_some hf
        refine X_invV_v (pc := 30) (c_Ge_solve hT c8) ok_Ge_solve (ci := 6) (sh_2 hT) k_591 k_593 k_7 nd_10 (by decide) rfl (Nat.le_of_ble_eq_true rfl) dX6_isSomeLinkBroken_30 ?_
        refine X_aload_n (pc := 33) (i := 0) 1 dX6_isSomeLinkBroken_33 rfl rfl ?_
        refine X_iload_n (pc := 34) (i := 2) 0 dX6_isSomeLinkBroken_34 rfl rfl ?_
        refine X_invV_i (pc := 35) (c_Ge_hasArbor hT rfl) ok_Ge_hasArbor (ci := 6) (sh_2 hT) k_578 k_560 k_561 nd_5 (by decide) rfl (Nat.le_of_ble_eq_true rfl) dX6_isSomeLinkBroken_35 ?_
        by_cases c9 : (f_Ge_hasArbor x6 q7.1 q7.2) = (0 : Int32)
        · replace hf := (if_pos c9).symm.trans hf
          refine X_if_eq_t (pc := 38) 71 dX6_isSomeLinkBroken_38 (by decide) c9 ?_
          refine X_iinc (pc := 71) (i := 1) (q := 2) (v := (l1 + (1 : Int32))) [(1, .int (l1 + (1 : Int32))), (2, .int x6), (0, .ref (xP G 2))] dX6_isSomeLinkBroken_71 rfl rfl (by decide) rfl ?_
          refine X_goto (pc := 74) 2 dX6_isSomeLinkBroken_74 (by decide) ?_
          exact X_lvs [2, 0] rfl (ih hf)
        · replace hf := (if_neg c9).symm.trans hf
          refine X_if_eq_f (pc := 38) 71 dX6_isSomeLinkBroken_38 (by decide) c9 ?_
          refine X_aload_n (pc := 41) (i := 0) 1 dX6_isSomeLinkBroken_41 rfl rfl ?_
          refine X_getr (pc := 42) (a := 2) (ci := 6) (j := 5) (c := 3) (sh_2 hT) (by decide) k_116 (rf_2_5 hT) (fun _ h => h) dX6_isSomeLinkBroken_42 ?_
          refine X_iload_n (pc := 45) (i := 2) 0 dX6_isSomeLinkBroken_45 rfl rfl ?_
          obtain ⟨c10, hf⟩ := gd_some hf
          refine X_laldj (pc := 46) (j := x6.toNatClampNeg) (q7.2 3 (x6.toNatClampNeg)) (sh_3 hT) (vp_in_lit (N := 24) c10 (by decide)) rfl rfl dX6_isSomeLinkBroken_46 ?_
          refine X_aload_n (pc := 47) (i := 0) 1 dX6_isSomeLinkBroken_47 rfl rfl ?_
          refine X_get (pc := 48) (a := 2) (ci := 6) (j := 10) (.long (q7.2 2 10)) (sh_2 hT) (by decide) k_123 rfl dX6_isSomeLinkBroken_48 ?_
          refine X_lcmp (pc := 51) dX6_isSomeLinkBroken_51 ?_
          by_cases c11 : (q7.2 3 (x6.toNatClampNeg)) = (q7.2 2 10)
          · replace hf := (if_pos c11).symm.trans hf
            refine X_if_ne_f (pc := 52) 69 dX6_isSomeLinkBroken_52 (by decide) ((lg_cmp_eq _ _).mpr c11) ?_
            refine X_aload_n (pc := 55) (i := 0) 1 dX6_isSomeLinkBroken_55 rfl rfl ?_
            refine X_getr (pc := 56) (a := 2) (ci := 6) (j := 6) (c := 4) (sh_2 hT) (by decide) k_118 (rf_2_6 hT) (fun _ h => h) dX6_isSomeLinkBroken_56 ?_
            refine X_iload_n (pc := 59) (i := 2) 0 dX6_isSomeLinkBroken_59 rfl rfl ?_
            obtain ⟨c12, hf⟩ := gd_some hf
            refine X_laldj (pc := 60) (j := x6.toNatClampNeg) (q7.2 4 (x6.toNatClampNeg)) (sh_4 hT) (vp_in_lit (N := 24) c12 (by decide)) rfl rfl dX6_isSomeLinkBroken_60 ?_
            refine X_aload_n (pc := 61) (i := 0) 1 dX6_isSomeLinkBroken_61 rfl rfl ?_
            refine X_get (pc := 62) (a := 2) (ci := 6) (j := 11) (.long (q7.2 2 11)) (sh_2 hT) (by decide) k_124 rfl dX6_isSomeLinkBroken_62 ?_
            refine X_lcmp (pc := 65) dX6_isSomeLinkBroken_65 ?_
            by_cases c13 : (q7.2 4 (x6.toNatClampNeg)) = (q7.2 2 11)
            · replace hf := (if_pos c13).symm.trans hf
              refine X_if_eq_t (pc := 66) 71 dX6_isSomeLinkBroken_66 (by decide) ((lg_cmp_eq _ _).mpr c13) ?_
              refine X_iinc (pc := 71) (i := 1) (q := 2) (v := (l1 + (1 : Int32))) [(1, .int (l1 + (1 : Int32))), (2, .int x6), (0, .ref (xP G 2))] dX6_isSomeLinkBroken_71 rfl rfl (by decide) rfl ?_
              refine X_goto (pc := 74) 2 dX6_isSomeLinkBroken_74 (by decide) ?_
              exact X_lvs [2, 0] rfl (ih hf)
            · replace hf := (if_neg c13).symm.trans hf
              refine X_if_eq_f (pc := 66) 71 dX6_isSomeLinkBroken_66 (by decide) (fun h => c13 ((lg_cmp_eq _ _).mp h)) ?_
              refine X_iconst (pc := 69) (1 : Int32) dX6_isSomeLinkBroken_69 (by decide) ?_
              cases hf
              exact X_zreturn (pc := 70) rfl (nar_b (by decide)) dX6_isSomeLinkBroken_70
          · replace hf := (if_neg c11).symm.trans hf
            refine X_if_ne_t (pc := 52) 69 dX6_isSomeLinkBroken_52 (by decide) (fun h => c11 ((lg_cmp_eq _ _).mp h)) ?_
            refine X_iconst (pc := 69) (1 : Int32) dX6_isSomeLinkBroken_69 (by decide) ?_
            cases hf
            exact X_zreturn (pc := 70) rfl (nar_b (by decide)) dX6_isSomeLinkBroken_70
      · replace hf := (if_neg c4).symm.trans hf
        refine X_if_ne_t (pc := 15) 71 dX6_isSomeLinkBroken_15 (by decide) c4 ?_
        refine X_iinc (pc := 71) (i := 1) (q := 1) (v := (l1 + (1 : Int32))) [(1, .int (l1 + (1 : Int32))), (0, .ref (xP G 2))] dX6_isSomeLinkBroken_71 rfl rfl (by decide) rfl ?_
        refine X_goto (pc := 74) 2 dX6_isSomeLinkBroken_74 (by decide) ?_
        exact X_lvs [1, 0] rfl (ih hf)
theorem u_Ge_isSomeLinkBroken_L2 {S : List xSh} : ∀ (n : Nat) {l1 : Int32} {I : Nat → Nat → Int32} {L : Nat → Nat → Int64} {q : (Int32 × (Nat → Nat → Int32) × (Nat → Nat → Int64))}, f_Ge_isSomeLinkBroken_L2 n l1 I L = some q → FR S [] [1210, 1211] I q.2.1 L q.2.2 := by
  intro n
  induction n with
  | zero =>
    intro l1 I L q hf
    exact absurd (show none = some q from hf) (by simp)
  | succ n ih =>
    intro l1 I L q hf
    replace hf := (f_Ge_isSomeLinkBroken_L2.eq_2 _ _ _ _).symm.trans hf
    by_cases c1 : (I 2 1) ≤ l1
    · replace hf := (if_pos c1).symm.trans hf
      cases hf
      exact FR.rf
    · replace hf := (if_neg c1).symm.trans hf
      obtain ⟨q2, c3, hf⟩ := bd_some hf
      by_cases c4 : q2 = (0 : Int32)
      · replace hf := (if_pos c4).symm.trans hf
        obtain ⟨c5, hf⟩ := gd_some hf
        obtain ⟨x6, ex6, hf⟩ := bnd_e hf
        obtain ⟨q7, c8, hf⟩ := bd_some hf
        by_cases c9 : (f_Ge_hasArbor x6 q7.1 q7.2) = (0 : Int32)
        · replace hf := (if_pos c9).symm.trans hf
          exact FR.tr (FR.tr FR.rf (u_Ge_solve (q := q7) c8) (by decide) (by decide)) (ih hf) (by decide) (by decide)
        · replace hf := (if_neg c9).symm.trans hf
          obtain ⟨c10, hf⟩ := gd_some hf
          by_cases c11 : (q7.2 3 (x6.toNatClampNeg)) = (q7.2 2 10)
          · replace hf := (if_pos c11).symm.trans hf
            obtain ⟨c12, hf⟩ := gd_some hf
            by_cases c13 : (q7.2 4 (x6.toNatClampNeg)) = (q7.2 2 11)
            · replace hf := (if_pos c13).symm.trans hf
              exact FR.tr (FR.tr FR.rf (u_Ge_solve (q := q7) c8) (by decide) (by decide)) (ih hf) (by decide) (by decide)
            · replace hf := (if_neg c13).symm.trans hf
              cases hf
              exact (FR.tr FR.rf (u_Ge_solve (q := q7) c8) (by decide) (by decide))
          · replace hf := (if_neg c11).symm.trans hf
            cases hf
            exact (FR.tr FR.rf (u_Ge_solve (q := q7) c8) (by decide) (by decide))
      · replace hf := (if_neg c4).symm.trans hf
        exact FR.tr FR.rf (ih hf) (by decide) (by decide)
def f_Ge_isSomeLinkBroken (I : Nat → Nat → Int32) (L : Nat → Nat → Int64) : Option (Int32 × (Nat → Nat → Int32) × (Nat → Nat → Int64)) := (f_Ge_isSomeLinkBroken_L2 xF (0 : Int32) I L)
set_option maxRecDepth 100000 in
set_option maxHeartbeats 4000000 in
theorem c_Ge_isSomeLinkBroken {G : xG} {S : List xSh} {Rf : Nat → Nat → Option Nat} (hT : xTH S Rf) {I : Nat → Nat → Int32} {L : Nat → Nat → Int64} {q : (Int32 × (Nat → Nat → Int32) × (Nat → Nat → Int64))} (hf : f_Ge_isSomeLinkBroken I L = some q) : CT G 3 m_Ge_isSomeLinkBroken [.ref (xP G 2)] (S, I, L, Rf) (some (.int q.1), (S, q.2.1, q.2.2, Rf)) := by
  refine CT.of (by decide +kernel) (Nat.le_of_ble_eq_true rfl) ?_
  show X G 3 m_Ge_isSomeLinkBroken 0 [(0, .ref (xP G 2))] [] (S, I, L, Rf) (some (.int q.1), (S, q.2.1, q.2.2, Rf))
  replace hf := (f_Ge_isSomeLinkBroken.eq_1 _ _).symm.trans hf
  refine X_iconst (pc := 0) (0 : Int32) dX6_isSomeLinkBroken_0 (by decide) ?_
  refine X_istore_n (pc := 1) (i := 1) [(1, .int (0 : Int32)), (0, .ref (xP G 2))] dX6_isSomeLinkBroken_1 rfl (by decide) rfl ?_
  exact X_lvs [1, 0] rfl (x_Ge_isSomeLinkBroken_L2 hT xF hf)
theorem u_Ge_isSomeLinkBroken {S : List xSh} {I : Nat → Nat → Int32} {L : Nat → Nat → Int64} {q : (Int32 × (Nat → Nat → Int32) × (Nat → Nat → Int64))} (hf : f_Ge_isSomeLinkBroken I L = some q) : FR S [] [1210, 1211] I q.2.1 L q.2.2 := by
  replace hf := (f_Ge_isSomeLinkBroken.eq_1 _ _).symm.trans hf
  exact FR.tr FR.rf (u_Ge_isSomeLinkBroken_L2 xF hf) (by decide) (by decide)
theorem dX6_tellBy_0 : decode cX6_tellBy 0 = .ok (.iconst 0, 1) := by decide +kernel
theorem dX6_tellBy_1 : decode cX6_tellBy 1 = .ok (.istore_n 2, 1) := by decide +kernel
theorem dX6_tellBy_2 : decode cX6_tellBy 2 = .ok (.iload_n 2, 1) := by decide +kernel
theorem dX6_tellBy_3 : decode cX6_tellBy 3 = .ok (.iconst 3, 1) := by decide +kernel
theorem dX6_tellBy_4 : decode cX6_tellBy 4 = .ok (.if_icmp .ge 107, 3) := by decide +kernel
theorem dX6_tellBy_7 : decode cX6_tellBy 7 = .ok (.aload_n 0, 1) := by decide +kernel
theorem dX6_tellBy_8 : decode cX6_tellBy 8 = .ok (.getfield 21, 3) := by decide +kernel
theorem dX6_tellBy_11 : decode cX6_tellBy 11 = .ok (.iload_n 1, 1) := by decide +kernel
theorem dX6_tellBy_12 : decode cX6_tellBy 12 = .ok (.iconst 3, 1) := by decide +kernel
theorem dX6_tellBy_13 : decode cX6_tellBy 13 = .ok (.imul, 1) := by decide +kernel
theorem dX6_tellBy_14 : decode cX6_tellBy 14 = .ok (.iload_n 2, 1) := by decide +kernel
theorem dX6_tellBy_15 : decode cX6_tellBy 15 = .ok (.iadd, 1) := by decide +kernel
theorem dX6_tellBy_16 : decode cX6_tellBy 16 = .ok (.iaload, 1) := by decide +kernel
theorem dX6_tellBy_17 : decode cX6_tellBy 17 = .ok (.istore_n 3, 1) := by decide +kernel
theorem dX6_tellBy_18 : decode cX6_tellBy 18 = .ok (.aload_n 0, 1) := by decide +kernel
theorem dX6_tellBy_19 : decode cX6_tellBy 19 = .ok (.iload_n 3, 1) := by decide +kernel
theorem dX6_tellBy_20 : decode cX6_tellBy 20 = .ok (.invokevirtual 48, 3) := by decide +kernel
theorem dX6_tellBy_23 : decode cX6_tellBy 23 = .ok (.ifCond .eq 82, 3) := by decide +kernel
theorem dX6_tellBy_26 : decode cX6_tellBy 26 = .ok (.aload_n 0, 1) := by decide +kernel
theorem dX6_tellBy_27 : decode cX6_tellBy 27 = .ok (.getfield 15, 3) := by decide +kernel
theorem dX6_tellBy_30 : decode cX6_tellBy 30 = .ok (.iload_n 3, 1) := by decide +kernel
theorem dX6_tellBy_31 : decode cX6_tellBy 31 = .ok (.laload, 1) := by decide +kernel
theorem dX6_tellBy_32 : decode cX6_tellBy 32 = .ok (.lconst 0, 1) := by decide +kernel
theorem dX6_tellBy_33 : decode cX6_tellBy 33 = .ok (.lcmp, 1) := by decide +kernel
theorem dX6_tellBy_34 : decode cX6_tellBy 34 = .ok (.ifCond .ne 71, 3) := by decide +kernel
theorem dX6_tellBy_37 : decode cX6_tellBy 37 = .ok (.aload_n 0, 1) := by decide +kernel
theorem dX6_tellBy_38 : decode cX6_tellBy 38 = .ok (.iload_n 1, 1) := by decide +kernel
theorem dX6_tellBy_39 : decode cX6_tellBy 39 = .ok (.iload_n 2, 1) := by decide +kernel
theorem dX6_tellBy_40 : decode cX6_tellBy 40 = .ok (.invokevirtual 94, 3) := by decide +kernel
theorem dX6_tellBy_43 : decode cX6_tellBy 43 = .ok (.aload_n 0, 1) := by decide +kernel
theorem dX6_tellBy_44 : decode cX6_tellBy 44 = .ok (.getfield 98, 3) := by decide +kernel
theorem dX6_tellBy_47 : decode cX6_tellBy 47 = .ok (.invokestatic 62, 3) := by decide +kernel
theorem dX6_tellBy_50 : decode cX6_tellBy 50 = .ok (.ldc2_w 102, 3) := by decide +kernel
theorem dX6_tellBy_53 : decode cX6_tellBy 53 = .ok (.lcmp, 1) := by decide +kernel
theorem dX6_tellBy_54 : decode cX6_tellBy 54 = .ok (.ifCond .gt 14, 3) := by decide +kernel
theorem dX6_tellBy_57 : decode cX6_tellBy 57 = .ok (.aload_n 0, 1) := by decide +kernel
theorem dX6_tellBy_58 : decode cX6_tellBy 58 = .ok (.getfield 104, 3) := by decide +kernel
theorem dX6_tellBy_61 : decode cX6_tellBy 61 = .ok (.ldc2_w 102, 3) := by decide +kernel
theorem dX6_tellBy_64 : decode cX6_tellBy 64 = .ok (.lcmp, 1) := by decide +kernel
theorem dX6_tellBy_65 : decode cX6_tellBy 65 = .ok (.ifCond .le 5, 3) := by decide +kernel
theorem dX6_tellBy_68 : decode cX6_tellBy 68 = .ok (.iconst 0, 1) := by decide +kernel
theorem dX6_tellBy_69 : decode cX6_tellBy 69 = .ok (.ireturn, 1) := by decide +kernel
theorem dX6_tellBy_70 : decode cX6_tellBy 70 = .ok (.aload_n 0, 1) := by decide +kernel
theorem dX6_tellBy_71 : decode cX6_tellBy 71 = .ok (.getfield 11, 3) := by decide +kernel
theorem dX6_tellBy_74 : decode cX6_tellBy 74 = .ok (.iload_n 3, 1) := by decide +kernel
theorem dX6_tellBy_75 : decode cX6_tellBy 75 = .ok (.aload_n 0, 1) := by decide +kernel
theorem dX6_tellBy_76 : decode cX6_tellBy 76 = .ok (.getfield 98, 3) := by decide +kernel
theorem dX6_tellBy_79 : decode cX6_tellBy 79 = .ok (.lastore, 1) := by decide +kernel
theorem dX6_tellBy_80 : decode cX6_tellBy 80 = .ok (.aload_n 0, 1) := by decide +kernel
theorem dX6_tellBy_81 : decode cX6_tellBy 81 = .ok (.getfield 15, 3) := by decide +kernel
theorem dX6_tellBy_84 : decode cX6_tellBy 84 = .ok (.iload_n 3, 1) := by decide +kernel
theorem dX6_tellBy_85 : decode cX6_tellBy 85 = .ok (.aload_n 0, 1) := by decide +kernel
theorem dX6_tellBy_86 : decode cX6_tellBy 86 = .ok (.getfield 104, 3) := by decide +kernel
theorem dX6_tellBy_89 : decode cX6_tellBy 89 = .ok (.lastore, 1) := by decide +kernel
theorem dX6_tellBy_90 : decode cX6_tellBy 90 = .ok (.aload_n 0, 1) := by decide +kernel
theorem dX6_tellBy_91 : decode cX6_tellBy 91 = .ok (.getfield 104, 3) := by decide +kernel
theorem dX6_tellBy_94 : decode cX6_tellBy 94 = .ok (.lconst 0, 1) := by decide +kernel
theorem dX6_tellBy_95 : decode cX6_tellBy 95 = .ok (.lcmp, 1) := by decide +kernel
theorem dX6_tellBy_96 : decode cX6_tellBy 96 = .ok (.ifCond .le 7, 3) := by decide +kernel
theorem dX6_tellBy_99 : decode cX6_tellBy 99 = .ok (.iconst 1, 1) := by decide +kernel
theorem dX6_tellBy_100 : decode cX6_tellBy 100 = .ok (.goto 4, 3) := by decide +kernel
theorem dX6_tellBy_103 : decode cX6_tellBy 103 = .ok (.iconst 0, 1) := by decide +kernel
theorem dX6_tellBy_104 : decode cX6_tellBy 104 = .ok (.ireturn, 1) := by decide +kernel
theorem dX6_tellBy_105 : decode cX6_tellBy 105 = .ok (.iinc 2 1, 3) := by decide +kernel
theorem dX6_tellBy_108 : decode cX6_tellBy 108 = .ok (.goto (-106), 3) := by decide +kernel
theorem dX6_tellBy_111 : decode cX6_tellBy 111 = .ok (.iconst 0, 1) := by decide +kernel
theorem dX6_tellBy_112 : decode cX6_tellBy 112 = .ok (.ireturn, 1) := by decide +kernel
def f_Ge_tellBy_L2 : Nat → Int32 → Int32 → (Nat → Nat → Int32) → (Nat → Nat → Int64) → Option (Int32 × (Nat → Nat → Int32) × (Nat → Nat → Int64))
  | 0, _, _, _, _ => none
  | n + 1, l1, l2, I, L => (if (3 : Int32) ≤ l2 then (some ((0 : Int32), I, L)) else (if (0 ≤ ((l1 * (3 : Int32)) + l2) ∧ ((l1 * (3 : Int32)) + l2) < (120 : Int32)) then (bnd (I 6 (((l1 * (3 : Int32)) + l2).toNatClampNeg)) fun x3 => (if (f_Ge_hasArbor x3 I L) = (0 : Int32) then (f_Ge_tellBy_L2 n l1 (l2 + (1 : Int32)) I L) else (if (0 ≤ x3 ∧ x3 < (24 : Int32)) then (if (L 4 (x3.toNatClampNeg)) = (0 : Int64) then ((f_Ge_solve l1 l2 I L).bind fun q7 => (if (10000000 : Int64) < (Jabs (q7.2 2 10)) then (some ((0 : Int32), q7.1, q7.2)) else (if (q7.2 2 11) ≤ (10000000 : Int64) then (bnd (q7.2 2 10) fun x11 => (if (0 ≤ x3 ∧ x3 < (24 : Int32)) then (bnd (q7.2 2 11) fun x13 => (if (0 ≤ x3 ∧ x3 < (24 : Int32)) then (if (q7.2 2 11) ≤ (0 : Int64) then (some ((0 : Int32), q7.1, (uL (uL q7.2 3 (x3.toNatClampNeg) x11) 4 (x3.toNatClampNeg) x13))) else (some ((1 : Int32), q7.1, (uL (uL q7.2 3 (x3.toNatClampNeg) x11) 4 (x3.toNatClampNeg) x13)))) else none)) else none)) else (some ((0 : Int32), q7.1, q7.2))))) else (f_Ge_tellBy_L2 n l1 (l2 + (1 : Int32)) I L)) else none))) else none))
set_option maxRecDepth 100000 in
set_option maxHeartbeats 4000000 in
theorem x_Ge_tellBy_L2 {G : xG} {S : List xSh} {Rf : Nat → Nat → Option Nat} (hT : xTH S Rf) : ∀ (n : Nat) {l1 : Int32} {l2 : Int32} {I : Nat → Nat → Int32} {L : Nat → Nat → Int64} {q : (Int32 × (Nat → Nat → Int32) × (Nat → Nat → Int64))}, f_Ge_tellBy_L2 n l1 l2 I L = some q → X G 3 m_Ge_tellBy 2 [(0, .ref (xP G 2)), (1, .int l1), (2, .int l2)] [] (S, I, L, Rf) (some (.int q.1), (S, q.2.1, q.2.2, Rf)) := by
  intro n
  induction n with
  | zero =>
    intro l1 l2 I L q hf
    exact absurd (show none = some q from hf) (by simp)
  | succ n ih =>
    intro l1 l2 I L q hf
    replace hf := (f_Ge_tellBy_L2.eq_2 _ _ _ _ _).symm.trans hf
    refine X_iload_n (pc := 2) (i := 2) 2 dX6_tellBy_2 rfl rfl ?_
    refine X_iconst (pc := 3) (3 : Int32) dX6_tellBy_3 (by decide) ?_
    by_cases c1 : (3 : Int32) ≤ l2
    · replace hf := (if_pos c1).symm.trans hf
      refine X_icmp_ge_t (pc := 4) 111 dX6_tellBy_4 (by decide) c1 ?_
      refine X_iconst (pc := 111) (0 : Int32) dX6_tellBy_111 (by decide) ?_
      cases hf
      exact X_zreturn (pc := 112) rfl (nar_b (by decide)) dX6_tellBy_112
    · replace hf := (if_neg c1).symm.trans hf
      refine X_icmp_ge_f (pc := 4) 111 dX6_tellBy_4 (by decide) c1 ?_
      refine X_aload_n (pc := 7) (i := 0) 0 dX6_tellBy_7 rfl rfl ?_
      refine X_getr (pc := 8) (a := 2) (ci := 6) (j := 8) (c := 6) (sh_2 hT) (by decide) k_121 (rf_2_8 hT) (fun _ h => h) dX6_tellBy_8 ?_
      refine X_iload_n (pc := 11) (i := 1) 1 dX6_tellBy_11 rfl rfl ?_
      refine X_iconst (pc := 12) (3 : Int32) dX6_tellBy_12 (by decide) ?_
      refine X_imul (pc := 13) dX6_tellBy_13 ?_
      refine X_iload_n (pc := 14) (i := 2) 2 dX6_tellBy_14 rfl rfl ?_
      refine X_iadd (pc := 15) dX6_tellBy_15 ?_
      obtain ⟨c2, hf⟩ := gd_some hf
      refine X_ialdj (pc := 16) (j := ((l1 * (3 : Int32)) + l2).toNatClampNeg) (I 6 (((l1 * (3 : Int32)) + l2).toNatClampNeg)) (sh_6 hT) (vp_in_lit (N := 120) c2 (by decide)) rfl rfl dX6_tellBy_16 ?_
      obtain ⟨x3, ex3, hf⟩ := bnd_e hf
      refine X_tope ex3 ?_
      refine X_istore_n (pc := 17) (i := 3) [(3, .int x3), (0, .ref (xP G 2)), (1, .int l1), (2, .int l2)] dX6_tellBy_17 rfl (by decide) rfl ?_
      refine X_aload_n (pc := 18) (i := 0) 1 dX6_tellBy_18 rfl rfl ?_
      refine X_iload_n (pc := 19) (i := 3) 0 dX6_tellBy_19 rfl rfl ?_
      refine X_invV_i (pc := 20) (c_Ge_hasArbor hT rfl) ok_Ge_hasArbor (ci := 6) (sh_2 hT) k_578 k_560 k_561 nd_5 (by decide) rfl (Nat.le_of_ble_eq_true rfl) dX6_tellBy_20 ?_
      by_cases c4 : (f_Ge_hasArbor x3 I L) = (0 : Int32)
      · replace hf := (if_pos c4).symm.trans hf
        refine X_if_eq_t (pc := 23) 105 dX6_tellBy_23 (by decide) c4 ?_
        refine X_iinc (pc := 105) (i := 2) (q := 3) (v := (l2 + (1 : Int32))) [(2, .int (l2 + (1 : Int32))), (3, .int x3), (0, .ref (xP G 2)), (1, .int l1)] dX6_tellBy_105 rfl rfl (by decide) rfl ?_
        refine X_goto (pc := 108) 2 dX6_tellBy_108 (by decide) ?_
        exact X_lvs [2, 3, 0] rfl (ih hf)
      · replace hf := (if_neg c4).symm.trans hf
        refine X_if_eq_f (pc := 23) 105 dX6_tellBy_23 (by decide) c4 ?_
        refine X_aload_n (pc := 26) (i := 0) 1 dX6_tellBy_26 rfl rfl ?_
        refine X_getr (pc := 27) (a := 2) (ci := 6) (j := 6) (c := 4) (sh_2 hT) (by decide) k_118 (rf_2_6 hT) (fun _ h => h) dX6_tellBy_27 ?_
        refine X_iload_n (pc := 30) (i := 3) 0 dX6_tellBy_30 rfl rfl ?_
        obtain ⟨c5, hf⟩ := gd_some hf
        refine X_laldj (pc := 31) (j := x3.toNatClampNeg) (L 4 (x3.toNatClampNeg)) (sh_4 hT) (vp_in_lit (N := 24) c5 (by decide)) rfl rfl dX6_tellBy_31 ?_
        refine X_lconst (pc := 32) (0 : Int64) dX6_tellBy_32 (by decide) ?_
        refine X_lcmp (pc := 33) dX6_tellBy_33 ?_
        by_cases c6 : (L 4 (x3.toNatClampNeg)) = (0 : Int64)
        · replace hf := (if_pos c6).symm.trans hf
          refine X_if_ne_f (pc := 34) 105 dX6_tellBy_34 (by decide) ((lg_cmp_eq _ _).mpr c6) ?_
          refine X_aload_n (pc := 37) (i := 0) 1 dX6_tellBy_37 rfl rfl ?_
          refine X_iload_n (pc := 38) (i := 1) 2 dX6_tellBy_38 rfl rfl ?_
          refine X_iload_n (pc := 39) (i := 2) 3 dX6_tellBy_39 rfl rfl ?_
          obtain ⟨q7, c8, hf⟩ := bd_some hf
          refine X_invV_v (pc := 40) (c_Ge_solve hT c8) ok_Ge_solve (ci := 6) (sh_2 hT) k_591 k_593 k_7 nd_10 (by decide) rfl (Nat.le_of_ble_eq_true rfl) dX6_tellBy_40 ?_
          refine X_aload_n (pc := 43) (i := 0) 1 dX6_tellBy_43 rfl rfl ?_
          refine X_get (pc := 44) (a := 2) (ci := 6) (j := 10) (.long (q7.2 2 10)) (sh_2 hT) (by decide) k_123 rfl dX6_tellBy_44 ?_
          refine X_Jabs (pc := 47) k_602 (by decide) (Nat.le_of_ble_eq_true rfl) dX6_tellBy_47 ?_
          refine X_ldc2 (pc := 50) (10000000 : Int64) k_603 dX6_tellBy_50 ?_
          refine X_lcmp (pc := 53) dX6_tellBy_53 ?_
          by_cases c9 : (10000000 : Int64) < (Jabs (q7.2 2 10))
          · replace hf := (if_pos c9).symm.trans hf
            refine X_if_gt_t (pc := 54) 68 dX6_tellBy_54 (by decide) ((lg_cmp_gt _ _).mpr c9) ?_
            refine X_iconst (pc := 68) (0 : Int32) dX6_tellBy_68 (by decide) ?_
            cases hf
            exact X_zreturn (pc := 69) rfl (nar_b (by decide)) dX6_tellBy_69
          · replace hf := (if_neg c9).symm.trans hf
            refine X_if_gt_f (pc := 54) 68 dX6_tellBy_54 (by decide) (fun h => c9 ((lg_cmp_gt _ _).mp h)) ?_
            refine X_aload_n (pc := 57) (i := 0) 1 dX6_tellBy_57 rfl rfl ?_
            refine X_get (pc := 58) (a := 2) (ci := 6) (j := 11) (.long (q7.2 2 11)) (sh_2 hT) (by decide) k_124 rfl dX6_tellBy_58 ?_
            refine X_ldc2 (pc := 61) (10000000 : Int64) k_603 dX6_tellBy_61 ?_
            refine X_lcmp (pc := 64) dX6_tellBy_64 ?_
            by_cases c10 : (q7.2 2 11) ≤ (10000000 : Int64)
            · replace hf := (if_pos c10).symm.trans hf
              refine X_if_le_t (pc := 65) 70 dX6_tellBy_65 (by decide) ((lg_cmp_le _ _).mpr c10) ?_
              refine X_aload_n (pc := 70) (i := 0) 1 dX6_tellBy_70 rfl rfl ?_
              refine X_getr (pc := 71) (a := 2) (ci := 6) (j := 5) (c := 3) (sh_2 hT) (by decide) k_116 (rf_2_5 hT) (fun _ h => h) dX6_tellBy_71 ?_
              refine X_iload_n (pc := 74) (i := 3) 0 dX6_tellBy_74 rfl rfl ?_
              refine X_aload_n (pc := 75) (i := 0) 1 dX6_tellBy_75 rfl rfl ?_
              refine X_get (pc := 76) (a := 2) (ci := 6) (j := 10) (.long (q7.2 2 10)) (sh_2 hT) (by decide) k_123 rfl dX6_tellBy_76 ?_
              obtain ⟨x11, ex11, hf⟩ := bnd_e hf
              refine X_tople ex11 ?_
              obtain ⟨c12, hf⟩ := gd_some hf
              refine X_lastj (pc := 79) (j := (x3.toNatClampNeg)) (sh_3 hT) (vp_in_lit (N := 24) c12 (by decide)) rfl dX6_tellBy_79 ?_
              refine X_aload_n (pc := 80) (i := 0) 1 dX6_tellBy_80 rfl rfl ?_
              refine X_getr (pc := 81) (a := 2) (ci := 6) (j := 6) (c := 4) (sh_2 hT) (by decide) k_118 (rf_2_6 hT) (fun _ h => h) dX6_tellBy_81 ?_
              refine X_iload_n (pc := 84) (i := 3) 0 dX6_tellBy_84 rfl rfl ?_
              refine X_aload_n (pc := 85) (i := 0) 1 dX6_tellBy_85 rfl rfl ?_
              refine X_get (pc := 86) (a := 2) (ci := 6) (j := 11) (.long (q7.2 2 11)) (sh_2 hT) (by decide) k_124 rfl dX6_tellBy_86 ?_
              obtain ⟨x13, ex13, hf⟩ := bnd_e hf
              refine X_tople ex13 ?_
              obtain ⟨c14, hf⟩ := gd_some hf
              refine X_lastj (pc := 89) (j := (x3.toNatClampNeg)) (sh_4 hT) (vp_in_lit (N := 24) c14 (by decide)) rfl dX6_tellBy_89 ?_
              refine X_aload_n (pc := 90) (i := 0) 1 dX6_tellBy_90 rfl rfl ?_
              refine X_get (pc := 91) (a := 2) (ci := 6) (j := 11) (.long (q7.2 2 11)) (sh_2 hT) (by decide) k_124 rfl dX6_tellBy_91 ?_
              refine X_lconst (pc := 94) (0 : Int64) dX6_tellBy_94 (by decide) ?_
              refine X_lcmp (pc := 95) dX6_tellBy_95 ?_
              by_cases c15 : (q7.2 2 11) ≤ (0 : Int64)
              · replace hf := (if_pos c15).symm.trans hf
                refine X_if_le_t (pc := 96) 103 dX6_tellBy_96 (by decide) ((lg_cmp_le _ _).mpr c15) ?_
                refine X_iconst (pc := 103) (0 : Int32) dX6_tellBy_103 (by decide) ?_
                cases hf
                exact X_zreturn (pc := 104) rfl (nar_b (by decide)) dX6_tellBy_104
              · replace hf := (if_neg c15).symm.trans hf
                refine X_if_le_f (pc := 96) 103 dX6_tellBy_96 (by decide) (fun h => c15 ((lg_cmp_le _ _).mp h)) ?_
                refine X_iconst (pc := 99) (1 : Int32) dX6_tellBy_99 (by decide) ?_
                refine X_goto (pc := 100) 104 dX6_tellBy_100 (by decide) ?_
                cases hf
                exact X_zreturn (pc := 104) rfl (nar_b (by decide)) dX6_tellBy_104
            · replace hf := (if_neg c10).symm.trans hf
              refine X_if_le_f (pc := 65) 70 dX6_tellBy_65 (by decide) (fun h => c10 ((lg_cmp_le _ _).mp h)) ?_
              refine X_iconst (pc := 68) (0 : Int32) dX6_tellBy_68 (by decide) ?_
              cases hf
              exact X_zreturn (pc := 69) rfl (nar_b (by decide)) dX6_tellBy_69
        · replace hf := (if_neg c6).symm.trans hf
          refine X_if_ne_t (pc := 34) 105 dX6_tellBy_34 (by decide) (fun h => c6 ((lg_cmp_eq _ _).mp h)) ?_
          refine X_iinc (pc := 105) (i := 2) (q := 3) (v := (l2 + (1 : Int32))) [(2, .int (l2 + (1 : Int32))), (3, .int x3), (0, .ref (xP G 2)), (1, .int l1)] dX6_tellBy_105 rfl rfl (by decide) rfl ?_
          refine X_goto (pc := 108) 2 dX6_tellBy_108 (by decide) ?_
          exact X_lvs [2, 3, 0] rfl (ih hf)
theorem u_Ge_tellBy_L2 {S : List xSh} : ∀ (n : Nat) {l1 : Int32} {l2 : Int32} {I : Nat → Nat → Int32} {L : Nat → Nat → Int64} {q : (Int32 × (Nat → Nat → Int32) × (Nat → Nat → Int64))}, f_Ge_tellBy_L2 n l1 l2 I L = some q → FR S [] [3, 4, 1210, 1211] I q.2.1 L q.2.2 := by
  intro n
  induction n with
  | zero =>
    intro l1 l2 I L q hf
    exact absurd (show none = some q from hf) (by simp)
  | succ n ih =>
    intro l1 l2 I L q hf
    replace hf := (f_Ge_tellBy_L2.eq_2 _ _ _ _ _).symm.trans hf
    by_cases c1 : (3 : Int32) ≤ l2
    · replace hf := (if_pos c1).symm.trans hf
      cases hf
      exact FR.rf
    · replace hf := (if_neg c1).symm.trans hf
      obtain ⟨c2, hf⟩ := gd_some hf
      obtain ⟨x3, ex3, hf⟩ := bnd_e hf
      by_cases c4 : (f_Ge_hasArbor x3 I L) = (0 : Int32)
      · replace hf := (if_pos c4).symm.trans hf
        exact FR.tr FR.rf (ih hf) (by decide) (by decide)
      · replace hf := (if_neg c4).symm.trans hf
        obtain ⟨c5, hf⟩ := gd_some hf
        by_cases c6 : (L 4 (x3.toNatClampNeg)) = (0 : Int64)
        · replace hf := (if_pos c6).symm.trans hf
          obtain ⟨q7, c8, hf⟩ := bd_some hf
          by_cases c9 : (10000000 : Int64) < (Jabs (q7.2 2 10))
          · replace hf := (if_pos c9).symm.trans hf
            cases hf
            exact (FR.tr FR.rf (u_Ge_solve (q := q7) c8) (by decide) (by decide))
          · replace hf := (if_neg c9).symm.trans hf
            by_cases c10 : (q7.2 2 11) ≤ (10000000 : Int64)
            · replace hf := (if_pos c10).symm.trans hf
              obtain ⟨x11, ex11, hf⟩ := bnd_e hf
              obtain ⟨c12, hf⟩ := gd_some hf
              obtain ⟨x13, ex13, hf⟩ := bnd_e hf
              obtain ⟨c14, hf⟩ := gd_some hf
              by_cases c15 : (q7.2 2 11) ≤ (0 : Int64)
              · replace hf := (if_pos c15).symm.trans hf
                cases hf
                exact (FR.al (FR.al (FR.tr FR.rf (u_Ge_solve (q := q7) c8) (by decide) (by decide)) (by decide)) (by decide))
              · replace hf := (if_neg c15).symm.trans hf
                cases hf
                exact (FR.al (FR.al (FR.tr FR.rf (u_Ge_solve (q := q7) c8) (by decide) (by decide)) (by decide)) (by decide))
            · replace hf := (if_neg c10).symm.trans hf
              cases hf
              exact (FR.tr FR.rf (u_Ge_solve (q := q7) c8) (by decide) (by decide))
        · replace hf := (if_neg c6).symm.trans hf
          exact FR.tr FR.rf (ih hf) (by decide) (by decide)
def f_Ge_tellBy (a0 : Int32) (I : Nat → Nat → Int32) (L : Nat → Nat → Int64) : Option (Int32 × (Nat → Nat → Int32) × (Nat → Nat → Int64)) := (f_Ge_tellBy_L2 xF a0 (0 : Int32) I L)
set_option maxRecDepth 100000 in
set_option maxHeartbeats 4000000 in
theorem c_Ge_tellBy {G : xG} {S : List xSh} {Rf : Nat → Nat → Option Nat} (hT : xTH S Rf) {a0 : Int32} {I : Nat → Nat → Int32} {L : Nat → Nat → Int64} {q : (Int32 × (Nat → Nat → Int32) × (Nat → Nat → Int64))} (hf : f_Ge_tellBy a0 I L = some q) : CT G 3 m_Ge_tellBy [.ref (xP G 2), .int a0] (S, I, L, Rf) (some (.int q.1), (S, q.2.1, q.2.2, Rf)) := by
  refine CT.of (by decide +kernel) (Nat.le_of_ble_eq_true rfl) ?_
  show X G 3 m_Ge_tellBy 0 [(0, .ref (xP G 2)), (1, .int a0)] [] (S, I, L, Rf) (some (.int q.1), (S, q.2.1, q.2.2, Rf))
  replace hf := (f_Ge_tellBy.eq_1 _ _ _).symm.trans hf
  refine X_iconst (pc := 0) (0 : Int32) dX6_tellBy_0 (by decide) ?_
  refine X_istore_n (pc := 1) (i := 2) [(2, .int (0 : Int32)), (0, .ref (xP G 2)), (1, .int a0)] dX6_tellBy_1 rfl (by decide) rfl ?_
  exact X_lvs [1, 2, 0] rfl (x_Ge_tellBy_L2 hT xF hf)
theorem u_Ge_tellBy {S : List xSh} {a0 : Int32} {I : Nat → Nat → Int32} {L : Nat → Nat → Int64} {q : (Int32 × (Nat → Nat → Int32) × (Nat → Nat → Int64))} (hf : f_Ge_tellBy a0 I L = some q) : FR S [] [3, 4, 1210, 1211] I q.2.1 L q.2.2 := by
  replace hf := (f_Ge_tellBy.eq_1 _ _ _).symm.trans hf
  exact FR.tr FR.rf (u_Ge_tellBy_L2 xF hf) (by decide) (by decide)
theorem dX6_tellRound_0 : decode cX6_tellRound 0 = .ok (.iconst 0, 1) := by decide +kernel
theorem dX6_tellRound_1 : decode cX6_tellRound 1 = .ok (.istore_n 1, 1) := by decide +kernel
theorem dX6_tellRound_2 : decode cX6_tellRound 2 = .ok (.iconst 0, 1) := by decide +kernel
theorem dX6_tellRound_3 : decode cX6_tellRound 3 = .ok (.istore_n 2, 1) := by decide +kernel
theorem dX6_tellRound_4 : decode cX6_tellRound 4 = .ok (.iload_n 2, 1) := by decide +kernel
theorem dX6_tellRound_5 : decode cX6_tellRound 5 = .ok (.aload_n 0, 1) := by decide +kernel
theorem dX6_tellRound_6 : decode cX6_tellRound 6 = .ok (.getfield 32, 3) := by decide +kernel
theorem dX6_tellRound_9 : decode cX6_tellRound 9 = .ok (.if_icmp .ge 28, 3) := by decide +kernel
theorem dX6_tellRound_12 : decode cX6_tellRound 12 = .ok (.aload_n 0, 1) := by decide +kernel
theorem dX6_tellRound_13 : decode cX6_tellRound 13 = .ok (.iload_n 2, 1) := by decide +kernel
theorem dX6_tellRound_14 : decode cX6_tellRound 14 = .ok (.invokevirtual 87, 3) := by decide +kernel
theorem dX6_tellRound_17 : decode cX6_tellRound 17 = .ok (.iconst 1, 1) := by decide +kernel
theorem dX6_tellRound_18 : decode cX6_tellRound 18 = .ok (.if_icmp .ne 13, 3) := by decide +kernel
theorem dX6_tellRound_21 : decode cX6_tellRound 21 = .ok (.aload_n 0, 1) := by decide +kernel
theorem dX6_tellRound_22 : decode cX6_tellRound 22 = .ok (.iload_n 2, 1) := by decide +kernel
theorem dX6_tellRound_23 : decode cX6_tellRound 23 = .ok (.invokevirtual 91, 3) := by decide +kernel
theorem dX6_tellRound_26 : decode cX6_tellRound 26 = .ok (.ifCond .eq 5, 3) := by decide +kernel
theorem dX6_tellRound_29 : decode cX6_tellRound 29 = .ok (.iconst 1, 1) := by decide +kernel
theorem dX6_tellRound_30 : decode cX6_tellRound 30 = .ok (.istore_n 1, 1) := by decide +kernel
theorem dX6_tellRound_31 : decode cX6_tellRound 31 = .ok (.iinc 2 1, 3) := by decide +kernel
theorem dX6_tellRound_34 : decode cX6_tellRound 34 = .ok (.goto (-30), 3) := by decide +kernel
theorem dX6_tellRound_37 : decode cX6_tellRound 37 = .ok (.iload_n 1, 1) := by decide +kernel
theorem dX6_tellRound_38 : decode cX6_tellRound 38 = .ok (.ireturn, 1) := by decide +kernel
def f_Ge_tellRound_L4 : Nat → Int32 → Int32 → (Nat → Nat → Int32) → (Nat → Nat → Int64) → Option (Int32 × (Nat → Nat → Int32) × (Nat → Nat → Int64))
  | 0, _, _, _, _ => none
  | n + 1, l1, l2, I, L => (if (I 2 1) ≤ l2 then (if (l1 = (0 : Int32) ∨ l1 = (1 : Int32)) then (some (l1, I, L)) else none) else ((f_Ge_countUnknown l2 I L).bind fun q3 => (if q3 = (1 : Int32) then ((f_Ge_tellBy l2 I L).bind fun q6 => (if q6.1 = (0 : Int32) then (f_Ge_tellRound_L4 n l1 (l2 + (1 : Int32)) q6.2.1 q6.2.2) else (f_Ge_tellRound_L4 n (1 : Int32) (l2 + (1 : Int32)) q6.2.1 q6.2.2))) else (f_Ge_tellRound_L4 n l1 (l2 + (1 : Int32)) I L))))
set_option maxRecDepth 100000 in
set_option maxHeartbeats 4000000 in
theorem x_Ge_tellRound_L4 {G : xG} {S : List xSh} {Rf : Nat → Nat → Option Nat} (hT : xTH S Rf) : ∀ (n : Nat) {l1 : Int32} {l2 : Int32} {I : Nat → Nat → Int32} {L : Nat → Nat → Int64} {q : (Int32 × (Nat → Nat → Int32) × (Nat → Nat → Int64))}, f_Ge_tellRound_L4 n l1 l2 I L = some q → X G 4 m_Ge_tellRound 4 [(0, .ref (xP G 2)), (1, .int l1), (2, .int l2)] [] (S, I, L, Rf) (some (.int q.1), (S, q.2.1, q.2.2, Rf)) := by
  intro n
  induction n with
  | zero =>
    intro l1 l2 I L q hf
    exact absurd (show none = some q from hf) (by simp)
  | succ n ih =>
    intro l1 l2 I L q hf
    replace hf := (f_Ge_tellRound_L4.eq_2 _ _ _ _ _).symm.trans hf
    refine X_iload_n (pc := 4) (i := 2) 2 dX6_tellRound_4 rfl rfl ?_
    refine X_aload_n (pc := 5) (i := 0) 0 dX6_tellRound_5 rfl rfl ?_
    refine X_get (pc := 6) (a := 2) (ci := 6) (j := 1) (.int (I 2 1)) (sh_2 hT) (by decide) k_109 rfl dX6_tellRound_6 ?_
    by_cases c1 : (I 2 1) ≤ l2
    · replace hf := (if_pos c1).symm.trans hf
      refine X_icmp_ge_t (pc := 9) 37 dX6_tellRound_9 (by decide) c1 ?_
      refine X_iload_n (pc := 37) (i := 1) 1 dX6_tellRound_37 rfl rfl ?_
      obtain ⟨c2, hf⟩ := gd_some hf
      cases hf
      exact X_zreturn (pc := 38) rfl (nar_b c2) dX6_tellRound_38
    · replace hf := (if_neg c1).symm.trans hf
      refine X_icmp_ge_f (pc := 9) 37 dX6_tellRound_9 (by decide) c1 ?_
      refine X_aload_n (pc := 12) (i := 0) 0 dX6_tellRound_12 rfl rfl ?_
      refine X_iload_n (pc := 13) (i := 2) 2 dX6_tellRound_13 rfl rfl ?_
      obtain ⟨q3, c4, hf⟩ := bd_some hf
      refine X_invV_i (pc := 14) (c_Ge_countUnknown hT c4) ok_Ge_countUnknown (ci := 6) (sh_2 hT) k_583 k_585 k_5 nd_8 (by decide) rfl (Nat.le_of_ble_eq_true rfl) dX6_tellRound_14 ?_
      refine X_iconst (pc := 17) (1 : Int32) dX6_tellRound_17 (by decide) ?_
      by_cases c5 : q3 = (1 : Int32)
      · replace hf := (if_pos c5).symm.trans hf
        refine X_icmp_ne_f (pc := 18) 31 dX6_tellRound_18 (by decide) c5 ?_
        refine X_aload_n (pc := 21) (i := 0) 0 dX6_tellRound_21 rfl rfl ?_
        refine X_iload_n (pc := 22) (i := 2) 2 dX6_tellRound_22 rfl rfl ?_
        obtain ⟨q6, c7, hf⟩ := bd_some hf
        refine X_invV_i (pc := 23) (c_Ge_tellBy hT c7) ok_Ge_tellBy (ci := 6) (sh_2 hT) k_587 k_589 k_6 nd_5 (by decide) rfl (Nat.le_of_ble_eq_true rfl) dX6_tellRound_23 ?_
        by_cases c8 : q6.1 = (0 : Int32)
        · replace hf := (if_pos c8).symm.trans hf
          refine X_if_eq_t (pc := 26) 31 dX6_tellRound_26 (by decide) c8 ?_
          refine X_iinc (pc := 31) (i := 2) (q := 2) (v := (l2 + (1 : Int32))) [(2, .int (l2 + (1 : Int32))), (0, .ref (xP G 2)), (1, .int l1)] dX6_tellRound_31 rfl rfl (by decide) rfl ?_
          refine X_goto (pc := 34) 4 dX6_tellRound_34 (by decide) ?_
          exact X_lvs [1, 2, 0] rfl (ih hf)
        · replace hf := (if_neg c8).symm.trans hf
          refine X_if_eq_f (pc := 26) 31 dX6_tellRound_26 (by decide) c8 ?_
          refine X_iconst (pc := 29) (1 : Int32) dX6_tellRound_29 (by decide) ?_
          refine X_istore_n (pc := 30) (i := 1) [(1, .int (1 : Int32)), (0, .ref (xP G 2)), (2, .int l2)] dX6_tellRound_30 rfl (by decide) rfl ?_
          refine X_iinc (pc := 31) (i := 2) (q := 2) (v := (l2 + (1 : Int32))) [(2, .int (l2 + (1 : Int32))), (1, .int (1 : Int32)), (0, .ref (xP G 2))] dX6_tellRound_31 rfl rfl (by decide) rfl ?_
          refine X_goto (pc := 34) 4 dX6_tellRound_34 (by decide) ?_
          exact X_lvs [2, 1, 0] rfl (ih hf)
      · replace hf := (if_neg c5).symm.trans hf
        refine X_icmp_ne_t (pc := 18) 31 dX6_tellRound_18 (by decide) c5 ?_
        refine X_iinc (pc := 31) (i := 2) (q := 2) (v := (l2 + (1 : Int32))) [(2, .int (l2 + (1 : Int32))), (0, .ref (xP G 2)), (1, .int l1)] dX6_tellRound_31 rfl rfl (by decide) rfl ?_
        refine X_goto (pc := 34) 4 dX6_tellRound_34 (by decide) ?_
        exact X_lvs [1, 2, 0] rfl (ih hf)
theorem u_Ge_tellRound_L4 {S : List xSh} : ∀ (n : Nat) {l1 : Int32} {l2 : Int32} {I : Nat → Nat → Int32} {L : Nat → Nat → Int64} {q : (Int32 × (Nat → Nat → Int32) × (Nat → Nat → Int64))}, f_Ge_tellRound_L4 n l1 l2 I L = some q → FR S [] [3, 4, 1210, 1211] I q.2.1 L q.2.2 := by
  intro n
  induction n with
  | zero =>
    intro l1 l2 I L q hf
    exact absurd (show none = some q from hf) (by simp)
  | succ n ih =>
    intro l1 l2 I L q hf
    replace hf := (f_Ge_tellRound_L4.eq_2 _ _ _ _ _).symm.trans hf
    by_cases c1 : (I 2 1) ≤ l2
    · replace hf := (if_pos c1).symm.trans hf
      obtain ⟨c2, hf⟩ := gd_some hf
      cases hf
      exact FR.rf
    · replace hf := (if_neg c1).symm.trans hf
      obtain ⟨q3, c4, hf⟩ := bd_some hf
      by_cases c5 : q3 = (1 : Int32)
      · replace hf := (if_pos c5).symm.trans hf
        obtain ⟨q6, c7, hf⟩ := bd_some hf
        by_cases c8 : q6.1 = (0 : Int32)
        · replace hf := (if_pos c8).symm.trans hf
          exact FR.tr (FR.tr FR.rf (u_Ge_tellBy (q := q6) c7) (by decide) (by decide)) (ih hf) (by decide) (by decide)
        · replace hf := (if_neg c8).symm.trans hf
          exact FR.tr (FR.tr FR.rf (u_Ge_tellBy (q := q6) c7) (by decide) (by decide)) (ih hf) (by decide) (by decide)
      · replace hf := (if_neg c5).symm.trans hf
        exact FR.tr FR.rf (ih hf) (by decide) (by decide)
def f_Ge_tellRound (I : Nat → Nat → Int32) (L : Nat → Nat → Int64) : Option (Int32 × (Nat → Nat → Int32) × (Nat → Nat → Int64)) := (f_Ge_tellRound_L4 xF (0 : Int32) (0 : Int32) I L)
set_option maxRecDepth 100000 in
set_option maxHeartbeats 4000000 in
theorem c_Ge_tellRound {G : xG} {S : List xSh} {Rf : Nat → Nat → Option Nat} (hT : xTH S Rf) {I : Nat → Nat → Int32} {L : Nat → Nat → Int64} {q : (Int32 × (Nat → Nat → Int32) × (Nat → Nat → Int64))} (hf : f_Ge_tellRound I L = some q) : CT G 4 m_Ge_tellRound [.ref (xP G 2)] (S, I, L, Rf) (some (.int q.1), (S, q.2.1, q.2.2, Rf)) := by
  refine CT.of (by decide +kernel) (Nat.le_of_ble_eq_true rfl) ?_
  show X G 4 m_Ge_tellRound 0 [(0, .ref (xP G 2))] [] (S, I, L, Rf) (some (.int q.1), (S, q.2.1, q.2.2, Rf))
  replace hf := (f_Ge_tellRound.eq_1 _ _).symm.trans hf
  refine X_iconst (pc := 0) (0 : Int32) dX6_tellRound_0 (by decide) ?_
  refine X_istore_n (pc := 1) (i := 1) [(1, .int (0 : Int32)), (0, .ref (xP G 2))] dX6_tellRound_1 rfl (by decide) rfl ?_
  refine X_iconst (pc := 2) (0 : Int32) dX6_tellRound_2 (by decide) ?_
  refine X_istore_n (pc := 3) (i := 2) [(2, .int (0 : Int32)), (1, .int (0 : Int32)), (0, .ref (xP G 2))] dX6_tellRound_3 rfl (by decide) rfl ?_
  exact X_lvs [2, 1, 0] rfl (x_Ge_tellRound_L4 hT xF hf)
theorem u_Ge_tellRound {S : List xSh} {I : Nat → Nat → Int32} {L : Nat → Nat → Int64} {q : (Int32 × (Nat → Nat → Int32) × (Nat → Nat → Int64))} (hf : f_Ge_tellRound I L = some q) : FR S [] [3, 4, 1210, 1211] I q.2.1 L q.2.2 := by
  replace hf := (f_Ge_tellRound.eq_1 _ _).symm.trans hf
  exact FR.tr FR.rf (u_Ge_tellRound_L4 xF hf) (by decide) (by decide)
theorem dX6_findSpeeds_0 : decode cX6_findSpeeds 0 = .ok (.aload_n 0, 1) := by decide +kernel
theorem dX6_findSpeeds_1 : decode cX6_findSpeeds 1 = .ok (.invokevirtual 45, 3) := by decide +kernel
theorem dX6_findSpeeds_4 : decode cX6_findSpeeds 4 = .ok (.aload_n 0, 1) := by decide +kernel
theorem dX6_findSpeeds_5 : decode cX6_findSpeeds 5 = .ok (.aload_n 0, 1) := by decide +kernel
theorem dX6_findSpeeds_6 : decode cX6_findSpeeds 6 = .ok (.getfield 35, 3) := by decide +kernel
theorem dX6_findSpeeds_9 : decode cX6_findSpeeds 9 = .ok (.invokevirtual 48, 3) := by decide +kernel
theorem dX6_findSpeeds_12 : decode cX6_findSpeeds 12 = .ok (.ifCond .eq 23, 3) := by decide +kernel
theorem dX6_findSpeeds_15 : decode cX6_findSpeeds 15 = .ok (.aload_n 0, 1) := by decide +kernel
theorem dX6_findSpeeds_16 : decode cX6_findSpeeds 16 = .ok (.getfield 11, 3) := by decide +kernel
theorem dX6_findSpeeds_19 : decode cX6_findSpeeds 19 = .ok (.aload_n 0, 1) := by decide +kernel
theorem dX6_findSpeeds_20 : decode cX6_findSpeeds 20 = .ok (.getfield 35, 3) := by decide +kernel
theorem dX6_findSpeeds_23 : decode cX6_findSpeeds 23 = .ok (.lconst 1, 1) := by decide +kernel
theorem dX6_findSpeeds_24 : decode cX6_findSpeeds 24 = .ok (.lastore, 1) := by decide +kernel
theorem dX6_findSpeeds_25 : decode cX6_findSpeeds 25 = .ok (.aload_n 0, 1) := by decide +kernel
theorem dX6_findSpeeds_26 : decode cX6_findSpeeds 26 = .ok (.getfield 15, 3) := by decide +kernel
theorem dX6_findSpeeds_29 : decode cX6_findSpeeds 29 = .ok (.aload_n 0, 1) := by decide +kernel
theorem dX6_findSpeeds_30 : decode cX6_findSpeeds 30 = .ok (.getfield 35, 3) := by decide +kernel
theorem dX6_findSpeeds_33 : decode cX6_findSpeeds 33 = .ok (.lconst 1, 1) := by decide +kernel
theorem dX6_findSpeeds_34 : decode cX6_findSpeeds 34 = .ok (.lastore, 1) := by decide +kernel
theorem dX6_findSpeeds_35 : decode cX6_findSpeeds 35 = .ok (.iconst 1, 1) := by decide +kernel
theorem dX6_findSpeeds_36 : decode cX6_findSpeeds 36 = .ok (.istore_n 1, 1) := by decide +kernel
theorem dX6_findSpeeds_37 : decode cX6_findSpeeds 37 = .ok (.iconst 0, 1) := by decide +kernel
theorem dX6_findSpeeds_38 : decode cX6_findSpeeds 38 = .ok (.istore_n 2, 1) := by decide +kernel
theorem dX6_findSpeeds_39 : decode cX6_findSpeeds 39 = .ok (.iload_n 1, 1) := by decide +kernel
theorem dX6_findSpeeds_40 : decode cX6_findSpeeds 40 = .ok (.ifCond .eq 20, 3) := by decide +kernel
theorem dX6_findSpeeds_43 : decode cX6_findSpeeds 43 = .ok (.iload_n 2, 1) := by decide +kernel
theorem dX6_findSpeeds_44 : decode cX6_findSpeeds 44 = .ok (.bipush 24, 2) := by decide +kernel
theorem dX6_findSpeeds_46 : decode cX6_findSpeeds 46 = .ok (.if_icmp .gt 14, 3) := by decide +kernel
theorem dX6_findSpeeds_49 : decode cX6_findSpeeds 49 = .ok (.aload_n 0, 1) := by decide +kernel
theorem dX6_findSpeeds_50 : decode cX6_findSpeeds 50 = .ok (.invokevirtual 78, 3) := by decide +kernel
theorem dX6_findSpeeds_53 : decode cX6_findSpeeds 53 = .ok (.istore_n 1, 1) := by decide +kernel
theorem dX6_findSpeeds_54 : decode cX6_findSpeeds 54 = .ok (.iinc 2 1, 3) := by decide +kernel
theorem dX6_findSpeeds_57 : decode cX6_findSpeeds 57 = .ok (.goto (-18), 3) := by decide +kernel
theorem dX6_findSpeeds_60 : decode cX6_findSpeeds 60 = .ok (.iconst 0, 1) := by decide +kernel
theorem dX6_findSpeeds_61 : decode cX6_findSpeeds 61 = .ok (.istore_n 2, 1) := by decide +kernel
theorem dX6_findSpeeds_62 : decode cX6_findSpeeds 62 = .ok (.iload_n 2, 1) := by decide +kernel
theorem dX6_findSpeeds_63 : decode cX6_findSpeeds 63 = .ok (.bipush 24, 2) := by decide +kernel
theorem dX6_findSpeeds_65 : decode cX6_findSpeeds 65 = .ok (.if_icmp .ge 31, 3) := by decide +kernel
theorem dX6_findSpeeds_68 : decode cX6_findSpeeds 68 = .ok (.aload_n 0, 1) := by decide +kernel
theorem dX6_findSpeeds_69 : decode cX6_findSpeeds 69 = .ok (.getfield 18, 3) := by decide +kernel
theorem dX6_findSpeeds_72 : decode cX6_findSpeeds 72 = .ok (.iload_n 2, 1) := by decide +kernel
theorem dX6_findSpeeds_73 : decode cX6_findSpeeds 73 = .ok (.aload_n 0, 1) := by decide +kernel
theorem dX6_findSpeeds_74 : decode cX6_findSpeeds 74 = .ok (.getfield 15, 3) := by decide +kernel
theorem dX6_findSpeeds_77 : decode cX6_findSpeeds 77 = .ok (.iload_n 2, 1) := by decide +kernel
theorem dX6_findSpeeds_78 : decode cX6_findSpeeds 78 = .ok (.laload, 1) := by decide +kernel
theorem dX6_findSpeeds_79 : decode cX6_findSpeeds 79 = .ok (.ldc2_w 82, 3) := by decide +kernel
theorem dX6_findSpeeds_82 : decode cX6_findSpeeds 82 = .ok (.lmul, 1) := by decide +kernel
theorem dX6_findSpeeds_83 : decode cX6_findSpeeds 83 = .ok (.aload_n 0, 1) := by decide +kernel
theorem dX6_findSpeeds_84 : decode cX6_findSpeeds 84 = .ok (.getfield 38, 3) := by decide +kernel
theorem dX6_findSpeeds_87 : decode cX6_findSpeeds 87 = .ok (.i2l, 1) := by decide +kernel
theorem dX6_findSpeeds_88 : decode cX6_findSpeeds 88 = .ok (.lmul, 1) := by decide +kernel
theorem dX6_findSpeeds_89 : decode cX6_findSpeeds 89 = .ok (.lastore, 1) := by decide +kernel
theorem dX6_findSpeeds_90 : decode cX6_findSpeeds 90 = .ok (.iinc 2 1, 3) := by decide +kernel
theorem dX6_findSpeeds_93 : decode cX6_findSpeeds 93 = .ok (.goto (-31), 3) := by decide +kernel
theorem dX6_findSpeeds_96 : decode cX6_findSpeeds 96 = .ok (.aload_n 0, 1) := by decide +kernel
theorem dX6_findSpeeds_97 : decode cX6_findSpeeds 97 = .ok (.aload_n 0, 1) := by decide +kernel
theorem dX6_findSpeeds_98 : decode cX6_findSpeeds 98 = .ok (.invokevirtual 84, 3) := by decide +kernel
theorem dX6_findSpeeds_101 : decode cX6_findSpeeds 101 = .ok (.putfield 41, 3) := by decide +kernel
theorem dX6_findSpeeds_104 : decode cX6_findSpeeds 104 = .ok (.return_, 1) := by decide +kernel
def f_Ge_findSpeeds_L62 : Nat → Int32 → (Nat → Nat → Int32) → (Nat → Nat → Int64) → Option ((Nat → Nat → Int32) × (Nat → Nat → Int64))
  | 0, _, _, _ => none
  | n + 1, l2, I, L => (if (24 : Int32) ≤ l2 then ((f_Ge_isSomeLinkBroken I L).bind fun q6 => (if (q6.1 = (0 : Int32) ∨ q6.1 = (1 : Int32)) then (some ((uI q6.2.1 2 4 q6.1), q6.2.2)) else none)) else (if (0 ≤ l2 ∧ l2 < (24 : Int32)) then (bnd (((L 4 (l2.toNatClampNeg)) * (2 : Int64)) * (Int32.toInt64 (I 2 3))) fun x10 => (if (0 ≤ l2 ∧ l2 < (24 : Int32)) then (f_Ge_findSpeeds_L62 n (l2 + (1 : Int32)) I (uL L 5 (l2.toNatClampNeg) x10)) else none)) else none))
set_option maxRecDepth 100000 in
set_option maxHeartbeats 4000000 in
theorem x_Ge_findSpeeds_L62 {G : xG} {S : List xSh} {Rf : Nat → Nat → Option Nat} (hT : xTH S Rf) : ∀ (n : Nat) {l2 : Int32} {I : Nat → Nat → Int32} {L : Nat → Nat → Int64} {q : ((Nat → Nat → Int32) × (Nat → Nat → Int64))}, f_Ge_findSpeeds_L62 n l2 I L = some q → X G 5 m_Ge_findSpeeds 62 [(0, .ref (xP G 2)), (2, .int l2)] [] (S, I, L, Rf) (none, (S, q.1, q.2, Rf)) := by
  intro n
  induction n with
  | zero =>
    intro l2 I L q hf
    exact absurd (show none = some q from hf) (by simp)
  | succ n ih =>
    intro l2 I L q hf
    replace hf := (f_Ge_findSpeeds_L62.eq_2 _ _ _ _).symm.trans hf
    refine X_iload_n (pc := 62) (i := 2) 1 dX6_findSpeeds_62 rfl rfl ?_
    refine X_bipush (pc := 63) (24 : Int32) dX6_findSpeeds_63 (by decide) ?_
    by_cases c5 : (24 : Int32) ≤ l2
    · replace hf := (if_pos c5).symm.trans hf
      refine X_icmp_ge_t (pc := 65) 96 dX6_findSpeeds_65 (by decide) c5 ?_
      refine X_aload_n (pc := 96) (i := 0) 0 dX6_findSpeeds_96 rfl rfl ?_
      refine X_aload_n (pc := 97) (i := 0) 0 dX6_findSpeeds_97 rfl rfl ?_
      obtain ⟨q6, c7, hf⟩ := bd_some hf
      refine X_invV_i (pc := 98) (c_Ge_isSomeLinkBroken hT c7) ok_Ge_isSomeLinkBroken (ci := 6) (sh_2 hT) k_605 k_607 k_8 nd_11 (by decide) rfl (Nat.le_of_ble_eq_true rfl) dX6_findSpeeds_98 ?_
      obtain ⟨c8, hf⟩ := gd_some hf
      refine X_putz (pc := 101) (a := 2) (ci := 6) (j := 4) 4 rfl false (sh_2 hT) (by decide) k_114 rfl (fun h => by cases h) rfl c8 dX6_findSpeeds_101 ?_
      cases hf
      exact X_return (pc := 104) rfl dX6_findSpeeds_104
    · replace hf := (if_neg c5).symm.trans hf
      refine X_icmp_ge_f (pc := 65) 96 dX6_findSpeeds_65 (by decide) c5 ?_
      refine X_aload_n (pc := 68) (i := 0) 0 dX6_findSpeeds_68 rfl rfl ?_
      refine X_getr (pc := 69) (a := 2) (ci := 6) (j := 7) (c := 5) (sh_2 hT) (by decide) k_120 (rf_2_7 hT) (fun _ h => h) dX6_findSpeeds_69 ?_
      refine X_iload_n (pc := 72) (i := 2) 1 dX6_findSpeeds_72 rfl rfl ?_
      refine X_aload_n (pc := 73) (i := 0) 0 dX6_findSpeeds_73 rfl rfl ?_
      refine X_getr (pc := 74) (a := 2) (ci := 6) (j := 6) (c := 4) (sh_2 hT) (by decide) k_118 (rf_2_6 hT) (fun _ h => h) dX6_findSpeeds_74 ?_
      refine X_iload_n (pc := 77) (i := 2) 1 dX6_findSpeeds_77 rfl rfl ?_
      obtain ⟨c9, hf⟩ := gd_some hf
      refine X_laldj (pc := 78) (j := l2.toNatClampNeg) (L 4 (l2.toNatClampNeg)) (sh_4 hT) (vp_in_lit (N := 24) c9 (by decide)) rfl rfl dX6_findSpeeds_78 ?_
      refine X_ldc2 (pc := 79) (2 : Int64) k_604 dX6_findSpeeds_79 ?_
      refine X_lmul (pc := 82) dX6_findSpeeds_82 ?_
      refine X_aload_n (pc := 83) (i := 0) 0 dX6_findSpeeds_83 rfl rfl ?_
      refine X_get (pc := 84) (a := 2) (ci := 6) (j := 3) (.int (I 2 3)) (sh_2 hT) (by decide) k_113 rfl dX6_findSpeeds_84 ?_
      refine X_i2l (pc := 87) dX6_findSpeeds_87 ?_
      refine X_lmul (pc := 88) dX6_findSpeeds_88 ?_
      obtain ⟨x10, ex10, hf⟩ := bnd_e hf
      refine X_tople ex10 ?_
      obtain ⟨c11, hf⟩ := gd_some hf
      refine X_lastj (pc := 89) (j := (l2.toNatClampNeg)) (sh_5 hT) (vp_in_lit (N := 24) c11 (by decide)) rfl dX6_findSpeeds_89 ?_
      refine X_iinc (pc := 90) (i := 2) (q := 1) (v := (l2 + (1 : Int32))) [(2, .int (l2 + (1 : Int32))), (0, .ref (xP G 2))] dX6_findSpeeds_90 rfl rfl (by decide) rfl ?_
      refine X_goto (pc := 93) 62 dX6_findSpeeds_93 (by decide) ?_
      exact X_lvs [1, 0] rfl (ih hf)
theorem u_Ge_findSpeeds_L62 {S : List xSh} : ∀ (n : Nat) {l2 : Int32} {I : Nat → Nat → Int32} {L : Nat → Nat → Int64} {q : ((Nat → Nat → Int32) × (Nat → Nat → Int64))}, f_Ge_findSpeeds_L62 n l2 I L = some q → FR S [1204] [3, 4, 5, 1210, 1211] I q.1 L q.2 := by
  intro n
  induction n with
  | zero =>
    intro l2 I L q hf
    exact absurd (show none = some q from hf) (by simp)
  | succ n ih =>
    intro l2 I L q hf
    replace hf := (f_Ge_findSpeeds_L62.eq_2 _ _ _ _).symm.trans hf
    by_cases c5 : (24 : Int32) ≤ l2
    · replace hf := (if_pos c5).symm.trans hf
      obtain ⟨q6, c7, hf⟩ := bd_some hf
      obtain ⟨c8, hf⟩ := gd_some hf
      cases hf
      exact (FR.fi (FR.tr FR.rf (u_Ge_isSomeLinkBroken (q := q6) c7) (by decide) (by decide)) (by decide))
    · replace hf := (if_neg c5).symm.trans hf
      obtain ⟨c9, hf⟩ := gd_some hf
      obtain ⟨x10, ex10, hf⟩ := bnd_e hf
      obtain ⟨c11, hf⟩ := gd_some hf
      exact FR.tr (FR.al FR.rf (by decide)) (ih hf) (by decide) (by decide)
def f_Ge_findSpeeds_L39 : Nat → Int32 → Int32 → (Nat → Nat → Int32) → (Nat → Nat → Int64) → Option ((Nat → Nat → Int32) × (Nat → Nat → Int64))
  | 0, _, _, _, _ => none
  | n + 1, l1, l2, I, L => (if l1 = (0 : Int32) then (f_Ge_findSpeeds_L62 xF (0 : Int32) I L) else (if (24 : Int32) < l2 then (f_Ge_findSpeeds_L62 xF (0 : Int32) I L) else ((f_Ge_tellRound I L).bind fun q13 => (f_Ge_findSpeeds_L39 n q13.1 (l2 + (1 : Int32)) q13.2.1 q13.2.2))))
set_option maxRecDepth 100000 in
set_option maxHeartbeats 4000000 in
theorem x_Ge_findSpeeds_L39 {G : xG} {S : List xSh} {Rf : Nat → Nat → Option Nat} (hT : xTH S Rf) : ∀ (n : Nat) {l1 : Int32} {l2 : Int32} {I : Nat → Nat → Int32} {L : Nat → Nat → Int64} {q : ((Nat → Nat → Int32) × (Nat → Nat → Int64))}, f_Ge_findSpeeds_L39 n l1 l2 I L = some q → X G 5 m_Ge_findSpeeds 39 [(0, .ref (xP G 2)), (1, .int l1), (2, .int l2)] [] (S, I, L, Rf) (none, (S, q.1, q.2, Rf)) := by
  intro n
  induction n with
  | zero =>
    intro l1 l2 I L q hf
    exact absurd (show none = some q from hf) (by simp)
  | succ n ih =>
    intro l1 l2 I L q hf
    replace hf := (f_Ge_findSpeeds_L39.eq_2 _ _ _ _ _).symm.trans hf
    refine X_iload_n (pc := 39) (i := 1) 1 dX6_findSpeeds_39 rfl rfl ?_
    by_cases c4 : l1 = (0 : Int32)
    · replace hf := (if_pos c4).symm.trans hf
      refine X_if_eq_t (pc := 40) 60 dX6_findSpeeds_40 (by decide) c4 ?_
      refine X_iconst (pc := 60) (0 : Int32) dX6_findSpeeds_60 (by decide) ?_
      refine X_istore_n (pc := 61) (i := 2) [(2, .int (0 : Int32)), (0, .ref (xP G 2)), (1, .int l1)] dX6_findSpeeds_61 rfl (by decide) rfl ?_
      exact X_lvs [1, 0] rfl (x_Ge_findSpeeds_L62 hT xF hf)
    · replace hf := (if_neg c4).symm.trans hf
      refine X_if_eq_f (pc := 40) 60 dX6_findSpeeds_40 (by decide) c4 ?_
      refine X_iload_n (pc := 43) (i := 2) 2 dX6_findSpeeds_43 rfl rfl ?_
      refine X_bipush (pc := 44) (24 : Int32) dX6_findSpeeds_44 (by decide) ?_
      by_cases c12 : (24 : Int32) < l2
      · replace hf := (if_pos c12).symm.trans hf
        refine X_icmp_gt_t (pc := 46) 60 dX6_findSpeeds_46 (by decide) c12 ?_
        refine X_iconst (pc := 60) (0 : Int32) dX6_findSpeeds_60 (by decide) ?_
        refine X_istore_n (pc := 61) (i := 2) [(2, .int (0 : Int32)), (0, .ref (xP G 2)), (1, .int l1)] dX6_findSpeeds_61 rfl (by decide) rfl ?_
        exact X_lvs [1, 0] rfl (x_Ge_findSpeeds_L62 hT xF hf)
      · replace hf := (if_neg c12).symm.trans hf
        refine X_icmp_gt_f (pc := 46) 60 dX6_findSpeeds_46 (by decide) c12 ?_
        refine X_aload_n (pc := 49) (i := 0) 0 dX6_findSpeeds_49 rfl rfl ?_
        obtain ⟨q13, c14, hf⟩ := bd_some hf
        refine X_invV_i (pc := 50) (c_Ge_tellRound hT c14) ok_Ge_tellRound (ci := 6) (sh_2 hT) k_579 k_581 k_4 nd_11 (by decide) rfl (Nat.le_of_ble_eq_true rfl) dX6_findSpeeds_50 ?_
        refine X_istore_n (pc := 53) (i := 1) [(1, .int q13.1), (0, .ref (xP G 2)), (2, .int l2)] dX6_findSpeeds_53 rfl (by decide) rfl ?_
        refine X_iinc (pc := 54) (i := 2) (q := 2) (v := (l2 + (1 : Int32))) [(2, .int (l2 + (1 : Int32))), (1, .int q13.1), (0, .ref (xP G 2))] dX6_findSpeeds_54 rfl rfl (by decide) rfl ?_
        refine X_goto (pc := 57) 39 dX6_findSpeeds_57 (by decide) ?_
        exact X_lvs [2, 1, 0] rfl (ih hf)
theorem u_Ge_findSpeeds_L39 {S : List xSh} : ∀ (n : Nat) {l1 : Int32} {l2 : Int32} {I : Nat → Nat → Int32} {L : Nat → Nat → Int64} {q : ((Nat → Nat → Int32) × (Nat → Nat → Int64))}, f_Ge_findSpeeds_L39 n l1 l2 I L = some q → FR S [1204] [3, 4, 5, 1210, 1211] I q.1 L q.2 := by
  intro n
  induction n with
  | zero =>
    intro l1 l2 I L q hf
    exact absurd (show none = some q from hf) (by simp)
  | succ n ih =>
    intro l1 l2 I L q hf
    replace hf := (f_Ge_findSpeeds_L39.eq_2 _ _ _ _ _).symm.trans hf
    by_cases c4 : l1 = (0 : Int32)
    · replace hf := (if_pos c4).symm.trans hf
      exact FR.tr FR.rf (u_Ge_findSpeeds_L62 xF hf) (by decide) (by decide)
    · replace hf := (if_neg c4).symm.trans hf
      by_cases c12 : (24 : Int32) < l2
      · replace hf := (if_pos c12).symm.trans hf
        exact FR.tr FR.rf (u_Ge_findSpeeds_L62 xF hf) (by decide) (by decide)
      · replace hf := (if_neg c12).symm.trans hf
        obtain ⟨q13, c14, hf⟩ := bd_some hf
        exact FR.tr (FR.tr FR.rf (u_Ge_tellRound (q := q13) c14) (by decide) (by decide)) (ih hf) (by decide) (by decide)
def f_Ge_findSpeeds (I : Nat → Nat → Int32) (L : Nat → Nat → Int64) : Option ((Nat → Nat → Int32) × (Nat → Nat → Int64)) := ((f_Ge_forgetSpeeds I L).bind fun q1 => (if (f_Ge_hasArbor (q1.1 2 2) q1.1 q1.2) = (0 : Int32) then (f_Ge_findSpeeds_L39 xF (1 : Int32) (0 : Int32) q1.1 q1.2) else (if (0 ≤ (q1.1 2 2) ∧ (q1.1 2 2) < (24 : Int32)) then (if (0 ≤ (q1.1 2 2) ∧ (q1.1 2 2) < (24 : Int32)) then (f_Ge_findSpeeds_L39 xF (1 : Int32) (0 : Int32) q1.1 (uL (uL q1.2 3 ((q1.1 2 2).toNatClampNeg) (1 : Int64)) 4 ((q1.1 2 2).toNatClampNeg) (1 : Int64))) else none) else none)))
set_option maxRecDepth 100000 in
set_option maxHeartbeats 4000000 in
theorem c_Ge_findSpeeds {G : xG} {S : List xSh} {Rf : Nat → Nat → Option Nat} (hT : xTH S Rf) {I : Nat → Nat → Int32} {L : Nat → Nat → Int64} {q : ((Nat → Nat → Int32) × (Nat → Nat → Int64))} (hf : f_Ge_findSpeeds I L = some q) : CT G 5 m_Ge_findSpeeds [.ref (xP G 2)] (S, I, L, Rf) (none, (S, q.1, q.2, Rf)) := by
  refine CT.of (by decide +kernel) (Nat.le_of_ble_eq_true rfl) ?_
  show X G 5 m_Ge_findSpeeds 0 [(0, .ref (xP G 2))] [] (S, I, L, Rf) (none, (S, q.1, q.2, Rf))
  replace hf := (f_Ge_findSpeeds.eq_1 _ _).symm.trans hf
  refine X_aload_n (pc := 0) (i := 0) 0 dX6_findSpeeds_0 rfl rfl ?_
  obtain ⟨q1, c2, hf⟩ := bd_some hf
  refine X_invV_v (pc := 1) (c_Ge_forgetSpeeds hT c2) ok_Ge_forgetSpeeds (ci := 6) (sh_2 hT) k_471 k_473 k_1 nd_1 (by decide) rfl (Nat.le_of_ble_eq_true rfl) dX6_findSpeeds_1 ?_
  refine X_aload_n (pc := 4) (i := 0) 0 dX6_findSpeeds_4 rfl rfl ?_
  refine X_aload_n (pc := 5) (i := 0) 0 dX6_findSpeeds_5 rfl rfl ?_
  refine X_get (pc := 6) (a := 2) (ci := 6) (j := 2) (.int (q1.1 2 2)) (sh_2 hT) (by decide) k_111 rfl dX6_findSpeeds_6 ?_
  refine X_invV_i (pc := 9) (c_Ge_hasArbor hT rfl) ok_Ge_hasArbor (ci := 6) (sh_2 hT) k_578 k_560 k_561 nd_5 (by decide) rfl (Nat.le_of_ble_eq_true rfl) dX6_findSpeeds_9 ?_
  by_cases c3 : (f_Ge_hasArbor (q1.1 2 2) q1.1 q1.2) = (0 : Int32)
  · replace hf := (if_pos c3).symm.trans hf
    refine X_if_eq_t (pc := 12) 35 dX6_findSpeeds_12 (by decide) c3 ?_
    refine X_iconst (pc := 35) (1 : Int32) dX6_findSpeeds_35 (by decide) ?_
    refine X_istore_n (pc := 36) (i := 1) [(1, .int (1 : Int32)), (0, .ref (xP G 2))] dX6_findSpeeds_36 rfl (by decide) rfl ?_
    refine X_iconst (pc := 37) (0 : Int32) dX6_findSpeeds_37 (by decide) ?_
    refine X_istore_n (pc := 38) (i := 2) [(2, .int (0 : Int32)), (1, .int (1 : Int32)), (0, .ref (xP G 2))] dX6_findSpeeds_38 rfl (by decide) rfl ?_
    exact X_lvs [2, 1, 0] rfl (x_Ge_findSpeeds_L39 hT xF hf)
  · replace hf := (if_neg c3).symm.trans hf
    refine X_if_eq_f (pc := 12) 35 dX6_findSpeeds_12 (by decide) c3 ?_
    refine X_aload_n (pc := 15) (i := 0) 0 dX6_findSpeeds_15 rfl rfl ?_
    refine X_getr (pc := 16) (a := 2) (ci := 6) (j := 5) (c := 3) (sh_2 hT) (by decide) k_116 (rf_2_5 hT) (fun _ h => h) dX6_findSpeeds_16 ?_
    refine X_aload_n (pc := 19) (i := 0) 0 dX6_findSpeeds_19 rfl rfl ?_
    refine X_get (pc := 20) (a := 2) (ci := 6) (j := 2) (.int (q1.1 2 2)) (sh_2 hT) (by decide) k_111 rfl dX6_findSpeeds_20 ?_
    refine X_lconst (pc := 23) (1 : Int64) dX6_findSpeeds_23 (by decide) ?_
    obtain ⟨c15, hf⟩ := gd_some hf
    refine X_lastj (pc := 24) (j := ((q1.1 2 2).toNatClampNeg)) (sh_3 hT) (vp_in_lit (N := 24) c15 (by decide)) rfl dX6_findSpeeds_24 ?_
    refine X_aload_n (pc := 25) (i := 0) 0 dX6_findSpeeds_25 rfl rfl ?_
    refine X_getr (pc := 26) (a := 2) (ci := 6) (j := 6) (c := 4) (sh_2 hT) (by decide) k_118 (rf_2_6 hT) (fun _ h => h) dX6_findSpeeds_26 ?_
    refine X_aload_n (pc := 29) (i := 0) 0 dX6_findSpeeds_29 rfl rfl ?_
    refine X_get (pc := 30) (a := 2) (ci := 6) (j := 2) (.int (q1.1 2 2)) (sh_2 hT) (by decide) k_111 rfl dX6_findSpeeds_30 ?_
    refine X_lconst (pc := 33) (1 : Int64) dX6_findSpeeds_33 (by decide) ?_
    obtain ⟨c16, hf⟩ := gd_some hf
    refine X_lastj (pc := 34) (j := ((q1.1 2 2).toNatClampNeg)) (sh_4 hT) (vp_in_lit (N := 24) c16 (by decide)) rfl dX6_findSpeeds_34 ?_
    refine X_iconst (pc := 35) (1 : Int32) dX6_findSpeeds_35 (by decide) ?_
    refine X_istore_n (pc := 36) (i := 1) [(1, .int (1 : Int32)), (0, .ref (xP G 2))] dX6_findSpeeds_36 rfl (by decide) rfl ?_
    refine X_iconst (pc := 37) (0 : Int32) dX6_findSpeeds_37 (by decide) ?_
    refine X_istore_n (pc := 38) (i := 2) [(2, .int (0 : Int32)), (1, .int (1 : Int32)), (0, .ref (xP G 2))] dX6_findSpeeds_38 rfl (by decide) rfl ?_
    exact X_lvs [2, 1, 0] rfl (x_Ge_findSpeeds_L39 hT xF hf)
theorem u_Ge_findSpeeds {S : List xSh} {I : Nat → Nat → Int32} {L : Nat → Nat → Int64} {q : ((Nat → Nat → Int32) × (Nat → Nat → Int64))} (hf : f_Ge_findSpeeds I L = some q) : FR S [1204] [3, 4, 5, 1210, 1211] I q.1 L q.2 := by
  replace hf := (f_Ge_findSpeeds.eq_1 _ _).symm.trans hf
  obtain ⟨q1, c2, hf⟩ := bd_some hf
  by_cases c3 : (f_Ge_hasArbor (q1.1 2 2) q1.1 q1.2) = (0 : Int32)
  · replace hf := (if_pos c3).symm.trans hf
    exact FR.tr (FR.tr FR.rf (u_Ge_forgetSpeeds (q := q1) c2) (by decide) (by decide)) (u_Ge_findSpeeds_L39 xF hf) (by decide) (by decide)
  · replace hf := (if_neg c3).symm.trans hf
    obtain ⟨c15, hf⟩ := gd_some hf
    obtain ⟨c16, hf⟩ := gd_some hf
    exact FR.tr (FR.al (FR.al (FR.tr FR.rf (u_Ge_forgetSpeeds (q := q1) c2) (by decide) (by decide)) (by decide)) (by decide)) (u_Ge_findSpeeds_L39 xF hf) (by decide) (by decide)

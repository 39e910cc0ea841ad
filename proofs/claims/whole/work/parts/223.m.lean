theorem dX12_tick_0 : decode cX12_tick 0 = .ok (.iload_n 1, 1) := by decide +kernel
theorem dX12_tick_1 : decode cX12_tick 1 = .ok (.i2l, 1) := by decide +kernel
theorem dX12_tick_2 : decode cX12_tick 2 = .ok (.lconst 0, 1) := by decide +kernel
theorem dX12_tick_3 : decode cX12_tick 3 = .ok (.aload_n 0, 1) := by decide +kernel
theorem dX12_tick_4 : decode cX12_tick 4 = .ok (.getfield 185, 3) := by decide +kernel
theorem dX12_tick_7 : decode cX12_tick 7 = .ok (.sipush 3000, 3) := by decide +kernel
theorem dX12_tick_10 : decode cX12_tick 10 = .ok (.invokestatic 348, 3) := by decide +kernel
theorem dX12_tick_13 : decode cX12_tick 13 = .ok (.iconst 1, 1) := by decide +kernel
theorem dX12_tick_14 : decode cX12_tick 14 = .ok (.isub, 1) := by decide +kernel
theorem dX12_tick_15 : decode cX12_tick 15 = .ok (.i2l, 1) := by decide +kernel
theorem dX12_tick_16 : decode cX12_tick 16 = .ok (.invokestatic 140, 3) := by decide +kernel
theorem dX12_tick_19 : decode cX12_tick 19 = .ok (.ifCond .eq 26, 3) := by decide +kernel
theorem dX12_tick_22 : decode cX12_tick 22 = .ok (.iload_n 2, 1) := by decide +kernel
theorem dX12_tick_23 : decode cX12_tick 23 = .ok (.i2l, 1) := by decide +kernel
theorem dX12_tick_24 : decode cX12_tick 24 = .ok (.lconst 0, 1) := by decide +kernel
theorem dX12_tick_25 : decode cX12_tick 25 = .ok (.lconst 1, 1) := by decide +kernel
theorem dX12_tick_26 : decode cX12_tick 26 = .ok (.invokestatic 140, 3) := by decide +kernel
theorem dX12_tick_29 : decode cX12_tick 29 = .ok (.ifCond .eq 16, 3) := by decide +kernel
theorem dX12_tick_32 : decode cX12_tick 32 = .ok (.aload_n 0, 1) := by decide +kernel
theorem dX12_tick_33 : decode cX12_tick 33 = .ok (.getfield 65, 3) := by decide +kernel
theorem dX12_tick_36 : decode cX12_tick 36 = .ok (.iconst 2, 1) := by decide +kernel
theorem dX12_tick_37 : decode cX12_tick 37 = .ok (.iload_n 1, 1) := by decide +kernel
theorem dX12_tick_38 : decode cX12_tick 38 = .ok (.imul, 1) := by decide +kernel
theorem dX12_tick_39 : decode cX12_tick 39 = .ok (.iload_n 2, 1) := by decide +kernel
theorem dX12_tick_40 : decode cX12_tick 40 = .ok (.iadd, 1) := by decide +kernel
theorem dX12_tick_41 : decode cX12_tick 41 = .ok (.iaload, 1) := by decide +kernel
theorem dX12_tick_42 : decode cX12_tick 42 = .ok (.goto 4, 3) := by decide +kernel
theorem dX12_tick_45 : decode cX12_tick 45 = .ok (.iconst (-1), 1) := by decide +kernel
theorem dX12_tick_46 : decode cX12_tick 46 = .ok (.ireturn, 1) := by decide +kernel
def f_Md_tick (a0 : Int32) (a1 : Int32) (I : Nat → Nat → Int32) (L : Nat → Nat → Int64) : Option Int32 := (bnd (f_Md_within (Int32.toInt64 a0) (0 : Int64) (Int32.toInt64 ((jmin (I 34 25) (3000 : Int32)) - (1 : Int32)))) fun x1 => (if x1 = (0 : Int32) then (some (-1 : Int32)) else (bnd (f_Md_within (Int32.toInt64 a1) (0 : Int64) (1 : Int64)) fun x3 => (if x3 = (0 : Int32) then (some (-1 : Int32)) else (if (0 ≤ (((2 : Int32) * a0) + a1) ∧ (((2 : Int32) * a0) + a1) < (6000 : Int32)) then (some (I 53 ((((2 : Int32) * a0) + a1).toNatClampNeg))) else none)))))
set_option maxRecDepth 100000 in
set_option maxHeartbeats 4000000 in
theorem c_Md_tick {G : xG} {S : List xSh} {Rf : Nat → Nat → Option Nat} (hT : xTM S Rf) {a0 : Int32} {a1 : Int32} {I : Nat → Nat → Int32} {L : Nat → Nat → Int64} {q : Int32} (hf : f_Md_tick a0 a1 I L = some q) : CT G 2 m_Md_tick [.ref (xP G 34), .int a0, .int a1] (S, I, L, Rf) (some (.int q), (S, I, L, Rf)) := by
  refine CT.of (by decide +kernel) (Nat.le_of_ble_eq_true rfl) ?_
  show X G 2 m_Md_tick 0 [(0, .ref (xP G 34)), (1, .int a0), (2, .int a1)] [] (S, I, L, Rf) (some (.int q), (S, I, L, Rf))
  replace hf := (f_Md_tick.eq_1 _ _ _ _).symm.trans hf
  refine X_iload_n (pc := 0) (i := 1) 1 dX12_tick_0 rfl rfl ?_
  refine X_i2l (pc := 1) dX12_tick_1 ?_
  refine X_lconst (pc := 2) (0 : Int64) dX12_tick_2 (by decide) ?_
  refine X_aload_n (pc := 3) (i := 0) 0 dX12_tick_3 rfl rfl ?_
  refine X_get (pc := 4) (a := 34) (ci := 11) (j := 25) (.int (I 34 25)) (sh_34 hT) (by decide) k_1253 rfl dX12_tick_4 ?_
  refine X_sipush (pc := 7) (3000 : Int32) dX12_tick_7 (by decide) ?_
  refine X_jmin (pc := 10) k_1595 (by decide) (Nat.le_of_ble_eq_true rfl) dX12_tick_10 ?_
  refine X_iconst (pc := 13) (1 : Int32) dX12_tick_13 (by decide) ?_
  refine X_isub (pc := 14) dX12_tick_14 ?_
  refine X_i2l (pc := 15) dX12_tick_15 ?_
  refine X_invS_i (pc := 16) (c_Md_within hT rfl) ok_Md_within k_1482 k_1483 nd_33 (by decide) rfl (Nat.le_of_ble_eq_true rfl) dX12_tick_16 ?_
  obtain ⟨x1, ex1, hf⟩ := bnd_e hf
  refine X_tope ex1 ?_
  by_cases c2 : x1 = (0 : Int32)
  · replace hf := (if_pos c2).symm.trans hf
    refine X_if_eq_t (pc := 19) 45 dX12_tick_19 (by decide) c2 ?_
    refine X_iconst (pc := 45) (-1 : Int32) dX12_tick_45 (by decide) ?_
    cases hf
    exact X_ireturn (pc := 46) rfl dX12_tick_46
  · replace hf := (if_neg c2).symm.trans hf
    refine X_if_eq_f (pc := 19) 45 dX12_tick_19 (by decide) c2 ?_
    refine X_iload_n (pc := 22) (i := 2) 2 dX12_tick_22 rfl rfl ?_
    refine X_i2l (pc := 23) dX12_tick_23 ?_
    refine X_lconst (pc := 24) (0 : Int64) dX12_tick_24 (by decide) ?_
    refine X_lconst (pc := 25) (1 : Int64) dX12_tick_25 (by decide) ?_
    refine X_invS_i (pc := 26) (c_Md_within hT rfl) ok_Md_within k_1482 k_1483 nd_33 (by decide) rfl (Nat.le_of_ble_eq_true rfl) dX12_tick_26 ?_
    obtain ⟨x3, ex3, hf⟩ := bnd_e hf
    refine X_tope ex3 ?_
    by_cases c4 : x3 = (0 : Int32)
    · replace hf := (if_pos c4).symm.trans hf
      refine X_if_eq_t (pc := 29) 45 dX12_tick_29 (by decide) c4 ?_
      refine X_iconst (pc := 45) (-1 : Int32) dX12_tick_45 (by decide) ?_
      cases hf
      exact X_ireturn (pc := 46) rfl dX12_tick_46
    · replace hf := (if_neg c4).symm.trans hf
      refine X_if_eq_f (pc := 29) 45 dX12_tick_29 (by decide) c4 ?_
      refine X_aload_n (pc := 32) (i := 0) 0 dX12_tick_32 rfl rfl ?_
      refine X_getr (pc := 33) (a := 34) (ci := 11) (j := 38) (c := 53) (sh_34 hT) (by decide) k_1266 (rf_34_38 hT) (fun _ h => h) dX12_tick_33 ?_
      refine X_iconst (pc := 36) (2 : Int32) dX12_tick_36 (by decide) ?_
      refine X_iload_n (pc := 37) (i := 1) 1 dX12_tick_37 rfl rfl ?_
      refine X_imul (pc := 38) dX12_tick_38 ?_
      refine X_iload_n (pc := 39) (i := 2) 2 dX12_tick_39 rfl rfl ?_
      refine X_iadd (pc := 40) dX12_tick_40 ?_
      obtain ⟨c5, hf⟩ := gd_some hf
      refine X_ialdj (pc := 41) (j := (((2 : Int32) * a0) + a1).toNatClampNeg) (I 53 ((((2 : Int32) * a0) + a1).toNatClampNeg)) (sh_53 hT) (vp_in_lit (N := 6000) c5 (by decide)) rfl rfl dX12_tick_41 ?_
      refine X_goto (pc := 42) 46 dX12_tick_42 (by decide) ?_
      cases hf
      exact X_ireturn (pc := 46) rfl dX12_tick_46
theorem dX12_shows_0 : decode cX12_shows 0 = .ok (.aload_n 0, 1) := by decide +kernel
theorem dX12_shows_1 : decode cX12_shows 1 = .ok (.iload_n 1, 1) := by decide +kernel
theorem dX12_shows_2 : decode cX12_shows 2 = .ok (.invokevirtual 395, 3) := by decide +kernel
theorem dX12_shows_5 : decode cX12_shows 5 = .ok (.ifCond .ne 5, 3) := by decide +kernel
theorem dX12_shows_8 : decode cX12_shows 8 = .ok (.iconst (-1), 1) := by decide +kernel
theorem dX12_shows_9 : decode cX12_shows 9 = .ok (.ireturn, 1) := by decide +kernel
theorem dX12_shows_10 : decode cX12_shows 10 = .ok (.bipush 10, 2) := by decide +kernel
theorem dX12_shows_12 : decode cX12_shows 12 = .ok (.iload_n 1, 1) := by decide +kernel
theorem dX12_shows_13 : decode cX12_shows 13 = .ok (.imul, 1) := by decide +kernel
theorem dX12_shows_14 : decode cX12_shows 14 = .ok (.istore_n 3, 1) := by decide +kernel
theorem dX12_shows_15 : decode cX12_shows 15 = .ok (.aload_n 0, 1) := by decide +kernel
theorem dX12_shows_16 : decode cX12_shows 16 = .ok (.getfield 31, 3) := by decide +kernel
theorem dX12_shows_19 : decode cX12_shows 19 = .ok (.iload_n 1, 1) := by decide +kernel
theorem dX12_shows_20 : decode cX12_shows 20 = .ok (.iaload, 1) := by decide +kernel
theorem dX12_shows_21 : decode cX12_shows 21 = .ok (.istore 4, 2) := by decide +kernel
theorem dX12_shows_23 : decode cX12_shows 23 = .ok (.iload_n 2, 1) := by decide +kernel
theorem dX12_shows_24 : decode cX12_shows 24 = .ok (.bipush 9, 2) := by decide +kernel
theorem dX12_shows_26 : decode cX12_shows 26 = .ok (.if_icmp .ne 13, 3) := by decide +kernel
theorem dX12_shows_29 : decode cX12_shows 29 = .ok (.aload_n 0, 1) := by decide +kernel
theorem dX12_shows_30 : decode cX12_shows 30 = .ok (.getfield 49, 3) := by decide +kernel
theorem dX12_shows_33 : decode cX12_shows 33 = .ok (.iload_n 3, 1) := by decide +kernel
theorem dX12_shows_34 : decode cX12_shows 34 = .ok (.bipush 6, 2) := by decide +kernel
theorem dX12_shows_36 : decode cX12_shows 36 = .ok (.iadd, 1) := by decide +kernel
theorem dX12_shows_37 : decode cX12_shows 37 = .ok (.iaload, 1) := by decide +kernel
theorem dX12_shows_38 : decode cX12_shows 38 = .ok (.ireturn, 1) := by decide +kernel
theorem dX12_shows_39 : decode cX12_shows 39 = .ok (.iload 4, 2) := by decide +kernel
theorem dX12_shows_41 : decode cX12_shows 41 = .ok (.ifCond .ne 18, 3) := by decide +kernel
theorem dX12_shows_44 : decode cX12_shows 44 = .ok (.iload_n 2, 1) := by decide +kernel
theorem dX12_shows_45 : decode cX12_shows 45 = .ok (.ifCond .ne 12, 3) := by decide +kernel
theorem dX12_shows_48 : decode cX12_shows 48 = .ok (.aload_n 0, 1) := by decide +kernel
theorem dX12_shows_49 : decode cX12_shows 49 = .ok (.getfield 49, 3) := by decide +kernel
theorem dX12_shows_52 : decode cX12_shows 52 = .ok (.iload_n 3, 1) := by decide +kernel
theorem dX12_shows_53 : decode cX12_shows 53 = .ok (.iaload, 1) := by decide +kernel
theorem dX12_shows_54 : decode cX12_shows 54 = .ok (.goto 4, 3) := by decide +kernel
theorem dX12_shows_57 : decode cX12_shows 57 = .ok (.iconst (-1), 1) := by decide +kernel
theorem dX12_shows_58 : decode cX12_shows 58 = .ok (.ireturn, 1) := by decide +kernel
theorem dX12_shows_59 : decode cX12_shows 59 = .ok (.iload 4, 2) := by decide +kernel
theorem dX12_shows_61 : decode cX12_shows 61 = .ok (.iconst 2, 1) := by decide +kernel
theorem dX12_shows_62 : decode cX12_shows 62 = .ok (.if_icmp .ne 28, 3) := by decide +kernel
theorem dX12_shows_65 : decode cX12_shows 65 = .ok (.iload_n 2, 1) := by decide +kernel
theorem dX12_shows_66 : decode cX12_shows 66 = .ok (.i2l, 1) := by decide +kernel
theorem dX12_shows_67 : decode cX12_shows 67 = .ok (.lconst 0, 1) := by decide +kernel
theorem dX12_shows_68 : decode cX12_shows 68 = .ok (.ldc2_w 253, 3) := by decide +kernel
theorem dX12_shows_71 : decode cX12_shows 71 = .ok (.invokestatic 140, 3) := by decide +kernel
theorem dX12_shows_74 : decode cX12_shows 74 = .ok (.ifCond .eq 14, 3) := by decide +kernel
theorem dX12_shows_77 : decode cX12_shows 77 = .ok (.aload_n 0, 1) := by decide +kernel
theorem dX12_shows_78 : decode cX12_shows 78 = .ok (.getfield 49, 3) := by decide +kernel
theorem dX12_shows_81 : decode cX12_shows 81 = .ok (.iload_n 3, 1) := by decide +kernel
theorem dX12_shows_82 : decode cX12_shows 82 = .ok (.iload_n 2, 1) := by decide +kernel
theorem dX12_shows_83 : decode cX12_shows 83 = .ok (.iadd, 1) := by decide +kernel
theorem dX12_shows_84 : decode cX12_shows 84 = .ok (.iaload, 1) := by decide +kernel
theorem dX12_shows_85 : decode cX12_shows 85 = .ok (.goto 4, 3) := by decide +kernel
theorem dX12_shows_88 : decode cX12_shows 88 = .ok (.iconst (-1), 1) := by decide +kernel
theorem dX12_shows_89 : decode cX12_shows 89 = .ok (.ireturn, 1) := by decide +kernel
theorem dX12_shows_90 : decode cX12_shows 90 = .ok (.iload_n 2, 1) := by decide +kernel
theorem dX12_shows_91 : decode cX12_shows 91 = .ok (.i2l, 1) := by decide +kernel
theorem dX12_shows_92 : decode cX12_shows 92 = .ok (.lconst 0, 1) := by decide +kernel
theorem dX12_shows_93 : decode cX12_shows 93 = .ok (.ldc2_w 259, 3) := by decide +kernel
theorem dX12_shows_96 : decode cX12_shows 96 = .ok (.invokestatic 140, 3) := by decide +kernel
theorem dX12_shows_99 : decode cX12_shows 99 = .ok (.ifCond .eq 12, 3) := by decide +kernel
theorem dX12_shows_102 : decode cX12_shows 102 = .ok (.aload_n 0, 1) := by decide +kernel
theorem dX12_shows_103 : decode cX12_shows 103 = .ok (.getfield 49, 3) := by decide +kernel
theorem dX12_shows_106 : decode cX12_shows 106 = .ok (.iload_n 3, 1) := by decide +kernel
theorem dX12_shows_107 : decode cX12_shows 107 = .ok (.iload_n 2, 1) := by decide +kernel
theorem dX12_shows_108 : decode cX12_shows 108 = .ok (.iadd, 1) := by decide +kernel
theorem dX12_shows_109 : decode cX12_shows 109 = .ok (.iaload, 1) := by decide +kernel
theorem dX12_shows_110 : decode cX12_shows 110 = .ok (.ireturn, 1) := by decide +kernel
theorem dX12_shows_111 : decode cX12_shows 111 = .ok (.aload_n 0, 1) := by decide +kernel
theorem dX12_shows_112 : decode cX12_shows 112 = .ok (.aload_n 0, 1) := by decide +kernel
theorem dX12_shows_113 : decode cX12_shows 113 = .ok (.getfield 49, 3) := by decide +kernel
theorem dX12_shows_116 : decode cX12_shows 116 = .ok (.iload_n 3, 1) := by decide +kernel
theorem dX12_shows_117 : decode cX12_shows 117 = .ok (.iconst 4, 1) := by decide +kernel
theorem dX12_shows_118 : decode cX12_shows 118 = .ok (.iadd, 1) := by decide +kernel
theorem dX12_shows_119 : decode cX12_shows 119 = .ok (.iaload, 1) := by decide +kernel
theorem dX12_shows_120 : decode cX12_shows 120 = .ok (.invokevirtual 217, 3) := by decide +kernel
theorem dX12_shows_123 : decode cX12_shows 123 = .ok (.aload_n 0, 1) := by decide +kernel
theorem dX12_shows_124 : decode cX12_shows 124 = .ok (.invokevirtual 273, 3) := by decide +kernel
theorem dX12_shows_127 : decode cX12_shows 127 = .ok (.iload_n 2, 1) := by decide +kernel
theorem dX12_shows_128 : decode cX12_shows 128 = .ok (.iconst 4, 1) := by decide +kernel
theorem dX12_shows_129 : decode cX12_shows 129 = .ok (.if_icmp .ne 10, 3) := by decide +kernel
theorem dX12_shows_132 : decode cX12_shows 132 = .ok (.aload_n 0, 1) := by decide +kernel
theorem dX12_shows_133 : decode cX12_shows 133 = .ok (.getfield 220, 3) := by decide +kernel
theorem dX12_shows_136 : decode cX12_shows 136 = .ok (.goto 68, 3) := by decide +kernel
theorem dX12_shows_139 : decode cX12_shows 139 = .ok (.iload_n 2, 1) := by decide +kernel
theorem dX12_shows_140 : decode cX12_shows 140 = .ok (.iconst 5, 1) := by decide +kernel
theorem dX12_shows_141 : decode cX12_shows 141 = .ok (.if_icmp .ne 10, 3) := by decide +kernel
theorem dX12_shows_144 : decode cX12_shows 144 = .ok (.aload_n 0, 1) := by decide +kernel
theorem dX12_shows_145 : decode cX12_shows 145 = .ok (.getfield 223, 3) := by decide +kernel
theorem dX12_shows_148 : decode cX12_shows 148 = .ok (.goto 56, 3) := by decide +kernel
theorem dX12_shows_151 : decode cX12_shows 151 = .ok (.iload_n 2, 1) := by decide +kernel
theorem dX12_shows_152 : decode cX12_shows 152 = .ok (.bipush 6, 2) := by decide +kernel
theorem dX12_shows_154 : decode cX12_shows 154 = .ok (.if_icmp .ne 10, 3) := by decide +kernel
theorem dX12_shows_157 : decode cX12_shows 157 = .ok (.aload_n 0, 1) := by decide +kernel
theorem dX12_shows_158 : decode cX12_shows 158 = .ok (.getfield 226, 3) := by decide +kernel
theorem dX12_shows_161 : decode cX12_shows 161 = .ok (.goto 43, 3) := by decide +kernel
theorem dX12_shows_164 : decode cX12_shows 164 = .ok (.iload_n 2, 1) := by decide +kernel
theorem dX12_shows_165 : decode cX12_shows 165 = .ok (.bipush 7, 2) := by decide +kernel
theorem dX12_shows_167 : decode cX12_shows 167 = .ok (.if_icmp .ne 14, 3) := by decide +kernel
theorem dX12_shows_170 : decode cX12_shows 170 = .ok (.aload_n 0, 1) := by decide +kernel
theorem dX12_shows_171 : decode cX12_shows 171 = .ok (.getfield 49, 3) := by decide +kernel
theorem dX12_shows_174 : decode cX12_shows 174 = .ok (.iload_n 3, 1) := by decide +kernel
theorem dX12_shows_175 : decode cX12_shows 175 = .ok (.iconst 5, 1) := by decide +kernel
theorem dX12_shows_176 : decode cX12_shows 176 = .ok (.iadd, 1) := by decide +kernel
theorem dX12_shows_177 : decode cX12_shows 177 = .ok (.iaload, 1) := by decide +kernel
theorem dX12_shows_178 : decode cX12_shows 178 = .ok (.goto 26, 3) := by decide +kernel
theorem dX12_shows_181 : decode cX12_shows 181 = .ok (.iload_n 2, 1) := by decide +kernel
theorem dX12_shows_182 : decode cX12_shows 182 = .ok (.bipush 8, 2) := by decide +kernel
theorem dX12_shows_184 : decode cX12_shows 184 = .ok (.if_icmp .ne 19, 3) := by decide +kernel
theorem dX12_shows_187 : decode cX12_shows 187 = .ok (.aload_n 0, 1) := by decide +kernel
theorem dX12_shows_188 : decode cX12_shows 188 = .ok (.iload_n 1, 1) := by decide +kernel
theorem dX12_shows_189 : decode cX12_shows 189 = .ok (.invokevirtual 402, 3) := by decide +kernel
theorem dX12_shows_192 : decode cX12_shows 192 = .ok (.ifCond .eq 7, 3) := by decide +kernel
theorem dX12_shows_195 : decode cX12_shows 195 = .ok (.iconst 1, 1) := by decide +kernel
theorem dX12_shows_196 : decode cX12_shows 196 = .ok (.goto 8, 3) := by decide +kernel
theorem dX12_shows_199 : decode cX12_shows 199 = .ok (.iconst 0, 1) := by decide +kernel
theorem dX12_shows_200 : decode cX12_shows 200 = .ok (.goto 4, 3) := by decide +kernel
theorem dX12_shows_203 : decode cX12_shows 203 = .ok (.iconst (-1), 1) := by decide +kernel
theorem dX12_shows_204 : decode cX12_shows 204 = .ok (.ireturn, 1) := by decide +kernel
def f_Md_shows (a0 : Int32) (a1 : Int32) (I : Nat → Nat → Int32) (L : Nat → Nat → Int64) : Option (Int32 × (Nat → Nat → Int32) × (Nat → Nat → Int64)) := ((f_Md_isWork a0 I L).bind fun q1 => (if q1 = (0 : Int32) then (some ((-1 : Int32), I, L)) else (bnd ((10 : Int32) * a0) fun x4 => (if (0 ≤ a0 ∧ a0 < (8 : Int32)) then (bnd (I 42 (a0.toNatClampNeg)) fun x6 => (if a1 = (9 : Int32) then (if (0 ≤ (x4 + (6 : Int32)) ∧ (x4 + (6 : Int32)) < (80 : Int32)) then (some ((I 48 ((x4 + (6 : Int32)).toNatClampNeg)), I, L)) else none) else (if x6 = (0 : Int32) then (if a1 = (0 : Int32) then (if (0 ≤ x4 ∧ x4 < (80 : Int32)) then (some ((I 48 (x4.toNatClampNeg)), I, L)) else none) else (some ((-1 : Int32), I, L))) else (if x6 = (2 : Int32) then (bnd (f_Md_within (Int32.toInt64 a1) (0 : Int64) (2 : Int64)) fun x13 => (if x13 = (0 : Int32) then (some ((-1 : Int32), I, L)) else (if (0 ≤ (x4 + a1) ∧ (x4 + a1) < (80 : Int32)) then (some ((I 48 ((x4 + a1).toNatClampNeg)), I, L)) else none))) else (bnd (f_Md_within (Int32.toInt64 a1) (0 : Int64) (3 : Int64)) fun x16 => (if x16 = (0 : Int32) then (if (0 ≤ (x4 + (4 : Int32)) ∧ (x4 + (4 : Int32)) < (80 : Int32)) then ((f_Md_splitDay (I 48 ((x4 + (4 : Int32)).toNatClampNeg)) I L).bind fun q19 => ((f_Md_speeds q19.1 q19.2).bind fun q21 => (if a1 = (4 : Int32) then (some ((q21.1 34 45), q21.1, q21.2)) else (if a1 = (5 : Int32) then (some ((q21.1 34 46), q21.1, q21.2)) else (if a1 = (6 : Int32) then (some ((q21.1 34 47), q21.1, q21.2)) else (if a1 = (7 : Int32) then (if (0 ≤ (x4 + (5 : Int32)) ∧ (x4 + (5 : Int32)) < (80 : Int32)) then (some ((q21.1 48 ((x4 + (5 : Int32)).toNatClampNeg)), q21.1, q21.2)) else none) else (if a1 = (8 : Int32) then ((f_Md_isBarred a0 q21.1 q21.2).bind fun q29 => (if q29 = (0 : Int32) then (some ((0 : Int32), q21.1, q21.2)) else (some ((1 : Int32), q21.1, q21.2)))) else (some ((-1 : Int32), q21.1, q21.2))))))))) else none) else (if (0 ≤ (x4 + a1) ∧ (x4 + a1) < (80 : Int32)) then (some ((I 48 ((x4 + a1).toNatClampNeg)), I, L)) else none))))))) else none))))
set_option maxRecDepth 100000 in
set_option maxHeartbeats 4000000 in
theorem c_Md_shows {G : xG} {S : List xSh} {Rf : Nat → Nat → Option Nat} (hT : xTM S Rf) {a0 : Int32} {a1 : Int32} {I : Nat → Nat → Int32} {L : Nat → Nat → Int64} {q : (Int32 × (Nat → Nat → Int32) × (Nat → Nat → Int64))} (hf : f_Md_shows a0 a1 I L = some q) : CT G 5 m_Md_shows [.ref (xP G 34), .int a0, .int a1] (S, I, L, Rf) (some (.int q.1), (S, q.2.1, q.2.2, Rf)) := by
  refine CT.of (by decide +kernel) (Nat.le_of_ble_eq_true rfl) ?_
  show X G 5 m_Md_shows 0 [(0, .ref (xP G 34)), (1, .int a0), (2, .int a1)] [] (S, I, L, Rf) (some (.int q.1), (S, q.2.1, q.2.2, Rf))
  replace hf := (f_Md_shows.eq_1 _ _ _ _).symm.trans hf
  refine X_aload_n (pc := 0) (i := 0) 0 dX12_shows_0 rfl rfl ?_
  refine X_iload_n (pc := 1) (i := 1) 1 dX12_shows_1 rfl rfl ?_
  obtain ⟨q1, c2, hf⟩ := bd_some hf
  refine X_invV_i (pc := 2) (c_Md_isWork hT c2) ok_Md_isWork (ci := 11) (sh_34 hT) k_1660 k_1662 k_64 nd_5 (by decide) rfl (Nat.le_of_ble_eq_true rfl) dX12_shows_2 ?_
  by_cases c3 : q1 = (0 : Int32)
  · replace hf := (if_pos c3).symm.trans hf
    refine X_if_ne_f (pc := 5) 10 dX12_shows_5 (by decide) c3 ?_
    refine X_iconst (pc := 8) (-1 : Int32) dX12_shows_8 (by decide) ?_
    cases hf
    exact X_ireturn (pc := 9) rfl dX12_shows_9
  · replace hf := (if_neg c3).symm.trans hf
    refine X_if_ne_t (pc := 5) 10 dX12_shows_5 (by decide) c3 ?_
    refine X_bipush (pc := 10) (10 : Int32) dX12_shows_10 (by decide) ?_
    refine X_iload_n (pc := 12) (i := 1) 1 dX12_shows_12 rfl rfl ?_
    refine X_imul (pc := 13) dX12_shows_13 ?_
    obtain ⟨x4, ex4, hf⟩ := bnd_e hf
    refine X_tope ex4 ?_
    refine X_istore_n (pc := 14) (i := 3) [(3, .int x4), (0, .ref (xP G 34)), (1, .int a0), (2, .int a1)] dX12_shows_14 rfl (by decide) rfl ?_
    refine X_aload_n (pc := 15) (i := 0) 1 dX12_shows_15 rfl rfl ?_
    refine X_getr (pc := 16) (a := 34) (ci := 11) (j := 17) (c := 42) (sh_34 hT) (by decide) k_1245 (rf_34_17 hT) (fun _ h => h) dX12_shows_16 ?_
    refine X_iload_n (pc := 19) (i := 1) 2 dX12_shows_19 rfl rfl ?_
    obtain ⟨c5, hf⟩ := gd_some hf
    refine X_ialdj (pc := 20) (j := a0.toNatClampNeg) (I 42 (a0.toNatClampNeg)) (sh_42 hT) (vp_in_lit (N := 8) c5 (by decide)) rfl rfl dX12_shows_20 ?_
    obtain ⟨x6, ex6, hf⟩ := bnd_e hf
    refine X_tope ex6 ?_
    refine X_istore (pc := 21) [(4, .int x6), (3, .int x4), (0, .ref (xP G 34)), (1, .int a0), (2, .int a1)] dX12_shows_21 (by decide) rfl ?_
    refine X_iload_n (pc := 23) (i := 2) 4 dX12_shows_23 rfl rfl ?_
    refine X_bipush (pc := 24) (9 : Int32) dX12_shows_24 (by decide) ?_
    by_cases c7 : a1 = (9 : Int32)
    · replace hf := (if_pos c7).symm.trans hf
      refine X_icmp_ne_f (pc := 26) 39 dX12_shows_26 (by decide) c7 ?_
      refine X_aload_n (pc := 29) (i := 0) 2 dX12_shows_29 rfl rfl ?_
      refine X_getr (pc := 30) (a := 34) (ci := 11) (j := 33) (c := 48) (sh_34 hT) (by decide) k_1261 (rf_34_33 hT) (fun _ h => h) dX12_shows_30 ?_
      refine X_iload_n (pc := 33) (i := 3) 1 dX12_shows_33 rfl rfl ?_
      refine X_bipush (pc := 34) (6 : Int32) dX12_shows_34 (by decide) ?_
      refine X_iadd (pc := 36) dX12_shows_36 ?_
      obtain ⟨c8, hf⟩ := gd_some hf
      refine X_ialdj (pc := 37) (j := (x4 + (6 : Int32)).toNatClampNeg) (I 48 ((x4 + (6 : Int32)).toNatClampNeg)) (sh_48 hT) (vp_in_lit (N := 80) c8 (by decide)) rfl rfl dX12_shows_37 ?_
      cases hf
      exact X_ireturn (pc := 38) rfl dX12_shows_38
    · replace hf := (if_neg c7).symm.trans hf
      refine X_icmp_ne_t (pc := 26) 39 dX12_shows_26 (by decide) c7 ?_
      refine X_iload (pc := 39) 0 dX12_shows_39 rfl ?_
      by_cases c9 : x6 = (0 : Int32)
      · replace hf := (if_pos c9).symm.trans hf
        refine X_if_ne_f (pc := 41) 59 dX12_shows_41 (by decide) c9 ?_
        refine X_iload_n (pc := 44) (i := 2) 4 dX12_shows_44 rfl rfl ?_
        by_cases c10 : a1 = (0 : Int32)
        · replace hf := (if_pos c10).symm.trans hf
          refine X_if_ne_f (pc := 45) 57 dX12_shows_45 (by decide) c10 ?_
          refine X_aload_n (pc := 48) (i := 0) 2 dX12_shows_48 rfl rfl ?_
          refine X_getr (pc := 49) (a := 34) (ci := 11) (j := 33) (c := 48) (sh_34 hT) (by decide) k_1261 (rf_34_33 hT) (fun _ h => h) dX12_shows_49 ?_
          refine X_iload_n (pc := 52) (i := 3) 1 dX12_shows_52 rfl rfl ?_
          obtain ⟨c11, hf⟩ := gd_some hf
          refine X_ialdj (pc := 53) (j := x4.toNatClampNeg) (I 48 (x4.toNatClampNeg)) (sh_48 hT) (vp_in_lit (N := 80) c11 (by decide)) rfl rfl dX12_shows_53 ?_
          refine X_goto (pc := 54) 58 dX12_shows_54 (by decide) ?_
          cases hf
          exact X_ireturn (pc := 58) rfl dX12_shows_58
        · replace hf := (if_neg c10).symm.trans hf
          refine X_if_ne_t (pc := 45) 57 dX12_shows_45 (by decide) c10 ?_
          refine X_iconst (pc := 57) (-1 : Int32) dX12_shows_57 (by decide) ?_
          cases hf
          exact X_ireturn (pc := 58) rfl dX12_shows_58
      · replace hf := (if_neg c9).symm.trans hf
        refine X_if_ne_t (pc := 41) 59 dX12_shows_41 (by decide) c9 ?_
        refine X_iload (pc := 59) 0 dX12_shows_59 rfl ?_
        refine X_iconst (pc := 61) (2 : Int32) dX12_shows_61 (by decide) ?_
        by_cases c12 : x6 = (2 : Int32)
        · replace hf := (if_pos c12).symm.trans hf
          refine X_icmp_ne_f (pc := 62) 90 dX12_shows_62 (by decide) c12 ?_
          refine X_iload_n (pc := 65) (i := 2) 4 dX12_shows_65 rfl rfl ?_
          refine X_i2l (pc := 66) dX12_shows_66 ?_
          refine X_lconst (pc := 67) (0 : Int64) dX12_shows_67 (by decide) ?_
          refine X_ldc2 (pc := 68) (2 : Int64) k_1521 dX12_shows_68 ?_
          refine X_invS_i (pc := 71) (c_Md_within hT rfl) ok_Md_within k_1482 k_1483 nd_33 (by decide) rfl (Nat.le_of_ble_eq_true rfl) dX12_shows_71 ?_
          obtain ⟨x13, ex13, hf⟩ := bnd_e hf
          refine X_tope ex13 ?_
          by_cases c14 : x13 = (0 : Int32)
          · replace hf := (if_pos c14).symm.trans hf
            refine X_if_eq_t (pc := 74) 88 dX12_shows_74 (by decide) c14 ?_
            refine X_iconst (pc := 88) (-1 : Int32) dX12_shows_88 (by decide) ?_
            cases hf
            exact X_ireturn (pc := 89) rfl dX12_shows_89
          · replace hf := (if_neg c14).symm.trans hf
            refine X_if_eq_f (pc := 74) 88 dX12_shows_74 (by decide) c14 ?_
            refine X_aload_n (pc := 77) (i := 0) 2 dX12_shows_77 rfl rfl ?_
            refine X_getr (pc := 78) (a := 34) (ci := 11) (j := 33) (c := 48) (sh_34 hT) (by decide) k_1261 (rf_34_33 hT) (fun _ h => h) dX12_shows_78 ?_
            refine X_iload_n (pc := 81) (i := 3) 1 dX12_shows_81 rfl rfl ?_
            refine X_iload_n (pc := 82) (i := 2) 4 dX12_shows_82 rfl rfl ?_
            refine X_iadd (pc := 83) dX12_shows_83 ?_
            obtain ⟨c15, hf⟩ := gd_some hf
            refine X_ialdj (pc := 84) (j := (x4 + a1).toNatClampNeg) (I 48 ((x4 + a1).toNatClampNeg)) (sh_48 hT) (vp_in_lit (N := 80) c15 (by decide)) rfl rfl dX12_shows_84 ?_
            refine X_goto (pc := 85) 89 dX12_shows_85 (by decide) ?_
            cases hf
            exact X_ireturn (pc := 89) rfl dX12_shows_89
        · replace hf := (if_neg c12).symm.trans hf
          refine X_icmp_ne_t (pc := 62) 90 dX12_shows_62 (by decide) c12 ?_
          refine X_iload_n (pc := 90) (i := 2) 4 dX12_shows_90 rfl rfl ?_
          refine X_i2l (pc := 91) dX12_shows_91 ?_
          refine X_lconst (pc := 92) (0 : Int64) dX12_shows_92 (by decide) ?_
          refine X_ldc2 (pc := 93) (3 : Int64) k_1530 dX12_shows_93 ?_
          refine X_invS_i (pc := 96) (c_Md_within hT rfl) ok_Md_within k_1482 k_1483 nd_33 (by decide) rfl (Nat.le_of_ble_eq_true rfl) dX12_shows_96 ?_
          obtain ⟨x16, ex16, hf⟩ := bnd_e hf
          refine X_tope ex16 ?_
          by_cases c17 : x16 = (0 : Int32)
          · replace hf := (if_pos c17).symm.trans hf
            refine X_if_eq_t (pc := 99) 111 dX12_shows_99 (by decide) c17 ?_
            refine X_aload_n (pc := 111) (i := 0) 2 dX12_shows_111 rfl rfl ?_
            refine X_aload_n (pc := 112) (i := 0) 2 dX12_shows_112 rfl rfl ?_
            refine X_getr (pc := 113) (a := 34) (ci := 11) (j := 33) (c := 48) (sh_34 hT) (by decide) k_1261 (rf_34_33 hT) (fun _ h => h) dX12_shows_113 ?_
            refine X_iload_n (pc := 116) (i := 3) 1 dX12_shows_116 rfl rfl ?_
            refine X_iconst (pc := 117) (4 : Int32) dX12_shows_117 (by decide) ?_
            refine X_iadd (pc := 118) dX12_shows_118 ?_
            obtain ⟨c18, hf⟩ := gd_some hf
            refine X_ialdj (pc := 119) (j := (x4 + (4 : Int32)).toNatClampNeg) (I 48 ((x4 + (4 : Int32)).toNatClampNeg)) (sh_48 hT) (vp_in_lit (N := 80) c18 (by decide)) rfl rfl dX12_shows_119 ?_
            obtain ⟨q19, c20, hf⟩ := bd_some hf
            refine X_invV_v (pc := 120) (c_Md_splitDay hT c20) ok_Md_splitDay (ci := 11) (sh_34 hT) k_1215 k_1217 k_42 nd_13 (by decide) rfl (Nat.le_of_ble_eq_true rfl) dX12_shows_120 ?_
            refine X_aload_n (pc := 123) (i := 0) 2 dX12_shows_123 rfl rfl ?_
            obtain ⟨q21, c22, hf⟩ := bd_some hf
            refine X_invV_v (pc := 124) (c_Md_speeds hT c22) ok_Md_speeds (ci := 11) (sh_34 hT) k_1548 k_1550 k_46 nd_1 (by decide) rfl (Nat.le_of_ble_eq_true rfl) dX12_shows_124 ?_
            refine X_iload_n (pc := 127) (i := 2) 4 dX12_shows_127 rfl rfl ?_
            refine X_iconst (pc := 128) (4 : Int32) dX12_shows_128 (by decide) ?_
            by_cases c23 : a1 = (4 : Int32)
            · replace hf := (if_pos c23).symm.trans hf
              refine X_icmp_ne_f (pc := 129) 139 dX12_shows_129 (by decide) c23 ?_
              refine X_aload_n (pc := 132) (i := 0) 2 dX12_shows_132 rfl rfl ?_
              refine X_get (pc := 133) (a := 34) (ci := 11) (j := 45) (.int (q21.1 34 45)) (sh_34 hT) (by decide) k_1273 rfl dX12_shows_133 ?_
              refine X_goto (pc := 136) 204 dX12_shows_136 (by decide) ?_
              cases hf
              exact X_ireturn (pc := 204) rfl dX12_shows_204
            · replace hf := (if_neg c23).symm.trans hf
              refine X_icmp_ne_t (pc := 129) 139 dX12_shows_129 (by decide) c23 ?_
              refine X_iload_n (pc := 139) (i := 2) 4 dX12_shows_139 rfl rfl ?_
              refine X_iconst (pc := 140) (5 : Int32) dX12_shows_140 (by decide) ?_
              by_cases c24 : a1 = (5 : Int32)
              · replace hf := (if_pos c24).symm.trans hf
                refine X_icmp_ne_f (pc := 141) 151 dX12_shows_141 (by decide) c24 ?_
                refine X_aload_n (pc := 144) (i := 0) 2 dX12_shows_144 rfl rfl ?_
                refine X_get (pc := 145) (a := 34) (ci := 11) (j := 46) (.int (q21.1 34 46)) (sh_34 hT) (by decide) k_1274 rfl dX12_shows_145 ?_
                refine X_goto (pc := 148) 204 dX12_shows_148 (by decide) ?_
                cases hf
                exact X_ireturn (pc := 204) rfl dX12_shows_204
              · replace hf := (if_neg c24).symm.trans hf
                refine X_icmp_ne_t (pc := 141) 151 dX12_shows_141 (by decide) c24 ?_
                refine X_iload_n (pc := 151) (i := 2) 4 dX12_shows_151 rfl rfl ?_
                refine X_bipush (pc := 152) (6 : Int32) dX12_shows_152 (by decide) ?_
                by_cases c25 : a1 = (6 : Int32)
                · replace hf := (if_pos c25).symm.trans hf
                  refine X_icmp_ne_f (pc := 154) 164 dX12_shows_154 (by decide) c25 ?_
                  refine X_aload_n (pc := 157) (i := 0) 2 dX12_shows_157 rfl rfl ?_
                  refine X_get (pc := 158) (a := 34) (ci := 11) (j := 47) (.int (q21.1 34 47)) (sh_34 hT) (by decide) k_1275 rfl dX12_shows_158 ?_
                  refine X_goto (pc := 161) 204 dX12_shows_161 (by decide) ?_
                  cases hf
                  exact X_ireturn (pc := 204) rfl dX12_shows_204
                · replace hf := (if_neg c25).symm.trans hf
                  refine X_icmp_ne_t (pc := 154) 164 dX12_shows_154 (by decide) c25 ?_
                  refine X_iload_n (pc := 164) (i := 2) 4 dX12_shows_164 rfl rfl ?_
                  refine X_bipush (pc := 165) (7 : Int32) dX12_shows_165 (by decide) ?_
                  by_cases c26 : a1 = (7 : Int32)
                  · replace hf := (if_pos c26).symm.trans hf
                    refine X_icmp_ne_f (pc := 167) 181 dX12_shows_167 (by decide) c26 ?_
                    refine X_aload_n (pc := 170) (i := 0) 2 dX12_shows_170 rfl rfl ?_
                    refine X_getr (pc := 171) (a := 34) (ci := 11) (j := 33) (c := 48) (sh_34 hT) (by decide) k_1261 (rf_34_33 hT) (fun _ h => h) dX12_shows_171 ?_
                    refine X_iload_n (pc := 174) (i := 3) 1 dX12_shows_174 rfl rfl ?_
                    refine X_iconst (pc := 175) (5 : Int32) dX12_shows_175 (by decide) ?_
                    refine X_iadd (pc := 176) dX12_shows_176 ?_
                    obtain ⟨c27, hf⟩ := gd_some hf
                    refine X_ialdj (pc := 177) (j := (x4 + (5 : Int32)).toNatClampNeg) (q21.1 48 ((x4 + (5 : Int32)).toNatClampNeg)) (sh_48 hT) (vp_in_lit (N := 80) c27 (by decide)) rfl rfl dX12_shows_177 ?_
                    refine X_goto (pc := 178) 204 dX12_shows_178 (by decide) ?_
                    cases hf
                    exact X_ireturn (pc := 204) rfl dX12_shows_204
                  · replace hf := (if_neg c26).symm.trans hf
                    refine X_icmp_ne_t (pc := 167) 181 dX12_shows_167 (by decide) c26 ?_
                    refine X_iload_n (pc := 181) (i := 2) 4 dX12_shows_181 rfl rfl ?_
                    refine X_bipush (pc := 182) (8 : Int32) dX12_shows_182 (by decide) ?_
                    by_cases c28 : a1 = (8 : Int32)
                    · replace hf := (if_pos c28).symm.trans hf
                      refine X_icmp_ne_f (pc := 184) 203 dX12_shows_184 (by decide) c28 ?_
                      refine X_aload_n (pc := 187) (i := 0) 2 dX12_shows_187 rfl rfl ?_
                      refine X_iload_n (pc := 188) (i := 1) 3 dX12_shows_188 rfl rfl ?_
                      obtain ⟨q29, c30, hf⟩ := bd_some hf
                      refine X_invV_i (pc := 189) (c_Md_isBarred hT c30) ok_Md_isBarred (ci := 11) (sh_34 hT) k_1670 k_1672 k_66 nd_5 (by decide) rfl (Nat.le_of_ble_eq_true rfl) dX12_shows_189 ?_
                      by_cases c31 : q29 = (0 : Int32)
                      · replace hf := (if_pos c31).symm.trans hf
                        refine X_if_eq_t (pc := 192) 199 dX12_shows_192 (by decide) c31 ?_
                        refine X_iconst (pc := 199) (0 : Int32) dX12_shows_199 (by decide) ?_
                        refine X_goto (pc := 200) 204 dX12_shows_200 (by decide) ?_
                        cases hf
                        exact X_ireturn (pc := 204) rfl dX12_shows_204
                      · replace hf := (if_neg c31).symm.trans hf
                        refine X_if_eq_f (pc := 192) 199 dX12_shows_192 (by decide) c31 ?_
                        refine X_iconst (pc := 195) (1 : Int32) dX12_shows_195 (by decide) ?_
                        refine X_goto (pc := 196) 204 dX12_shows_196 (by decide) ?_
                        cases hf
                        exact X_ireturn (pc := 204) rfl dX12_shows_204
                    · replace hf := (if_neg c28).symm.trans hf
                      refine X_icmp_ne_t (pc := 184) 203 dX12_shows_184 (by decide) c28 ?_
                      refine X_iconst (pc := 203) (-1 : Int32) dX12_shows_203 (by decide) ?_
                      cases hf
                      exact X_ireturn (pc := 204) rfl dX12_shows_204
          · replace hf := (if_neg c17).symm.trans hf
            refine X_if_eq_f (pc := 99) 111 dX12_shows_99 (by decide) c17 ?_
            refine X_aload_n (pc := 102) (i := 0) 2 dX12_shows_102 rfl rfl ?_
            refine X_getr (pc := 103) (a := 34) (ci := 11) (j := 33) (c := 48) (sh_34 hT) (by decide) k_1261 (rf_34_33 hT) (fun _ h => h) dX12_shows_103 ?_
            refine X_iload_n (pc := 106) (i := 3) 1 dX12_shows_106 rfl rfl ?_
            refine X_iload_n (pc := 107) (i := 2) 4 dX12_shows_107 rfl rfl ?_
            refine X_iadd (pc := 108) dX12_shows_108 ?_
            obtain ⟨c32, hf⟩ := gd_some hf
            refine X_ialdj (pc := 109) (j := (x4 + a1).toNatClampNeg) (I 48 ((x4 + a1).toNatClampNeg)) (sh_48 hT) (vp_in_lit (N := 80) c32 (by decide)) rfl rfl dX12_shows_109 ?_
            cases hf
            exact X_ireturn (pc := 110) rfl dX12_shows_110
theorem u_Md_shows {S : List xSh} {a0 : Int32} {a1 : Int32} {I : Nat → Nat → Int32} {L : Nat → Nat → Int64} {q : (Int32 × (Nat → Nat → Int32) × (Nat → Nat → Int64))} (hf : f_Md_shows a0 a1 I L = some q) : FR S [57, 4445, 4446, 4447] [58, 59, 4451, 4452] I q.2.1 L q.2.2 := by
  replace hf := (f_Md_shows.eq_1 _ _ _ _).symm.trans hf
  obtain ⟨q1, c2, hf⟩ := bd_some hf
  by_cases c3 : q1 = (0 : Int32)
  · replace hf := (if_pos c3).symm.trans hf
    cases hf
    exact FR.rf
  · replace hf := (if_neg c3).symm.trans hf
    obtain ⟨x4, ex4, hf⟩ := bnd_e hf
    obtain ⟨c5, hf⟩ := gd_some hf
    obtain ⟨x6, ex6, hf⟩ := bnd_e hf
    by_cases c7 : a1 = (9 : Int32)
    · replace hf := (if_pos c7).symm.trans hf
      obtain ⟨c8, hf⟩ := gd_some hf
      cases hf
      exact FR.rf
    · replace hf := (if_neg c7).symm.trans hf
      by_cases c9 : x6 = (0 : Int32)
      · replace hf := (if_pos c9).symm.trans hf
        by_cases c10 : a1 = (0 : Int32)
        · replace hf := (if_pos c10).symm.trans hf
          obtain ⟨c11, hf⟩ := gd_some hf
          cases hf
          exact FR.rf
        · replace hf := (if_neg c10).symm.trans hf
          cases hf
          exact FR.rf
      · replace hf := (if_neg c9).symm.trans hf
        by_cases c12 : x6 = (2 : Int32)
        · replace hf := (if_pos c12).symm.trans hf
          obtain ⟨x13, ex13, hf⟩ := bnd_e hf
          by_cases c14 : x13 = (0 : Int32)
          · replace hf := (if_pos c14).symm.trans hf
            cases hf
            exact FR.rf
          · replace hf := (if_neg c14).symm.trans hf
            obtain ⟨c15, hf⟩ := gd_some hf
            cases hf
            exact FR.rf
        · replace hf := (if_neg c12).symm.trans hf
          obtain ⟨x16, ex16, hf⟩ := bnd_e hf
          by_cases c17 : x16 = (0 : Int32)
          · replace hf := (if_pos c17).symm.trans hf
            obtain ⟨c18, hf⟩ := gd_some hf
            obtain ⟨q19, c20, hf⟩ := bd_some hf
            obtain ⟨q21, c22, hf⟩ := bd_some hf
            by_cases c23 : a1 = (4 : Int32)
            · replace hf := (if_pos c23).symm.trans hf
              cases hf
              exact (FR.tr (FR.tr FR.rf (u_Md_splitDay (q := q19) c20) (by decide) (by decide)) (u_Md_speeds (q := q21) c22) (by decide) (by decide))
            · replace hf := (if_neg c23).symm.trans hf
              by_cases c24 : a1 = (5 : Int32)
              · replace hf := (if_pos c24).symm.trans hf
                cases hf
                exact (FR.tr (FR.tr FR.rf (u_Md_splitDay (q := q19) c20) (by decide) (by decide)) (u_Md_speeds (q := q21) c22) (by decide) (by decide))
              · replace hf := (if_neg c24).symm.trans hf
                by_cases c25 : a1 = (6 : Int32)
                · replace hf := (if_pos c25).symm.trans hf
                  cases hf
                  exact (FR.tr (FR.tr FR.rf (u_Md_splitDay (q := q19) c20) (by decide) (by decide)) (u_Md_speeds (q := q21) c22) (by decide) (by decide))
                · replace hf := (if_neg c25).symm.trans hf
                  by_cases c26 : a1 = (7 : Int32)
                  · replace hf := (if_pos c26).symm.trans hf
                    obtain ⟨c27, hf⟩ := gd_some hf
                    cases hf
                    exact (FR.tr (FR.tr FR.rf (u_Md_splitDay (q := q19) c20) (by decide) (by decide)) (u_Md_speeds (q := q21) c22) (by decide) (by decide))
                  · replace hf := (if_neg c26).symm.trans hf
                    by_cases c28 : a1 = (8 : Int32)
                    · replace hf := (if_pos c28).symm.trans hf
                      obtain ⟨q29, c30, hf⟩ := bd_some hf
                      by_cases c31 : q29 = (0 : Int32)
                      · replace hf := (if_pos c31).symm.trans hf
                        cases hf
                        exact (FR.tr (FR.tr FR.rf (u_Md_splitDay (q := q19) c20) (by decide) (by decide)) (u_Md_speeds (q := q21) c22) (by decide) (by decide))
                      · replace hf := (if_neg c31).symm.trans hf
                        cases hf
                        exact (FR.tr (FR.tr FR.rf (u_Md_splitDay (q := q19) c20) (by decide) (by decide)) (u_Md_speeds (q := q21) c22) (by decide) (by decide))
                    · replace hf := (if_neg c28).symm.trans hf
                      cases hf
                      exact (FR.tr (FR.tr FR.rf (u_Md_splitDay (q := q19) c20) (by decide) (by decide)) (u_Md_speeds (q := q21) c22) (by decide) (by decide))
          · replace hf := (if_neg c17).symm.trans hf
            obtain ⟨c32, hf⟩ := gd_some hf
            cases hf
            exact FR.rf
theorem dX12_struck_0 : decode cX12_struck 0 = .ok (.iload_n 1, 1) := by decide +kernel
theorem dX12_struck_1 : decode cX12_struck 1 = .ok (.i2l, 1) := by decide +kernel
theorem dX12_struck_2 : decode cX12_struck 2 = .ok (.lconst 0, 1) := by decide +kernel
theorem dX12_struck_3 : decode cX12_struck 3 = .ok (.aload_n 0, 1) := by decide +kernel
theorem dX12_struck_4 : decode cX12_struck 4 = .ok (.getfield 210, 3) := by decide +kernel
theorem dX12_struck_7 : decode cX12_struck 7 = .ok (.sipush 1000, 3) := by decide +kernel
theorem dX12_struck_10 : decode cX12_struck 10 = .ok (.invokestatic 348, 3) := by decide +kernel
theorem dX12_struck_13 : decode cX12_struck 13 = .ok (.iconst 1, 1) := by decide +kernel
theorem dX12_struck_14 : decode cX12_struck 14 = .ok (.isub, 1) := by decide +kernel
theorem dX12_struck_15 : decode cX12_struck 15 = .ok (.i2l, 1) := by decide +kernel
theorem dX12_struck_16 : decode cX12_struck 16 = .ok (.invokestatic 140, 3) := by decide +kernel
theorem dX12_struck_19 : decode cX12_struck 19 = .ok (.ifCond .eq 28, 3) := by decide +kernel
theorem dX12_struck_22 : decode cX12_struck 22 = .ok (.iload_n 2, 1) := by decide +kernel
theorem dX12_struck_23 : decode cX12_struck 23 = .ok (.i2l, 1) := by decide +kernel
theorem dX12_struck_24 : decode cX12_struck 24 = .ok (.lconst 0, 1) := by decide +kernel
theorem dX12_struck_25 : decode cX12_struck 25 = .ok (.ldc2_w 253, 3) := by decide +kernel
theorem dX12_struck_28 : decode cX12_struck 28 = .ok (.invokestatic 140, 3) := by decide +kernel
theorem dX12_struck_31 : decode cX12_struck 31 = .ok (.ifCond .eq 16, 3) := by decide +kernel
theorem dX12_struck_34 : decode cX12_struck 34 = .ok (.aload_n 0, 1) := by decide +kernel
theorem dX12_struck_35 : decode cX12_struck 35 = .ok (.getfield 68, 3) := by decide +kernel
theorem dX12_struck_38 : decode cX12_struck 38 = .ok (.iconst 3, 1) := by decide +kernel
theorem dX12_struck_39 : decode cX12_struck 39 = .ok (.iload_n 1, 1) := by decide +kernel
theorem dX12_struck_40 : decode cX12_struck 40 = .ok (.imul, 1) := by decide +kernel
theorem dX12_struck_41 : decode cX12_struck 41 = .ok (.iload_n 2, 1) := by decide +kernel
theorem dX12_struck_42 : decode cX12_struck 42 = .ok (.iadd, 1) := by decide +kernel
theorem dX12_struck_43 : decode cX12_struck 43 = .ok (.iaload, 1) := by decide +kernel
theorem dX12_struck_44 : decode cX12_struck 44 = .ok (.goto 4, 3) := by decide +kernel
theorem dX12_struck_47 : decode cX12_struck 47 = .ok (.iconst (-1), 1) := by decide +kernel
theorem dX12_struck_48 : decode cX12_struck 48 = .ok (.ireturn, 1) := by decide +kernel
def f_Md_struck (a0 : Int32) (a1 : Int32) (I : Nat → Nat → Int32) (L : Nat → Nat → Int64) : Option Int32 := (bnd (f_Md_within (Int32.toInt64 a0) (0 : Int64) (Int32.toInt64 ((jmin (I 34 40) (1000 : Int32)) - (1 : Int32)))) fun x1 => (if x1 = (0 : Int32) then (some (-1 : Int32)) else (bnd (f_Md_within (Int32.toInt64 a1) (0 : Int64) (2 : Int64)) fun x3 => (if x3 = (0 : Int32) then (some (-1 : Int32)) else (if (0 ≤ (((3 : Int32) * a0) + a1) ∧ (((3 : Int32) * a0) + a1) < (3000 : Int32)) then (some (I 54 ((((3 : Int32) * a0) + a1).toNatClampNeg))) else none)))))
set_option maxRecDepth 100000 in
set_option maxHeartbeats 4000000 in
theorem c_Md_struck {G : xG} {S : List xSh} {Rf : Nat → Nat → Option Nat} (hT : xTM S Rf) {a0 : Int32} {a1 : Int32} {I : Nat → Nat → Int32} {L : Nat → Nat → Int64} {q : Int32} (hf : f_Md_struck a0 a1 I L = some q) : CT G 2 m_Md_struck [.ref (xP G 34), .int a0, .int a1] (S, I, L, Rf) (some (.int q), (S, I, L, Rf)) := by
  refine CT.of (by decide +kernel) (Nat.le_of_ble_eq_true rfl) ?_
  show X G 2 m_Md_struck 0 [(0, .ref (xP G 34)), (1, .int a0), (2, .int a1)] [] (S, I, L, Rf) (some (.int q), (S, I, L, Rf))
  replace hf := (f_Md_struck.eq_1 _ _ _ _).symm.trans hf
  refine X_iload_n (pc := 0) (i := 1) 1 dX12_struck_0 rfl rfl ?_
  refine X_i2l (pc := 1) dX12_struck_1 ?_
  refine X_lconst (pc := 2) (0 : Int64) dX12_struck_2 (by decide) ?_
  refine X_aload_n (pc := 3) (i := 0) 0 dX12_struck_3 rfl rfl ?_
  refine X_get (pc := 4) (a := 34) (ci := 11) (j := 40) (.int (I 34 40)) (sh_34 hT) (by decide) k_1268 rfl dX12_struck_4 ?_
  refine X_sipush (pc := 7) (1000 : Int32) dX12_struck_7 (by decide) ?_
  refine X_jmin (pc := 10) k_1595 (by decide) (Nat.le_of_ble_eq_true rfl) dX12_struck_10 ?_
  refine X_iconst (pc := 13) (1 : Int32) dX12_struck_13 (by decide) ?_
  refine X_isub (pc := 14) dX12_struck_14 ?_
  refine X_i2l (pc := 15) dX12_struck_15 ?_
  refine X_invS_i (pc := 16) (c_Md_within hT rfl) ok_Md_within k_1482 k_1483 nd_33 (by decide) rfl (Nat.le_of_ble_eq_true rfl) dX12_struck_16 ?_
  obtain ⟨x1, ex1, hf⟩ := bnd_e hf
  refine X_tope ex1 ?_
  by_cases c2 : x1 = (0 : Int32)
  · replace hf := (if_pos c2).symm.trans hf
    refine X_if_eq_t (pc := 19) 47 dX12_struck_19 (by decide) c2 ?_
    refine X_iconst (pc := 47) (-1 : Int32) dX12_struck_47 (by decide) ?_
    cases hf
    exact X_ireturn (pc := 48) rfl dX12_struck_48
  · replace hf := (if_neg c2).symm.trans hf
    refine X_if_eq_f (pc := 19) 47 dX12_struck_19 (by decide) c2 ?_
    refine X_iload_n (pc := 22) (i := 2) 2 dX12_struck_22 rfl rfl ?_
    refine X_i2l (pc := 23) dX12_struck_23 ?_
    refine X_lconst (pc := 24) (0 : Int64) dX12_struck_24 (by decide) ?_
    refine X_ldc2 (pc := 25) (2 : Int64) k_1521 dX12_struck_25 ?_
    refine X_invS_i (pc := 28) (c_Md_within hT rfl) ok_Md_within k_1482 k_1483 nd_33 (by decide) rfl (Nat.le_of_ble_eq_true rfl) dX12_struck_28 ?_
    obtain ⟨x3, ex3, hf⟩ := bnd_e hf
    refine X_tope ex3 ?_
    by_cases c4 : x3 = (0 : Int32)
    · replace hf := (if_pos c4).symm.trans hf
      refine X_if_eq_t (pc := 31) 47 dX12_struck_31 (by decide) c4 ?_
      refine X_iconst (pc := 47) (-1 : Int32) dX12_struck_47 (by decide) ?_
      cases hf
      exact X_ireturn (pc := 48) rfl dX12_struck_48
    · replace hf := (if_neg c4).symm.trans hf
      refine X_if_eq_f (pc := 31) 47 dX12_struck_31 (by decide) c4 ?_
      refine X_aload_n (pc := 34) (i := 0) 0 dX12_struck_34 rfl rfl ?_
      refine X_getr (pc := 35) (a := 34) (ci := 11) (j := 39) (c := 54) (sh_34 hT) (by decide) k_1267 (rf_34_39 hT) (fun _ h => h) dX12_struck_35 ?_
      refine X_iconst (pc := 38) (3 : Int32) dX12_struck_38 (by decide) ?_
      refine X_iload_n (pc := 39) (i := 1) 1 dX12_struck_39 rfl rfl ?_
      refine X_imul (pc := 40) dX12_struck_40 ?_
      refine X_iload_n (pc := 41) (i := 2) 2 dX12_struck_41 rfl rfl ?_
      refine X_iadd (pc := 42) dX12_struck_42 ?_
      obtain ⟨c5, hf⟩ := gd_some hf
      refine X_ialdj (pc := 43) (j := (((3 : Int32) * a0) + a1).toNatClampNeg) (I 54 ((((3 : Int32) * a0) + a1).toNatClampNeg)) (sh_54 hT) (vp_in_lit (N := 3000) c5 (by decide)) rfl rfl dX12_struck_43 ?_
      refine X_goto (pc := 44) 48 dX12_struck_44 (by decide) ?_
      cases hf
      exact X_ireturn (pc := 48) rfl dX12_struck_48
theorem dX12_hand_0 : decode cX12_hand 0 = .ok (.iload_n 1, 1) := by decide +kernel
theorem dX12_hand_1 : decode cX12_hand 1 = .ok (.i2l, 1) := by decide +kernel
theorem dX12_hand_2 : decode cX12_hand 2 = .ok (.lconst 0, 1) := by decide +kernel
theorem dX12_hand_3 : decode cX12_hand 3 = .ok (.aload_n 0, 1) := by decide +kernel
theorem dX12_hand_4 : decode cX12_hand 4 = .ok (.getfield 175, 3) := by decide +kernel
theorem dX12_hand_7 : decode cX12_hand 7 = .ok (.iconst 1, 1) := by decide +kernel
theorem dX12_hand_8 : decode cX12_hand 8 = .ok (.isub, 1) := by decide +kernel
theorem dX12_hand_9 : decode cX12_hand 9 = .ok (.i2l, 1) := by decide +kernel
theorem dX12_hand_10 : decode cX12_hand 10 = .ok (.invokestatic 140, 3) := by decide +kernel
theorem dX12_hand_13 : decode cX12_hand 13 = .ok (.ifCond .eq 15, 3) := by decide +kernel
theorem dX12_hand_16 : decode cX12_hand 16 = .ok (.iload_n 2, 1) := by decide +kernel
theorem dX12_hand_17 : decode cX12_hand 17 = .ok (.i2l, 1) := by decide +kernel
theorem dX12_hand_18 : decode cX12_hand 18 = .ok (.lconst 0, 1) := by decide +kernel
theorem dX12_hand_19 : decode cX12_hand 19 = .ok (.ldc2_w 259, 3) := by decide +kernel
theorem dX12_hand_22 : decode cX12_hand 22 = .ok (.invokestatic 140, 3) := by decide +kernel
theorem dX12_hand_25 : decode cX12_hand 25 = .ok (.ifCond .ne 5, 3) := by decide +kernel
theorem dX12_hand_28 : decode cX12_hand 28 = .ok (.iconst (-1), 1) := by decide +kernel
theorem dX12_hand_29 : decode cX12_hand 29 = .ok (.ireturn, 1) := by decide +kernel
theorem dX12_hand_30 : decode cX12_hand 30 = .ok (.iload_n 1, 1) := by decide +kernel
theorem dX12_hand_31 : decode cX12_hand 31 = .ok (.istore_n 3, 1) := by decide +kernel
theorem dX12_hand_32 : decode cX12_hand 32 = .ok (.iload_n 2, 1) := by decide +kernel
theorem dX12_hand_33 : decode cX12_hand 33 = .ok (.ifCond .ne 12, 3) := by decide +kernel
theorem dX12_hand_36 : decode cX12_hand 36 = .ok (.aload_n 0, 1) := by decide +kernel
theorem dX12_hand_37 : decode cX12_hand 37 = .ok (.getfield 52, 3) := by decide +kernel
theorem dX12_hand_40 : decode cX12_hand 40 = .ok (.iload_n 3, 1) := by decide +kernel
theorem dX12_hand_41 : decode cX12_hand 41 = .ok (.iaload, 1) := by decide +kernel
theorem dX12_hand_42 : decode cX12_hand 42 = .ok (.goto 63, 3) := by decide +kernel
theorem dX12_hand_45 : decode cX12_hand 45 = .ok (.iload_n 2, 1) := by decide +kernel
theorem dX12_hand_46 : decode cX12_hand 46 = .ok (.iconst 1, 1) := by decide +kernel
theorem dX12_hand_47 : decode cX12_hand 47 = .ok (.if_icmp .ne 12, 3) := by decide +kernel
theorem dX12_hand_50 : decode cX12_hand 50 = .ok (.aload_n 0, 1) := by decide +kernel
theorem dX12_hand_51 : decode cX12_hand 51 = .ok (.getfield 55, 3) := by decide +kernel
theorem dX12_hand_54 : decode cX12_hand 54 = .ok (.iload_n 3, 1) := by decide +kernel
theorem dX12_hand_55 : decode cX12_hand 55 = .ok (.iaload, 1) := by decide +kernel
theorem dX12_hand_56 : decode cX12_hand 56 = .ok (.goto 49, 3) := by decide +kernel
theorem dX12_hand_59 : decode cX12_hand 59 = .ok (.iload_n 2, 1) := by decide +kernel
theorem dX12_hand_60 : decode cX12_hand 60 = .ok (.iconst 2, 1) := by decide +kernel
theorem dX12_hand_61 : decode cX12_hand 61 = .ok (.if_icmp .ne 30, 3) := by decide +kernel
theorem dX12_hand_64 : decode cX12_hand 64 = .ok (.aload_n 0, 1) := by decide +kernel
theorem dX12_hand_65 : decode cX12_hand 65 = .ok (.getfield 61, 3) := by decide +kernel
theorem dX12_hand_68 : decode cX12_hand 68 = .ok (.iload_n 3, 1) := by decide +kernel
theorem dX12_hand_69 : decode cX12_hand 69 = .ok (.baload, 1) := by decide +kernel
theorem dX12_hand_70 : decode cX12_hand 70 = .ok (.ifCond .eq 12, 3) := by decide +kernel
theorem dX12_hand_73 : decode cX12_hand 73 = .ok (.aload_n 0, 1) := by decide +kernel
theorem dX12_hand_74 : decode cX12_hand 74 = .ok (.getfield 58, 3) := by decide +kernel
theorem dX12_hand_77 : decode cX12_hand 77 = .ok (.iload_n 3, 1) := by decide +kernel
theorem dX12_hand_78 : decode cX12_hand 78 = .ok (.iaload, 1) := by decide +kernel
theorem dX12_hand_79 : decode cX12_hand 79 = .ok (.goto 26, 3) := by decide +kernel
theorem dX12_hand_82 : decode cX12_hand 82 = .ok (.aload_n 0, 1) := by decide +kernel
theorem dX12_hand_83 : decode cX12_hand 83 = .ok (.getfield 55, 3) := by decide +kernel
theorem dX12_hand_86 : decode cX12_hand 86 = .ok (.iload_n 3, 1) := by decide +kernel
theorem dX12_hand_87 : decode cX12_hand 87 = .ok (.iaload, 1) := by decide +kernel
theorem dX12_hand_88 : decode cX12_hand 88 = .ok (.goto 17, 3) := by decide +kernel
theorem dX12_hand_91 : decode cX12_hand 91 = .ok (.aload_n 0, 1) := by decide +kernel
theorem dX12_hand_92 : decode cX12_hand 92 = .ok (.getfield 61, 3) := by decide +kernel
theorem dX12_hand_95 : decode cX12_hand 95 = .ok (.iload_n 3, 1) := by decide +kernel
theorem dX12_hand_96 : decode cX12_hand 96 = .ok (.baload, 1) := by decide +kernel
theorem dX12_hand_97 : decode cX12_hand 97 = .ok (.ifCond .eq 7, 3) := by decide +kernel
theorem dX12_hand_100 : decode cX12_hand 100 = .ok (.iconst 1, 1) := by decide +kernel
theorem dX12_hand_101 : decode cX12_hand 101 = .ok (.goto 4, 3) := by decide +kernel
theorem dX12_hand_104 : decode cX12_hand 104 = .ok (.iconst 0, 1) := by decide +kernel
theorem dX12_hand_105 : decode cX12_hand 105 = .ok (.ireturn, 1) := by decide +kernel
def f_Md_hand (a0 : Int32) (a1 : Int32) (I : Nat → Nat → Int32) (L : Nat → Nat → Int64) : Option Int32 := (bnd (f_Md_within (Int32.toInt64 a0) (0 : Int64) (Int32.toInt64 ((I 34 22) - (1 : Int32)))) fun x1 => (if x1 = (0 : Int32) then (some (-1 : Int32)) else (bnd (f_Md_within (Int32.toInt64 a1) (0 : Int64) (3 : Int64)) fun x3 => (if x3 = (0 : Int32) then (some (-1 : Int32)) else (if a1 = (0 : Int32) then (if (0 ≤ a0 ∧ a0 < (4 : Int32)) then (some (I 49 (a0.toNatClampNeg))) else none) else (if a1 = (1 : Int32) then (if (0 ≤ a0 ∧ a0 < (4 : Int32)) then (some (I 50 (a0.toNatClampNeg))) else none) else (if a1 = (2 : Int32) then (if (0 ≤ a0 ∧ a0 < (4 : Int32)) then (if (I 52 (a0.toNatClampNeg)) = (0 : Int32) then (if (0 ≤ a0 ∧ a0 < (4 : Int32)) then (some (I 50 (a0.toNatClampNeg))) else none) else (if (0 ≤ a0 ∧ a0 < (4 : Int32)) then (some (I 51 (a0.toNatClampNeg))) else none)) else none) else (if (0 ≤ a0 ∧ a0 < (4 : Int32)) then (if (I 52 (a0.toNatClampNeg)) = (0 : Int32) then (some (0 : Int32)) else (some (1 : Int32))) else none))))))))
set_option maxRecDepth 100000 in
set_option maxHeartbeats 4000000 in
theorem c_Md_hand {G : xG} {S : List xSh} {Rf : Nat → Nat → Option Nat} (hT : xTM S Rf) {a0 : Int32} {a1 : Int32} {I : Nat → Nat → Int32} {L : Nat → Nat → Int64} {q : Int32} (hf : f_Md_hand a0 a1 I L = some q) : CT G 2 m_Md_hand [.ref (xP G 34), .int a0, .int a1] (S, I, L, Rf) (some (.int q), (S, I, L, Rf)) := by
  refine CT.of (by decide +kernel) (Nat.le_of_ble_eq_true rfl) ?_
  show X G 2 m_Md_hand 0 [(0, .ref (xP G 34)), (1, .int a0), (2, .int a1)] [] (S, I, L, Rf) (some (.int q), (S, I, L, Rf))
  replace hf := (f_Md_hand.eq_1 _ _ _ _).symm.trans hf
  refine X_iload_n (pc := 0) (i := 1) 1 dX12_hand_0 rfl rfl ?_
  refine X_i2l (pc := 1) dX12_hand_1 ?_
  refine X_lconst (pc := 2) (0 : Int64) dX12_hand_2 (by decide) ?_
  refine X_aload_n (pc := 3) (i := 0) 0 dX12_hand_3 rfl rfl ?_
  refine X_get (pc := 4) (a := 34) (ci := 11) (j := 22) (.int (I 34 22)) (sh_34 hT) (by decide) k_1250 rfl dX12_hand_4 ?_
  refine X_iconst (pc := 7) (1 : Int32) dX12_hand_7 (by decide) ?_
  refine X_isub (pc := 8) dX12_hand_8 ?_
  refine X_i2l (pc := 9) dX12_hand_9 ?_
  refine X_invS_i (pc := 10) (c_Md_within hT rfl) ok_Md_within k_1482 k_1483 nd_33 (by decide) rfl (Nat.le_of_ble_eq_true rfl) dX12_hand_10 ?_
  obtain ⟨x1, ex1, hf⟩ := bnd_e hf
  refine X_tope ex1 ?_
  by_cases c2 : x1 = (0 : Int32)
  · replace hf := (if_pos c2).symm.trans hf
    refine X_if_eq_t (pc := 13) 28 dX12_hand_13 (by decide) c2 ?_
    refine X_iconst (pc := 28) (-1 : Int32) dX12_hand_28 (by decide) ?_
    cases hf
    exact X_ireturn (pc := 29) rfl dX12_hand_29
  · replace hf := (if_neg c2).symm.trans hf
    refine X_if_eq_f (pc := 13) 28 dX12_hand_13 (by decide) c2 ?_
    refine X_iload_n (pc := 16) (i := 2) 2 dX12_hand_16 rfl rfl ?_
    refine X_i2l (pc := 17) dX12_hand_17 ?_
    refine X_lconst (pc := 18) (0 : Int64) dX12_hand_18 (by decide) ?_
    refine X_ldc2 (pc := 19) (3 : Int64) k_1530 dX12_hand_19 ?_
    refine X_invS_i (pc := 22) (c_Md_within hT rfl) ok_Md_within k_1482 k_1483 nd_33 (by decide) rfl (Nat.le_of_ble_eq_true rfl) dX12_hand_22 ?_
    obtain ⟨x3, ex3, hf⟩ := bnd_e hf
    refine X_tope ex3 ?_
    by_cases c4 : x3 = (0 : Int32)
    · replace hf := (if_pos c4).symm.trans hf
      refine X_if_ne_f (pc := 25) 30 dX12_hand_25 (by decide) c4 ?_
      refine X_iconst (pc := 28) (-1 : Int32) dX12_hand_28 (by decide) ?_
      cases hf
      exact X_ireturn (pc := 29) rfl dX12_hand_29
    · replace hf := (if_neg c4).symm.trans hf
      refine X_if_ne_t (pc := 25) 30 dX12_hand_25 (by decide) c4 ?_
      refine X_iload_n (pc := 30) (i := 1) 1 dX12_hand_30 rfl rfl ?_
      refine X_istore_n (pc := 31) (i := 3) [(3, .int a0), (0, .ref (xP G 34)), (1, .int a0), (2, .int a1)] dX12_hand_31 rfl (by decide) rfl ?_
      refine X_iload_n (pc := 32) (i := 2) 3 dX12_hand_32 rfl rfl ?_
      by_cases c5 : a1 = (0 : Int32)
      · replace hf := (if_pos c5).symm.trans hf
        refine X_if_ne_f (pc := 33) 45 dX12_hand_33 (by decide) c5 ?_
        refine X_aload_n (pc := 36) (i := 0) 1 dX12_hand_36 rfl rfl ?_
        refine X_getr (pc := 37) (a := 34) (ci := 11) (j := 34) (c := 49) (sh_34 hT) (by decide) k_1262 (rf_34_34 hT) (fun _ h => h) dX12_hand_37 ?_
        refine X_iload_n (pc := 40) (i := 3) 0 dX12_hand_40 rfl rfl ?_
        obtain ⟨c6, hf⟩ := gd_some hf
        refine X_ialdj (pc := 41) (j := a0.toNatClampNeg) (I 49 (a0.toNatClampNeg)) (sh_49 hT) (vp_in_lit (N := 4) c6 (by decide)) rfl rfl dX12_hand_41 ?_
        refine X_goto (pc := 42) 105 dX12_hand_42 (by decide) ?_
        cases hf
        exact X_ireturn (pc := 105) rfl dX12_hand_105
      · replace hf := (if_neg c5).symm.trans hf
        refine X_if_ne_t (pc := 33) 45 dX12_hand_33 (by decide) c5 ?_
        refine X_iload_n (pc := 45) (i := 2) 3 dX12_hand_45 rfl rfl ?_
        refine X_iconst (pc := 46) (1 : Int32) dX12_hand_46 (by decide) ?_
        by_cases c7 : a1 = (1 : Int32)
        · replace hf := (if_pos c7).symm.trans hf
          refine X_icmp_ne_f (pc := 47) 59 dX12_hand_47 (by decide) c7 ?_
          refine X_aload_n (pc := 50) (i := 0) 1 dX12_hand_50 rfl rfl ?_
          refine X_getr (pc := 51) (a := 34) (ci := 11) (j := 35) (c := 50) (sh_34 hT) (by decide) k_1263 (rf_34_35 hT) (fun _ h => h) dX12_hand_51 ?_
          refine X_iload_n (pc := 54) (i := 3) 0 dX12_hand_54 rfl rfl ?_
          obtain ⟨c8, hf⟩ := gd_some hf
          refine X_ialdj (pc := 55) (j := a0.toNatClampNeg) (I 50 (a0.toNatClampNeg)) (sh_50 hT) (vp_in_lit (N := 4) c8 (by decide)) rfl rfl dX12_hand_55 ?_
          refine X_goto (pc := 56) 105 dX12_hand_56 (by decide) ?_
          cases hf
          exact X_ireturn (pc := 105) rfl dX12_hand_105
        · replace hf := (if_neg c7).symm.trans hf
          refine X_icmp_ne_t (pc := 47) 59 dX12_hand_47 (by decide) c7 ?_
          refine X_iload_n (pc := 59) (i := 2) 3 dX12_hand_59 rfl rfl ?_
          refine X_iconst (pc := 60) (2 : Int32) dX12_hand_60 (by decide) ?_
          by_cases c9 : a1 = (2 : Int32)
          · replace hf := (if_pos c9).symm.trans hf
            refine X_icmp_ne_f (pc := 61) 91 dX12_hand_61 (by decide) c9 ?_
            refine X_aload_n (pc := 64) (i := 0) 1 dX12_hand_64 rfl rfl ?_
            refine X_getr (pc := 65) (a := 34) (ci := 11) (j := 37) (c := 52) (sh_34 hT) (by decide) k_1265 (rf_34_37 hT) (fun _ h => h) dX12_hand_65 ?_
            refine X_iload_n (pc := 68) (i := 3) 0 dX12_hand_68 rfl rfl ?_
            obtain ⟨c10, hf⟩ := gd_some hf
            refine X_zaldj (pc := 69) (j := a0.toNatClampNeg) (I 52 (a0.toNatClampNeg)) (sh_52 hT) (vp_in_lit (N := 4) c10 (by decide)) rfl rfl dX12_hand_69 ?_
            by_cases c11 : (I 52 (a0.toNatClampNeg)) = (0 : Int32)
            · replace hf := (if_pos c11).symm.trans hf
              refine X_if_eq_t (pc := 70) 82 dX12_hand_70 (by decide) c11 ?_
              refine X_aload_n (pc := 82) (i := 0) 1 dX12_hand_82 rfl rfl ?_
              refine X_getr (pc := 83) (a := 34) (ci := 11) (j := 35) (c := 50) (sh_34 hT) (by decide) k_1263 (rf_34_35 hT) (fun _ h => h) dX12_hand_83 ?_
              refine X_iload_n (pc := 86) (i := 3) 0 dX12_hand_86 rfl rfl ?_
              obtain ⟨c12, hf⟩ := gd_some hf
              refine X_ialdj (pc := 87) (j := a0.toNatClampNeg) (I 50 (a0.toNatClampNeg)) (sh_50 hT) (vp_in_lit (N := 4) c12 (by decide)) rfl rfl dX12_hand_87 ?_
              refine X_goto (pc := 88) 105 dX12_hand_88 (by decide) ?_
              cases hf
              exact X_ireturn (pc := 105) rfl dX12_hand_105
            · replace hf := (if_neg c11).symm.trans hf
              refine X_if_eq_f (pc := 70) 82 dX12_hand_70 (by decide) c11 ?_
              refine X_aload_n (pc := 73) (i := 0) 1 dX12_hand_73 rfl rfl ?_
              refine X_getr (pc := 74) (a := 34) (ci := 11) (j := 36) (c := 51) (sh_34 hT) (by decide) k_1264 (rf_34_36 hT) (fun _ h => h) dX12_hand_74 ?_
              refine X_iload_n (pc := 77) (i := 3) 0 dX12_hand_77 rfl rfl ?_
              obtain ⟨c13, hf⟩ := gd_some hf
              refine X_ialdj (pc := 78) (j := a0.toNatClampNeg) (I 51 (a0.toNatClampNeg)) (sh_51 hT) (vp_in_lit (N := 4) c13 (by decide)) rfl rfl dX12_hand_78 ?_
              refine X_goto (pc := 79) 105 dX12_hand_79 (by decide) ?_
              cases hf
              exact X_ireturn (pc := 105) rfl dX12_hand_105
          · replace hf := (if_neg c9).symm.trans hf
            refine X_icmp_ne_t (pc := 61) 91 dX12_hand_61 (by decide) c9 ?_
            refine X_aload_n (pc := 91) (i := 0) 1 dX12_hand_91 rfl rfl ?_
            refine X_getr (pc := 92) (a := 34) (ci := 11) (j := 37) (c := 52) (sh_34 hT) (by decide) k_1265 (rf_34_37 hT) (fun _ h => h) dX12_hand_92 ?_
            refine X_iload_n (pc := 95) (i := 3) 0 dX12_hand_95 rfl rfl ?_
            obtain ⟨c14, hf⟩ := gd_some hf
            refine X_zaldj (pc := 96) (j := a0.toNatClampNeg) (I 52 (a0.toNatClampNeg)) (sh_52 hT) (vp_in_lit (N := 4) c14 (by decide)) rfl rfl dX12_hand_96 ?_
            by_cases c15 : (I 52 (a0.toNatClampNeg)) = (0 : Int32)
            · replace hf := (if_pos c15).symm.trans hf
              refine X_if_eq_t (pc := 97) 104 dX12_hand_97 (by decide) c15 ?_
              refine X_iconst (pc := 104) (0 : Int32) dX12_hand_104 (by decide) ?_
              cases hf
              exact X_ireturn (pc := 105) rfl dX12_hand_105
            · replace hf := (if_neg c15).symm.trans hf
              refine X_if_eq_f (pc := 97) 104 dX12_hand_97 (by decide) c15 ?_
              refine X_iconst (pc := 100) (1 : Int32) dX12_hand_100 (by decide) ?_
              refine X_goto (pc := 101) 105 dX12_hand_101 (by decide) ?_
              cases hf
              exact X_ireturn (pc := 105) rfl dX12_hand_105
theorem dX12_count_0 : decode cX12_count 0 = .ok (.iload_n 1, 1) := by decide +kernel
theorem dX12_count_1 : decode cX12_count 1 = .ok (.tableswitch 86 0 6 #[43, 48, 53, 58, 63, 68, 73], 43) := by decide +kernel
theorem dX12_count_44 : decode cX12_count 44 = .ok (.aload_n 0, 1) := by decide +kernel
theorem dX12_count_45 : decode cX12_count 45 = .ok (.getfield 136, 3) := by decide +kernel
theorem dX12_count_48 : decode cX12_count 48 = .ok (.ireturn, 1) := by decide +kernel
theorem dX12_count_49 : decode cX12_count 49 = .ok (.aload_n 0, 1) := by decide +kernel
theorem dX12_count_50 : decode cX12_count 50 = .ok (.getfield 147, 3) := by decide +kernel
theorem dX12_count_53 : decode cX12_count 53 = .ok (.ireturn, 1) := by decide +kernel
theorem dX12_count_54 : decode cX12_count 54 = .ok (.aload_n 0, 1) := by decide +kernel
theorem dX12_count_55 : decode cX12_count 55 = .ok (.getfield 172, 3) := by decide +kernel
theorem dX12_count_58 : decode cX12_count 58 = .ok (.ireturn, 1) := by decide +kernel
theorem dX12_count_59 : decode cX12_count 59 = .ok (.aload_n 0, 1) := by decide +kernel
theorem dX12_count_60 : decode cX12_count 60 = .ok (.getfield 175, 3) := by decide +kernel
theorem dX12_count_63 : decode cX12_count 63 = .ok (.ireturn, 1) := by decide +kernel
theorem dX12_count_64 : decode cX12_count 64 = .ok (.aload_n 0, 1) := by decide +kernel
theorem dX12_count_65 : decode cX12_count 65 = .ok (.getfield 144, 3) := by decide +kernel
theorem dX12_count_68 : decode cX12_count 68 = .ok (.ireturn, 1) := by decide +kernel
theorem dX12_count_69 : decode cX12_count 69 = .ok (.aload_n 0, 1) := by decide +kernel
theorem dX12_count_70 : decode cX12_count 70 = .ok (.getfield 210, 3) := by decide +kernel
theorem dX12_count_73 : decode cX12_count 73 = .ok (.ireturn, 1) := by decide +kernel
theorem dX12_count_74 : decode cX12_count 74 = .ok (.aload_n 0, 1) := by decide +kernel
theorem dX12_count_75 : decode cX12_count 75 = .ok (.getfield 178, 3) := by decide +kernel
theorem dX12_count_78 : decode cX12_count 78 = .ok (.ifCond .eq 7, 3) := by decide +kernel
theorem dX12_count_81 : decode cX12_count 81 = .ok (.iconst 1, 1) := by decide +kernel
theorem dX12_count_82 : decode cX12_count 82 = .ok (.goto 4, 3) := by decide +kernel
theorem dX12_count_85 : decode cX12_count 85 = .ok (.iconst 0, 1) := by decide +kernel
theorem dX12_count_86 : decode cX12_count 86 = .ok (.ireturn, 1) := by decide +kernel
theorem dX12_count_87 : decode cX12_count 87 = .ok (.iconst (-1), 1) := by decide +kernel
theorem dX12_count_88 : decode cX12_count 88 = .ok (.ireturn, 1) := by decide +kernel
def f_Md_count (a0 : Int32) (I : Nat → Nat → Int32) (L : Nat → Nat → Int64) : Int32 := (if a0 = (0 : Int32) then (I 34 0) else (if a0 = (1 : Int32) then (I 34 1) else (if a0 = (2 : Int32) then (I 34 16) else (if a0 = (3 : Int32) then (I 34 22) else (if a0 = (4 : Int32) then (I 34 42) else (if a0 = (5 : Int32) then (I 34 40) else (if a0 = (6 : Int32) then (if (I 34 24) = (0 : Int32) then (0 : Int32) else (1 : Int32)) else (-1 : Int32))))))))
set_option maxRecDepth 100000 in
set_option maxHeartbeats 4000000 in
theorem c_Md_count {G : xG} {S : List xSh} {Rf : Nat → Nat → Option Nat} (hT : xTM S Rf) {a0 : Int32} {I : Nat → Nat → Int32} {L : Nat → Nat → Int64} {q : Int32} (hf : f_Md_count a0 I L = q) : CT G 1 m_Md_count [.ref (xP G 34), .int a0] (S, I, L, Rf) (some (.int q), (S, I, L, Rf)) := by
  refine CT.of (by decide +kernel) (Nat.le_of_ble_eq_true rfl) ?_
  show X G 1 m_Md_count 0 [(0, .ref (xP G 34)), (1, .int a0)] [] (S, I, L, Rf) (some (.int q), (S, I, L, Rf))
  replace hf := (f_Md_count.eq_1 _ _ _).symm.trans hf
  refine X_iload_n (pc := 0) (i := 1) 1 dX12_count_0 rfl rfl ?_
  by_cases c1 : a0 = (0 : Int32)
  · replace hf := (if_pos c1).symm.trans hf
    refine X_tabIn (pc := 1) (off := 43) (0) 44 dX12_count_1 (by rw [c1]; rfl) (by decide) ?_
    refine X_aload_n (pc := 44) (i := 0) 0 dX12_count_44 rfl rfl ?_
    refine X_get (pc := 45) (a := 34) (ci := 11) (j := 0) (.int (I 34 0)) (sh_34 hT) (by decide) k_1228 rfl dX12_count_45 ?_
    subst hf
    exact X_ireturn (pc := 48) rfl dX12_count_48
  · replace hf := (if_neg c1).symm.trans hf
    by_cases c2 : a0 = (1 : Int32)
    · replace hf := (if_pos c2).symm.trans hf
      refine X_tabIn (pc := 1) (off := 48) (1) 49 dX12_count_1 (by rw [c2]; rfl) (by decide) ?_
      refine X_aload_n (pc := 49) (i := 0) 0 dX12_count_49 rfl rfl ?_
      refine X_get (pc := 50) (a := 34) (ci := 11) (j := 1) (.int (I 34 1)) (sh_34 hT) (by decide) k_1229 rfl dX12_count_50 ?_
      subst hf
      exact X_ireturn (pc := 53) rfl dX12_count_53
    · replace hf := (if_neg c2).symm.trans hf
      by_cases c3 : a0 = (2 : Int32)
      · replace hf := (if_pos c3).symm.trans hf
        refine X_tabIn (pc := 1) (off := 53) (2) 54 dX12_count_1 (by rw [c3]; rfl) (by decide) ?_
        refine X_aload_n (pc := 54) (i := 0) 0 dX12_count_54 rfl rfl ?_
        refine X_get (pc := 55) (a := 34) (ci := 11) (j := 16) (.int (I 34 16)) (sh_34 hT) (by decide) k_1244 rfl dX12_count_55 ?_
        subst hf
        exact X_ireturn (pc := 58) rfl dX12_count_58
      · replace hf := (if_neg c3).symm.trans hf
        by_cases c4 : a0 = (3 : Int32)
        · replace hf := (if_pos c4).symm.trans hf
          refine X_tabIn (pc := 1) (off := 58) (3) 59 dX12_count_1 (by rw [c4]; rfl) (by decide) ?_
          refine X_aload_n (pc := 59) (i := 0) 0 dX12_count_59 rfl rfl ?_
          refine X_get (pc := 60) (a := 34) (ci := 11) (j := 22) (.int (I 34 22)) (sh_34 hT) (by decide) k_1250 rfl dX12_count_60 ?_
          subst hf
          exact X_ireturn (pc := 63) rfl dX12_count_63
        · replace hf := (if_neg c4).symm.trans hf
          by_cases c5 : a0 = (4 : Int32)
          · replace hf := (if_pos c5).symm.trans hf
            refine X_tabIn (pc := 1) (off := 63) (4) 64 dX12_count_1 (by rw [c5]; rfl) (by decide) ?_
            refine X_aload_n (pc := 64) (i := 0) 0 dX12_count_64 rfl rfl ?_
            refine X_get (pc := 65) (a := 34) (ci := 11) (j := 42) (.int (I 34 42)) (sh_34 hT) (by decide) k_1270 rfl dX12_count_65 ?_
            subst hf
            exact X_ireturn (pc := 68) rfl dX12_count_68
          · replace hf := (if_neg c5).symm.trans hf
            by_cases c6 : a0 = (5 : Int32)
            · replace hf := (if_pos c6).symm.trans hf
              refine X_tabIn (pc := 1) (off := 68) (5) 69 dX12_count_1 (by rw [c6]; rfl) (by decide) ?_
              refine X_aload_n (pc := 69) (i := 0) 0 dX12_count_69 rfl rfl ?_
              refine X_get (pc := 70) (a := 34) (ci := 11) (j := 40) (.int (I 34 40)) (sh_34 hT) (by decide) k_1268 rfl dX12_count_70 ?_
              subst hf
              exact X_ireturn (pc := 73) rfl dX12_count_73
            · replace hf := (if_neg c6).symm.trans hf
              by_cases c7 : a0 = (6 : Int32)
              · replace hf := (if_pos c7).symm.trans hf
                refine X_tabIn (pc := 1) (off := 73) (6) 74 dX12_count_1 (by rw [c7]; rfl) (by decide) ?_
                refine X_aload_n (pc := 74) (i := 0) 0 dX12_count_74 rfl rfl ?_
                refine X_get (pc := 75) (a := 34) (ci := 11) (j := 24) (.int (I 34 24)) (sh_34 hT) (by decide) k_1252 rfl dX12_count_75 ?_
                by_cases c8 : (I 34 24) = (0 : Int32)
                · replace hf := (if_pos c8).symm.trans hf
                  refine X_if_eq_t (pc := 78) 85 dX12_count_78 (by decide) c8 ?_
                  refine X_iconst (pc := 85) (0 : Int32) dX12_count_85 (by decide) ?_
                  subst hf
                  exact X_ireturn (pc := 86) rfl dX12_count_86
                · replace hf := (if_neg c8).symm.trans hf
                  refine X_if_eq_f (pc := 78) 85 dX12_count_78 (by decide) c8 ?_
                  refine X_iconst (pc := 81) (1 : Int32) dX12_count_81 (by decide) ?_
                  refine X_goto (pc := 82) 86 dX12_count_82 (by decide) ?_
                  subst hf
                  exact X_ireturn (pc := 86) rfl dX12_count_86
              · replace hf := (if_neg c7).symm.trans hf
                refine X_tabOut (pc := 1) 87 dX12_count_1 (by have zc1 := lv_neT (a := 0) c1 rfl; have zc2 := lv_neT (a := 1) c2 rfl; have zc3 := lv_neT (a := 2) c3 rfl; have zc4 := lv_neT (a := 3) c4 rfl; have zc5 := lv_neT (a := 4) c5 rfl; have zc6 := lv_neT (a := 5) c6 rfl; have zc7 := lv_neT (a := 6) c7 rfl; omega) (by decide) ?_
                refine X_iconst (pc := 87) (-1 : Int32) dX12_count_87 (by decide) ?_
                subst hf
                exact X_ireturn (pc := 88) rfl dX12_count_88
theorem dX12_teeth_0 : decode cX12_teeth 0 = .ok (.iload_n 1, 1) := by decide +kernel
theorem dX12_teeth_1 : decode cX12_teeth 1 = .ok (.i2l, 1) := by decide +kernel
theorem dX12_teeth_2 : decode cX12_teeth 2 = .ok (.lconst 0, 1) := by decide +kernel
theorem dX12_teeth_3 : decode cX12_teeth 3 = .ok (.lconst 1, 1) := by decide +kernel
theorem dX12_teeth_4 : decode cX12_teeth 4 = .ok (.invokestatic 140, 3) := by decide +kernel
theorem dX12_teeth_7 : decode cX12_teeth 7 = .ok (.ifCond .eq 20, 3) := by decide +kernel
theorem dX12_teeth_10 : decode cX12_teeth 10 = .ok (.iload_n 2, 1) := by decide +kernel
theorem dX12_teeth_11 : decode cX12_teeth 11 = .ok (.iconst 4, 1) := by decide +kernel
theorem dX12_teeth_12 : decode cX12_teeth 12 = .ok (.if_icmp .lt 15, 3) := by decide +kernel
theorem dX12_teeth_15 : decode cX12_teeth 15 = .ok (.iload_n 3, 1) := by decide +kernel
theorem dX12_teeth_16 : decode cX12_teeth 16 = .ok (.sipush 200, 3) := by decide +kernel
theorem dX12_teeth_19 : decode cX12_teeth 19 = .ok (.if_icmp .gt 8, 3) := by decide +kernel
theorem dX12_teeth_22 : decode cX12_teeth 22 = .ok (.iload_n 3, 1) := by decide +kernel
theorem dX12_teeth_23 : decode cX12_teeth 23 = .ok (.iload_n 2, 1) := by decide +kernel
theorem dX12_teeth_24 : decode cX12_teeth 24 = .ok (.if_icmp .ge 5, 3) := by decide +kernel
theorem dX12_teeth_27 : decode cX12_teeth 27 = .ok (.iconst (-1), 1) := by decide +kernel
theorem dX12_teeth_28 : decode cX12_teeth 28 = .ok (.ireturn, 1) := by decide +kernel
theorem dX12_teeth_29 : decode cX12_teeth 29 = .ok (.aload_n 0, 1) := by decide +kernel
theorem dX12_teeth_30 : decode cX12_teeth 30 = .ok (.getfield 87, 3) := by decide +kernel
theorem dX12_teeth_33 : decode cX12_teeth 33 = .ok (.iconst 2, 1) := by decide +kernel
theorem dX12_teeth_34 : decode cX12_teeth 34 = .ok (.iload_n 1, 1) := by decide +kernel
theorem dX12_teeth_35 : decode cX12_teeth 35 = .ok (.imul, 1) := by decide +kernel
theorem dX12_teeth_36 : decode cX12_teeth 36 = .ok (.iload_n 2, 1) := by decide +kernel
theorem dX12_teeth_37 : decode cX12_teeth 37 = .ok (.iastore, 1) := by decide +kernel
theorem dX12_teeth_38 : decode cX12_teeth 38 = .ok (.aload_n 0, 1) := by decide +kernel
theorem dX12_teeth_39 : decode cX12_teeth 39 = .ok (.getfield 87, 3) := by decide +kernel
theorem dX12_teeth_42 : decode cX12_teeth 42 = .ok (.iconst 2, 1) := by decide +kernel
theorem dX12_teeth_43 : decode cX12_teeth 43 = .ok (.iload_n 1, 1) := by decide +kernel
theorem dX12_teeth_44 : decode cX12_teeth 44 = .ok (.imul, 1) := by decide +kernel
theorem dX12_teeth_45 : decode cX12_teeth 45 = .ok (.iconst 1, 1) := by decide +kernel
theorem dX12_teeth_46 : decode cX12_teeth 46 = .ok (.iadd, 1) := by decide +kernel
theorem dX12_teeth_47 : decode cX12_teeth 47 = .ok (.iload_n 3, 1) := by decide +kernel
theorem dX12_teeth_48 : decode cX12_teeth 48 = .ok (.iastore, 1) := by decide +kernel
theorem dX12_teeth_49 : decode cX12_teeth 49 = .ok (.iconst 0, 1) := by decide +kernel
theorem dX12_teeth_50 : decode cX12_teeth 50 = .ok (.ireturn, 1) := by decide +kernel
def f_Md_teeth (a0 : Int32) (a1 : Int32) (a2 : Int32) (I : Nat → Nat → Int32) (L : Nat → Nat → Int64) : Option (Int32 × (Nat → Nat → Int32) × (Nat → Nat → Int64)) := (bnd (f_Md_within (Int32.toInt64 a0) (0 : Int64) (1 : Int64)) fun x1 => (if x1 = (0 : Int32) then (some ((-1 : Int32), I, L)) else (if a1 < (4 : Int32) then (some ((-1 : Int32), I, L)) else (if (200 : Int32) < a2 then (some ((-1 : Int32), I, L)) else (if a1 ≤ a2 then (if (0 ≤ ((2 : Int32) * a0) ∧ ((2 : Int32) * a0) < (4 : Int32)) then (if (0 ≤ (((2 : Int32) * a0) + (1 : Int32)) ∧ (((2 : Int32) * a0) + (1 : Int32)) < (4 : Int32)) then (some ((0 : Int32), (uI (uI I 60 (((2 : Int32) * a0).toNatClampNeg) a1) 60 ((((2 : Int32) * a0) + (1 : Int32)).toNatClampNeg) a2), L)) else none) else none) else (some ((-1 : Int32), I, L)))))))
set_option maxRecDepth 100000 in
set_option maxHeartbeats 4000000 in
theorem c_Md_teeth {G : xG} {S : List xSh} {Rf : Nat → Nat → Option Nat} (hT : xTM S Rf) {a0 : Int32} {a1 : Int32} {a2 : Int32} {I : Nat → Nat → Int32} {L : Nat → Nat → Int64} {q : (Int32 × (Nat → Nat → Int32) × (Nat → Nat → Int64))} (hf : f_Md_teeth a0 a1 a2 I L = some q) : CT G 2 m_Md_teeth [.ref (xP G 34), .int a0, .int a1, .int a2] (S, I, L, Rf) (some (.int q.1), (S, q.2.1, q.2.2, Rf)) := by
  refine CT.of (by decide +kernel) (Nat.le_of_ble_eq_true rfl) ?_
  show X G 2 m_Md_teeth 0 [(0, .ref (xP G 34)), (1, .int a0), (2, .int a1), (3, .int a2)] [] (S, I, L, Rf) (some (.int q.1), (S, q.2.1, q.2.2, Rf))
  replace hf := (f_Md_teeth.eq_1 _ _ _ _ _).symm.trans hf
  refine X_iload_n (pc := 0) (i := 1) 1 dX12_teeth_0 rfl rfl ?_
  refine X_i2l (pc := 1) dX12_teeth_1 ?_
  refine X_lconst (pc := 2) (0 : Int64) dX12_teeth_2 (by decide) ?_
  refine X_lconst (pc := 3) (1 : Int64) dX12_teeth_3 (by decide) ?_
  refine X_invS_i (pc := 4) (c_Md_within hT rfl) ok_Md_within k_1482 k_1483 nd_33 (by decide) rfl (Nat.le_of_ble_eq_true rfl) dX12_teeth_4 ?_
  obtain ⟨x1, ex1, hf⟩ := bnd_e hf
  refine X_tope ex1 ?_
  by_cases c2 : x1 = (0 : Int32)
  · replace hf := (if_pos c2).symm.trans hf
    refine X_if_eq_t (pc := 7) 27 dX12_teeth_7 (by decide) c2 ?_
    refine X_iconst (pc := 27) (-1 : Int32) dX12_teeth_27 (by decide) ?_
    cases hf
    exact X_ireturn (pc := 28) rfl dX12_teeth_28
  · replace hf := (if_neg c2).symm.trans hf
    refine X_if_eq_f (pc := 7) 27 dX12_teeth_7 (by decide) c2 ?_
    refine X_iload_n (pc := 10) (i := 2) 2 dX12_teeth_10 rfl rfl ?_
    refine X_iconst (pc := 11) (4 : Int32) dX12_teeth_11 (by decide) ?_
    by_cases c3 : a1 < (4 : Int32)
    · replace hf := (if_pos c3).symm.trans hf
      refine X_icmp_lt_t (pc := 12) 27 dX12_teeth_12 (by decide) c3 ?_
      refine X_iconst (pc := 27) (-1 : Int32) dX12_teeth_27 (by decide) ?_
      cases hf
      exact X_ireturn (pc := 28) rfl dX12_teeth_28
    · replace hf := (if_neg c3).symm.trans hf
      refine X_icmp_lt_f (pc := 12) 27 dX12_teeth_12 (by decide) c3 ?_
      refine X_iload_n (pc := 15) (i := 3) 3 dX12_teeth_15 rfl rfl ?_
      refine X_sipush (pc := 16) (200 : Int32) dX12_teeth_16 (by decide) ?_
      by_cases c4 : (200 : Int32) < a2
      · replace hf := (if_pos c4).symm.trans hf
        refine X_icmp_gt_t (pc := 19) 27 dX12_teeth_19 (by decide) c4 ?_
        refine X_iconst (pc := 27) (-1 : Int32) dX12_teeth_27 (by decide) ?_
        cases hf
        exact X_ireturn (pc := 28) rfl dX12_teeth_28
      · replace hf := (if_neg c4).symm.trans hf
        refine X_icmp_gt_f (pc := 19) 27 dX12_teeth_19 (by decide) c4 ?_
        refine X_iload_n (pc := 22) (i := 3) 3 dX12_teeth_22 rfl rfl ?_
        refine X_iload_n (pc := 23) (i := 2) 2 dX12_teeth_23 rfl rfl ?_
        by_cases c5 : a1 ≤ a2
        · replace hf := (if_pos c5).symm.trans hf
          refine X_icmp_ge_t (pc := 24) 29 dX12_teeth_24 (by decide) c5 ?_
          refine X_aload_n (pc := 29) (i := 0) 0 dX12_teeth_29 rfl rfl ?_
          refine X_getr (pc := 30) (a := 34) (ci := 11) (j := 53) (c := 60) (sh_34 hT) (by decide) k_1281 (rf_34_53 hT) (fun _ h => h) dX12_teeth_30 ?_
          refine X_iconst (pc := 33) (2 : Int32) dX12_teeth_33 (by decide) ?_
          refine X_iload_n (pc := 34) (i := 1) 1 dX12_teeth_34 rfl rfl ?_
          refine X_imul (pc := 35) dX12_teeth_35 ?_
          refine X_iload_n (pc := 36) (i := 2) 2 dX12_teeth_36 rfl rfl ?_
          obtain ⟨c6, hf⟩ := gd_some hf
          refine X_iastj (pc := 37) (j := (((2 : Int32) * a0).toNatClampNeg)) (sh_60 hT) (vp_in_lit (N := 4) c6 (by decide)) rfl dX12_teeth_37 ?_
          refine X_aload_n (pc := 38) (i := 0) 0 dX12_teeth_38 rfl rfl ?_
          refine X_getr (pc := 39) (a := 34) (ci := 11) (j := 53) (c := 60) (sh_34 hT) (by decide) k_1281 (rf_34_53 hT) (fun _ h => h) dX12_teeth_39 ?_
          refine X_iconst (pc := 42) (2 : Int32) dX12_teeth_42 (by decide) ?_
          refine X_iload_n (pc := 43) (i := 1) 1 dX12_teeth_43 rfl rfl ?_
          refine X_imul (pc := 44) dX12_teeth_44 ?_
          refine X_iconst (pc := 45) (1 : Int32) dX12_teeth_45 (by decide) ?_
          refine X_iadd (pc := 46) dX12_teeth_46 ?_
          refine X_iload_n (pc := 47) (i := 3) 3 dX12_teeth_47 rfl rfl ?_
          obtain ⟨c7, hf⟩ := gd_some hf
          refine X_iastj (pc := 48) (j := ((((2 : Int32) * a0) + (1 : Int32)).toNatClampNeg)) (sh_60 hT) (vp_in_lit (N := 4) c7 (by decide)) rfl dX12_teeth_48 ?_
          refine X_iconst (pc := 49) (0 : Int32) dX12_teeth_49 (by decide) ?_
          cases hf
          exact X_ireturn (pc := 50) rfl dX12_teeth_50
        · replace hf := (if_neg c5).symm.trans hf
          refine X_icmp_ge_f (pc := 24) 29 dX12_teeth_24 (by decide) c5 ?_
          refine X_iconst (pc := 27) (-1 : Int32) dX12_teeth_27 (by decide) ?_
          cases hf
          exact X_ireturn (pc := 28) rfl dX12_teeth_28
theorem u_Md_teeth {S : List xSh} {a0 : Int32} {a1 : Int32} {a2 : Int32} {I : Nat → Nat → Int32} {L : Nat → Nat → Int64} {q : (Int32 × (Nat → Nat → Int32) × (Nat → Nat → Int64))} (hf : f_Md_teeth a0 a1 a2 I L = some q) : FR S [60] [] I q.2.1 L q.2.2 := by
  replace hf := (f_Md_teeth.eq_1 _ _ _ _ _).symm.trans hf
  obtain ⟨x1, ex1, hf⟩ := bnd_e hf
  by_cases c2 : x1 = (0 : Int32)
  · replace hf := (if_pos c2).symm.trans hf
    cases hf
    exact FR.rf
  · replace hf := (if_neg c2).symm.trans hf
    by_cases c3 : a1 < (4 : Int32)
    · replace hf := (if_pos c3).symm.trans hf
      cases hf
      exact FR.rf
    · replace hf := (if_neg c3).symm.trans hf
      by_cases c4 : (200 : Int32) < a2
      · replace hf := (if_pos c4).symm.trans hf
        cases hf
        exact FR.rf
      · replace hf := (if_neg c4).symm.trans hf
        by_cases c5 : a1 ≤ a2
        · replace hf := (if_pos c5).symm.trans hf
          obtain ⟨c6, hf⟩ := gd_some hf
          obtain ⟨c7, hf⟩ := gd_some hf
          cases hf
          exact (FR.ai (FR.ai FR.rf (by decide)) (by decide))
        · replace hf := (if_neg c5).symm.trans hf
          cases hf
          exact FR.rf
theorem dX12_rowsOf_0 : decode cX12_rowsOf 0 = .ok (.iload_n 2, 1) := by decide +kernel
theorem dX12_rowsOf_1 : decode cX12_rowsOf 1 = .ok (.iconst 1, 1) := by decide +kernel
theorem dX12_rowsOf_2 : decode cX12_rowsOf 2 = .ok (.if_icmp .ne 7, 3) := by decide +kernel
theorem dX12_rowsOf_5 : decode cX12_rowsOf 5 = .ok (.lload_n 0, 1) := by decide +kernel
theorem dX12_rowsOf_6 : decode cX12_rowsOf 6 = .ok (.goto 35, 3) := by decide +kernel
theorem dX12_rowsOf_9 : decode cX12_rowsOf 9 = .ok (.iload_n 2, 1) := by decide +kernel
theorem dX12_rowsOf_10 : decode cX12_rowsOf 10 = .ok (.iconst 2, 1) := by decide +kernel
theorem dX12_rowsOf_11 : decode cX12_rowsOf 11 = .ok (.if_icmp .ne 15, 3) := by decide +kernel
theorem dX12_rowsOf_14 : decode cX12_rowsOf 14 = .ok (.lload_n 0, 1) := by decide +kernel
theorem dX12_rowsOf_15 : decode cX12_rowsOf 15 = .ok (.lload_n 0, 1) := by decide +kernel
theorem dX12_rowsOf_16 : decode cX12_rowsOf 16 = .ok (.lconst 1, 1) := by decide +kernel
theorem dX12_rowsOf_17 : decode cX12_rowsOf 17 = .ok (.ladd, 1) := by decide +kernel
theorem dX12_rowsOf_18 : decode cX12_rowsOf 18 = .ok (.lmul, 1) := by decide +kernel
theorem dX12_rowsOf_19 : decode cX12_rowsOf 19 = .ok (.ldc2_w 253, 3) := by decide +kernel
theorem dX12_rowsOf_22 : decode cX12_rowsOf 22 = .ok (.ldiv, 1) := by decide +kernel
theorem dX12_rowsOf_23 : decode cX12_rowsOf 23 = .ok (.goto 18, 3) := by decide +kernel
theorem dX12_rowsOf_26 : decode cX12_rowsOf 26 = .ok (.lload_n 0, 1) := by decide +kernel
theorem dX12_rowsOf_27 : decode cX12_rowsOf 27 = .ok (.lload_n 0, 1) := by decide +kernel
theorem dX12_rowsOf_28 : decode cX12_rowsOf 28 = .ok (.lconst 1, 1) := by decide +kernel
theorem dX12_rowsOf_29 : decode cX12_rowsOf 29 = .ok (.ladd, 1) := by decide +kernel
theorem dX12_rowsOf_30 : decode cX12_rowsOf 30 = .ok (.lmul, 1) := by decide +kernel
theorem dX12_rowsOf_31 : decode cX12_rowsOf 31 = .ok (.lload_n 0, 1) := by decide +kernel
theorem dX12_rowsOf_32 : decode cX12_rowsOf 32 = .ok (.ldc2_w 253, 3) := by decide +kernel
theorem dX12_rowsOf_35 : decode cX12_rowsOf 35 = .ok (.ladd, 1) := by decide +kernel
theorem dX12_rowsOf_36 : decode cX12_rowsOf 36 = .ok (.lmul, 1) := by decide +kernel
theorem dX12_rowsOf_37 : decode cX12_rowsOf 37 = .ok (.ldc2_w 393, 3) := by decide +kernel
theorem dX12_rowsOf_40 : decode cX12_rowsOf 40 = .ok (.ldiv, 1) := by decide +kernel
theorem dX12_rowsOf_41 : decode cX12_rowsOf 41 = .ok (.lreturn, 1) := by decide +kernel
def f_Md_rowsOf (a0 : Int64) (a1 : Int32) : Int64 := (if a1 = (1 : Int32) then a0 else (if a1 = (2 : Int32) then ((a0 * (a0 + (1 : Int64))) / (2 : Int64)) else (((a0 * (a0 + (1 : Int64))) * (a0 + (2 : Int64))) / (6 : Int64))))
set_option maxRecDepth 100000 in
set_option maxHeartbeats 4000000 in
theorem c_Md_rowsOf {G : xG} {S : List xSh} {Rf : Nat → Nat → Option Nat} (hT : xTM S Rf) {a0 : Int64} {a1 : Int32} {I : Nat → Nat → Int32} {L : Nat → Nat → Int64} {q : Int64} (hf : f_Md_rowsOf a0 a1 = q) : CT G 1 m_Md_rowsOf [.long a0, .int a1] (S, I, L, Rf) (some (.long q), (S, I, L, Rf)) := by
  refine CT.of (by decide +kernel) (Nat.le_of_ble_eq_true rfl) ?_
  show X G 1 m_Md_rowsOf 0 [(0, .long a0), (2, .int a1)] [] (S, I, L, Rf) (some (.long q), (S, I, L, Rf))
  replace hf := (f_Md_rowsOf.eq_1 _ _).symm.trans hf
  refine X_iload_n (pc := 0) (i := 2) 1 dX12_rowsOf_0 rfl rfl ?_
  refine X_iconst (pc := 1) (1 : Int32) dX12_rowsOf_1 (by decide) ?_
  by_cases c1 : a1 = (1 : Int32)
  · replace hf := (if_pos c1).symm.trans hf
    refine X_icmp_ne_f (pc := 2) 9 dX12_rowsOf_2 (by decide) c1 ?_
    refine X_lload_n (pc := 5) (i := 0) 0 dX12_rowsOf_5 rfl rfl ?_
    refine X_goto (pc := 6) 41 dX12_rowsOf_6 (by decide) ?_
    subst hf
    exact X_lreturn (pc := 41) rfl dX12_rowsOf_41
  · replace hf := (if_neg c1).symm.trans hf
    refine X_icmp_ne_t (pc := 2) 9 dX12_rowsOf_2 (by decide) c1 ?_
    refine X_iload_n (pc := 9) (i := 2) 1 dX12_rowsOf_9 rfl rfl ?_
    refine X_iconst (pc := 10) (2 : Int32) dX12_rowsOf_10 (by decide) ?_
    by_cases c2 : a1 = (2 : Int32)
    · replace hf := (if_pos c2).symm.trans hf
      refine X_icmp_ne_f (pc := 11) 26 dX12_rowsOf_11 (by decide) c2 ?_
      refine X_lload_n (pc := 14) (i := 0) 0 dX12_rowsOf_14 rfl rfl ?_
      refine X_lload_n (pc := 15) (i := 0) 0 dX12_rowsOf_15 rfl rfl ?_
      refine X_lconst (pc := 16) (1 : Int64) dX12_rowsOf_16 (by decide) ?_
      refine X_ladd (pc := 17) dX12_rowsOf_17 ?_
      refine X_lmul (pc := 18) dX12_rowsOf_18 ?_
      refine X_ldc2 (pc := 19) (2 : Int64) k_1521 dX12_rowsOf_19 ?_
      refine X_ldiv (pc := 22) dX12_rowsOf_22 (by decide) ?_
      refine X_goto (pc := 23) 41 dX12_rowsOf_23 (by decide) ?_
      subst hf
      exact X_lreturn (pc := 41) rfl dX12_rowsOf_41
    · replace hf := (if_neg c2).symm.trans hf
      refine X_icmp_ne_t (pc := 11) 26 dX12_rowsOf_11 (by decide) c2 ?_
      refine X_lload_n (pc := 26) (i := 0) 0 dX12_rowsOf_26 rfl rfl ?_
      refine X_lload_n (pc := 27) (i := 0) 0 dX12_rowsOf_27 rfl rfl ?_
      refine X_lconst (pc := 28) (1 : Int64) dX12_rowsOf_28 (by decide) ?_
      refine X_ladd (pc := 29) dX12_rowsOf_29 ?_
      refine X_lmul (pc := 30) dX12_rowsOf_30 ?_
      refine X_lload_n (pc := 31) (i := 0) 0 dX12_rowsOf_31 rfl rfl ?_
      refine X_ldc2 (pc := 32) (2 : Int64) k_1521 dX12_rowsOf_32 ?_
      refine X_ladd (pc := 35) dX12_rowsOf_35 ?_
      refine X_lmul (pc := 36) dX12_rowsOf_36 ?_
      refine X_ldc2 (pc := 37) (6 : Int64) k_1669 dX12_rowsOf_37 ?_
      refine X_ldiv (pc := 40) dX12_rowsOf_40 (by decide) ?_
      subst hf
      exact X_lreturn (pc := 41) rfl dX12_rowsOf_41
theorem dX12_weigh_0 : decode cX12_weigh 0 = .ok (.lconst 1, 1) := by decide +kernel
theorem dX12_weigh_1 : decode cX12_weigh 1 = .ok (.lstore_n 1, 1) := by decide +kernel
theorem dX12_weigh_2 : decode cX12_weigh 2 = .ok (.lconst 1, 1) := by decide +kernel
theorem dX12_weigh_3 : decode cX12_weigh 3 = .ok (.lstore_n 3, 1) := by decide +kernel
theorem dX12_weigh_4 : decode cX12_weigh 4 = .ok (.iconst 0, 1) := by decide +kernel
theorem dX12_weigh_5 : decode cX12_weigh 5 = .ok (.istore 5, 2) := by decide +kernel
theorem dX12_weigh_7 : decode cX12_weigh 7 = .ok (.iload 5, 2) := by decide +kernel
theorem dX12_weigh_9 : decode cX12_weigh 9 = .ok (.aload_n 0, 1) := by decide +kernel
theorem dX12_weigh_10 : decode cX12_weigh 10 = .ok (.getfield 425, 3) := by decide +kernel
theorem dX12_weigh_13 : decode cX12_weigh 13 = .ok (.if_icmp .ge 33, 3) := by decide +kernel
theorem dX12_weigh_16 : decode cX12_weigh 16 = .ok (.lload_n 1, 1) := by decide +kernel
theorem dX12_weigh_17 : decode cX12_weigh 17 = .ok (.aload_n 0, 1) := by decide +kernel
theorem dX12_weigh_18 : decode cX12_weigh 18 = .ok (.getfield 93, 3) := by decide +kernel
theorem dX12_weigh_21 : decode cX12_weigh 21 = .ok (.iload 5, 2) := by decide +kernel
theorem dX12_weigh_23 : decode cX12_weigh 23 = .ok (.iaload, 1) := by decide +kernel
theorem dX12_weigh_24 : decode cX12_weigh 24 = .ok (.i2l, 1) := by decide +kernel
theorem dX12_weigh_25 : decode cX12_weigh 25 = .ok (.lmul, 1) := by decide +kernel
theorem dX12_weigh_26 : decode cX12_weigh 26 = .ok (.lstore_n 1, 1) := by decide +kernel
theorem dX12_weigh_27 : decode cX12_weigh 27 = .ok (.lload_n 3, 1) := by decide +kernel
theorem dX12_weigh_28 : decode cX12_weigh 28 = .ok (.aload_n 0, 1) := by decide +kernel
theorem dX12_weigh_29 : decode cX12_weigh 29 = .ok (.getfield 93, 3) := by decide +kernel
theorem dX12_weigh_32 : decode cX12_weigh 32 = .ok (.iconst 3, 1) := by decide +kernel
theorem dX12_weigh_33 : decode cX12_weigh 33 = .ok (.iload 5, 2) := by decide +kernel
theorem dX12_weigh_35 : decode cX12_weigh 35 = .ok (.iadd, 1) := by decide +kernel
theorem dX12_weigh_36 : decode cX12_weigh 36 = .ok (.iaload, 1) := by decide +kernel
theorem dX12_weigh_37 : decode cX12_weigh 37 = .ok (.i2l, 1) := by decide +kernel
theorem dX12_weigh_38 : decode cX12_weigh 38 = .ok (.lmul, 1) := by decide +kernel
theorem dX12_weigh_39 : decode cX12_weigh 39 = .ok (.lstore_n 3, 1) := by decide +kernel
theorem dX12_weigh_40 : decode cX12_weigh 40 = .ok (.iinc 5 1, 3) := by decide +kernel
theorem dX12_weigh_43 : decode cX12_weigh 43 = .ok (.goto (-36), 3) := by decide +kernel
theorem dX12_weigh_46 : decode cX12_weigh 46 = .ok (.lload_n 1, 1) := by decide +kernel
theorem dX12_weigh_47 : decode cX12_weigh 47 = .ok (.aload_n 0, 1) := by decide +kernel
theorem dX12_weigh_48 : decode cX12_weigh 48 = .ok (.getfield 428, 3) := by decide +kernel
theorem dX12_weigh_51 : decode cX12_weigh 51 = .ok (.i2l, 1) := by decide +kernel
theorem dX12_weigh_52 : decode cX12_weigh 52 = .ok (.lmul, 1) := by decide +kernel
theorem dX12_weigh_53 : decode cX12_weigh 53 = .ok (.lload_n 3, 1) := by decide +kernel
theorem dX12_weigh_54 : decode cX12_weigh 54 = .ok (.aload_n 0, 1) := by decide +kernel
theorem dX12_weigh_55 : decode cX12_weigh 55 = .ok (.getfield 431, 3) := by decide +kernel
theorem dX12_weigh_58 : decode cX12_weigh 58 = .ok (.i2l, 1) := by decide +kernel
theorem dX12_weigh_59 : decode cX12_weigh 59 = .ok (.lmul, 1) := by decide +kernel
theorem dX12_weigh_60 : decode cX12_weigh 60 = .ok (.lsub, 1) := by decide +kernel
theorem dX12_weigh_61 : decode cX12_weigh 61 = .ok (.invokestatic 287, 3) := by decide +kernel
theorem dX12_weigh_64 : decode cX12_weigh 64 = .ok (.lstore 5, 2) := by decide +kernel
theorem dX12_weigh_66 : decode cX12_weigh 66 = .ok (.aload_n 0, 1) := by decide +kernel
theorem dX12_weigh_67 : decode cX12_weigh 67 = .ok (.getfield 434, 3) := by decide +kernel
theorem dX12_weigh_70 : decode cX12_weigh 70 = .ok (.ifCond .eq 20, 3) := by decide +kernel
theorem dX12_weigh_73 : decode cX12_weigh 73 = .ok (.lload 5, 2) := by decide +kernel
theorem dX12_weigh_75 : decode cX12_weigh 75 = .ok (.aload_n 0, 1) := by decide +kernel
theorem dX12_weigh_76 : decode cX12_weigh 76 = .ok (.getfield 437, 3) := by decide +kernel
theorem dX12_weigh_79 : decode cX12_weigh 79 = .ok (.lmul, 1) := by decide +kernel
theorem dX12_weigh_80 : decode cX12_weigh 80 = .ok (.aload_n 0, 1) := by decide +kernel
theorem dX12_weigh_81 : decode cX12_weigh 81 = .ok (.getfield 440, 3) := by decide +kernel
theorem dX12_weigh_84 : decode cX12_weigh 84 = .ok (.lload_n 3, 1) := by decide +kernel
theorem dX12_weigh_85 : decode cX12_weigh 85 = .ok (.lmul, 1) := by decide +kernel
theorem dX12_weigh_86 : decode cX12_weigh 86 = .ok (.lcmp, 1) := by decide +kernel
theorem dX12_weigh_87 : decode cX12_weigh 87 = .ok (.ifCond .ge 67, 3) := by decide +kernel
theorem dX12_weigh_90 : decode cX12_weigh 90 = .ok (.aload_n 0, 1) := by decide +kernel
theorem dX12_weigh_91 : decode cX12_weigh 91 = .ok (.aload_n 0, 1) := by decide +kernel
theorem dX12_weigh_92 : decode cX12_weigh 92 = .ok (.getfield 425, 3) := by decide +kernel
theorem dX12_weigh_95 : decode cX12_weigh 95 = .ok (.putfield 434, 3) := by decide +kernel
theorem dX12_weigh_98 : decode cX12_weigh 98 = .ok (.aload_n 0, 1) := by decide +kernel
theorem dX12_weigh_99 : decode cX12_weigh 99 = .ok (.lload 5, 2) := by decide +kernel
theorem dX12_weigh_101 : decode cX12_weigh 101 = .ok (.putfield 440, 3) := by decide +kernel
theorem dX12_weigh_104 : decode cX12_weigh 104 = .ok (.aload_n 0, 1) := by decide +kernel
theorem dX12_weigh_105 : decode cX12_weigh 105 = .ok (.lload_n 3, 1) := by decide +kernel
theorem dX12_weigh_106 : decode cX12_weigh 106 = .ok (.putfield 437, 3) := by decide +kernel
theorem dX12_weigh_109 : decode cX12_weigh 109 = .ok (.iconst 0, 1) := by decide +kernel
theorem dX12_weigh_110 : decode cX12_weigh 110 = .ok (.istore 7, 2) := by decide +kernel
theorem dX12_weigh_112 : decode cX12_weigh 112 = .ok (.iload 7, 2) := by decide +kernel
theorem dX12_weigh_114 : decode cX12_weigh 114 = .ok (.bipush 6, 2) := by decide +kernel
theorem dX12_weigh_116 : decode cX12_weigh 116 = .ok (.if_icmp .ge 38, 3) := by decide +kernel
theorem dX12_weigh_119 : decode cX12_weigh 119 = .ok (.aload_n 0, 1) := by decide +kernel
theorem dX12_weigh_120 : decode cX12_weigh 120 = .ok (.getfield 96, 3) := by decide +kernel
theorem dX12_weigh_123 : decode cX12_weigh 123 = .ok (.iload 7, 2) := by decide +kernel
theorem dX12_weigh_125 : decode cX12_weigh 125 = .ok (.iload 7, 2) := by decide +kernel
theorem dX12_weigh_127 : decode cX12_weigh 127 = .ok (.iconst 3, 1) := by decide +kernel
theorem dX12_weigh_128 : decode cX12_weigh 128 = .ok (.irem, 1) := by decide +kernel
theorem dX12_weigh_129 : decode cX12_weigh 129 = .ok (.aload_n 0, 1) := by decide +kernel
theorem dX12_weigh_130 : decode cX12_weigh 130 = .ok (.getfield 425, 3) := by decide +kernel
theorem dX12_weigh_133 : decode cX12_weigh 133 = .ok (.if_icmp .ge 13, 3) := by decide +kernel
theorem dX12_weigh_136 : decode cX12_weigh 136 = .ok (.aload_n 0, 1) := by decide +kernel
theorem dX12_weigh_137 : decode cX12_weigh 137 = .ok (.getfield 93, 3) := by decide +kernel
theorem dX12_weigh_140 : decode cX12_weigh 140 = .ok (.iload 7, 2) := by decide +kernel
theorem dX12_weigh_142 : decode cX12_weigh 142 = .ok (.iaload, 1) := by decide +kernel
theorem dX12_weigh_143 : decode cX12_weigh 143 = .ok (.goto 4, 3) := by decide +kernel
theorem dX12_weigh_146 : decode cX12_weigh 146 = .ok (.iconst 0, 1) := by decide +kernel
theorem dX12_weigh_147 : decode cX12_weigh 147 = .ok (.iastore, 1) := by decide +kernel
theorem dX12_weigh_148 : decode cX12_weigh 148 = .ok (.iinc 7 1, 3) := by decide +kernel
theorem dX12_weigh_151 : decode cX12_weigh 151 = .ok (.goto (-39), 3) := by decide +kernel
theorem dX12_weigh_154 : decode cX12_weigh 154 = .ok (.return_, 1) := by decide +kernel
def f_Md_weigh_L112 : Nat → Int32 → (Nat → Nat → Int32) → (Nat → Nat → Int64) → Option ((Nat → Nat → Int32) × (Nat → Nat → Int64))
  | 0, _, _, _ => none
  | n + 1, l7, I, L => (if (6 : Int32) ≤ l7 then (some (I, L)) else (if (I 34 59) ≤ (irem l7 (3 : Int32)) then (if (0 ≤ l7 ∧ l7 < (6 : Int32)) then (f_Md_weigh_L112 n (l7 + (1 : Int32)) (uI I 63 (l7.toNatClampNeg) (0 : Int32)) L) else none) else (if (0 ≤ l7 ∧ l7 < (6 : Int32)) then (bnd (I 62 (l7.toNatClampNeg)) fun x9 => (if (0 ≤ l7 ∧ l7 < (6 : Int32)) then (f_Md_weigh_L112 n (l7 + (1 : Int32)) (uI I 63 (l7.toNatClampNeg) x9) L) else none)) else none)))
set_option maxRecDepth 100000 in
set_option maxHeartbeats 4000000 in
theorem x_Md_weigh_L112 {G : xG} {S : List xSh} {Rf : Nat → Nat → Option Nat} (hT : xTM S Rf) : ∀ (n : Nat) {l7 : Int32} {I : Nat → Nat → Int32} {L : Nat → Nat → Int64} {q : ((Nat → Nat → Int32) × (Nat → Nat → Int64))}, f_Md_weigh_L112 n l7 I L = some q → X G 1 m_Md_weigh 112 [(0, .ref (xP G 34)), (7, .int l7)] [] (S, I, L, Rf) (none, (S, q.1, q.2, Rf)) := by
  intro n
  induction n with
  | zero =>
    intro l7 I L q hf
    exact absurd (show none = some q from hf) (by simp)
  | succ n ih =>
    intro l7 I L q hf
    replace hf := (f_Md_weigh_L112.eq_2 _ _ _ _).symm.trans hf
    refine X_iload (pc := 112) 1 dX12_weigh_112 rfl ?_
    refine X_bipush (pc := 114) (6 : Int32) dX12_weigh_114 (by decide) ?_
    by_cases c5 : (6 : Int32) ≤ l7
    · replace hf := (if_pos c5).symm.trans hf
      refine X_icmp_ge_t (pc := 116) 154 dX12_weigh_116 (by decide) c5 ?_
      cases hf
      exact X_return (pc := 154) rfl dX12_weigh_154
    · replace hf := (if_neg c5).symm.trans hf
      refine X_icmp_ge_f (pc := 116) 154 dX12_weigh_116 (by decide) c5 ?_
      refine X_aload_n (pc := 119) (i := 0) 0 dX12_weigh_119 rfl rfl ?_
      refine X_getr (pc := 120) (a := 34) (ci := 11) (j := 64) (c := 63) (sh_34 hT) (by decide) k_1292 (rf_34_64 hT) (fun _ h => h) dX12_weigh_120 ?_
      refine X_iload (pc := 123) 1 dX12_weigh_123 rfl ?_
      refine X_iload (pc := 125) 1 dX12_weigh_125 rfl ?_
      refine X_iconst (pc := 127) (3 : Int32) dX12_weigh_127 (by decide) ?_
      refine X_irem (pc := 128) dX12_weigh_128 (by decide) ?_
      refine X_aload_n (pc := 129) (i := 0) 0 dX12_weigh_129 rfl rfl ?_
      refine X_get (pc := 130) (a := 34) (ci := 11) (j := 59) (.int (I 34 59)) (sh_34 hT) (by decide) k_1287 rfl dX12_weigh_130 ?_
      by_cases c6 : (I 34 59) ≤ (irem l7 (3 : Int32))
      · replace hf := (if_pos c6).symm.trans hf
        refine X_icmp_ge_t (pc := 133) 146 dX12_weigh_133 (by decide) c6 ?_
        refine X_iconst (pc := 146) (0 : Int32) dX12_weigh_146 (by decide) ?_
        obtain ⟨c7, hf⟩ := gd_some hf
        refine X_iastj (pc := 147) (j := (l7.toNatClampNeg)) (sh_63 hT) (vp_in_lit (N := 6) c7 (by decide)) rfl dX12_weigh_147 ?_
        refine X_iinc (pc := 148) (i := 7) (q := 1) (v := (l7 + (1 : Int32))) [(7, .int (l7 + (1 : Int32))), (0, .ref (xP G 34))] dX12_weigh_148 rfl rfl (by decide) rfl ?_
        refine X_goto (pc := 151) 112 dX12_weigh_151 (by decide) ?_
        exact X_lvs [1, 0] rfl (ih hf)
      · replace hf := (if_neg c6).symm.trans hf
        refine X_icmp_ge_f (pc := 133) 146 dX12_weigh_133 (by decide) c6 ?_
        refine X_aload_n (pc := 136) (i := 0) 0 dX12_weigh_136 rfl rfl ?_
        refine X_getr (pc := 137) (a := 34) (ci := 11) (j := 60) (c := 62) (sh_34 hT) (by decide) k_1288 (rf_34_60 hT) (fun _ h => h) dX12_weigh_137 ?_
        refine X_iload (pc := 140) 1 dX12_weigh_140 rfl ?_
        obtain ⟨c8, hf⟩ := gd_some hf
        refine X_ialdj (pc := 142) (j := l7.toNatClampNeg) (I 62 (l7.toNatClampNeg)) (sh_62 hT) (vp_in_lit (N := 6) c8 (by decide)) rfl rfl dX12_weigh_142 ?_
        refine X_goto (pc := 143) 147 dX12_weigh_143 (by decide) ?_
        obtain ⟨x9, ex9, hf⟩ := bnd_e hf
        refine X_tope ex9 ?_
        obtain ⟨c10, hf⟩ := gd_some hf
        refine X_iastj (pc := 147) (j := (l7.toNatClampNeg)) (sh_63 hT) (vp_in_lit (N := 6) c10 (by decide)) rfl dX12_weigh_147 ?_
        refine X_iinc (pc := 148) (i := 7) (q := 1) (v := (l7 + (1 : Int32))) [(7, .int (l7 + (1 : Int32))), (0, .ref (xP G 34))] dX12_weigh_148 rfl rfl (by decide) rfl ?_
        refine X_goto (pc := 151) 112 dX12_weigh_151 (by decide) ?_
        exact X_lvs [1, 0] rfl (ih hf)
theorem u_Md_weigh_L112 {S : List xSh} : ∀ (n : Nat) {l7 : Int32} {I : Nat → Nat → Int32} {L : Nat → Nat → Int64} {q : ((Nat → Nat → Int32) × (Nat → Nat → Int64))}, f_Md_weigh_L112 n l7 I L = some q → FR S [63, 4463] [4465, 4466] I q.1 L q.2 := by
  intro n
  induction n with
  | zero =>
    intro l7 I L q hf
    exact absurd (show none = some q from hf) (by simp)
  | succ n ih =>
    intro l7 I L q hf
    replace hf := (f_Md_weigh_L112.eq_2 _ _ _ _).symm.trans hf
    by_cases c5 : (6 : Int32) ≤ l7
    · replace hf := (if_pos c5).symm.trans hf
      cases hf
      exact FR.rf
    · replace hf := (if_neg c5).symm.trans hf
      by_cases c6 : (I 34 59) ≤ (irem l7 (3 : Int32))
      · replace hf := (if_pos c6).symm.trans hf
        obtain ⟨c7, hf⟩ := gd_some hf
        exact FR.tr (FR.ai FR.rf (by decide)) (ih hf) (by decide) (by decide)
      · replace hf := (if_neg c6).symm.trans hf
        obtain ⟨c8, hf⟩ := gd_some hf
        obtain ⟨x9, ex9, hf⟩ := bnd_e hf
        obtain ⟨c10, hf⟩ := gd_some hf
        exact FR.tr (FR.ai FR.rf (by decide)) (ih hf) (by decide) (by decide)
def f_Md_weigh_L90 (l3 : Int64) (l5 : Int64) (I : (Nat → Nat → Int32)) (L : (Nat → Nat → Int64)) : Option ((Nat → Nat → Int32) × (Nat → Nat → Int64)) := (bnd (I 34 59) fun x4 => (f_Md_weigh_L112 xF (0 : Int32) (uI I 34 63 x4) (uL (uL L 34 65 l5) 34 66 l3)))
set_option maxRecDepth 100000 in
set_option maxHeartbeats 4000000 in
theorem x_Md_weigh_L90 {G : xG} {S : List xSh} {Rf : Nat → Nat → Option Nat} (hT : xTM S Rf) {l3 : Int64} {l5 : Int64} {I : Nat → Nat → Int32} {L : Nat → Nat → Int64} {q : ((Nat → Nat → Int32) × (Nat → Nat → Int64))} (hf : f_Md_weigh_L90 l3 l5 I L = some q) : X G 1 m_Md_weigh 90 [(0, .ref (xP G 34)), (3, .long l3), (5, .long l5)] [] (S, I, L, Rf) (none, (S, q.1, q.2, Rf)) := by
  replace hf := (f_Md_weigh_L90.eq_1 _ _ _ _).symm.trans hf
  refine X_aload_n (pc := 90) (i := 0) 0 dX12_weigh_90 rfl rfl ?_
  refine X_aload_n (pc := 91) (i := 0) 0 dX12_weigh_91 rfl rfl ?_
  refine X_get (pc := 92) (a := 34) (ci := 11) (j := 59) (.int (I 34 59)) (sh_34 hT) (by decide) k_1287 rfl dX12_weigh_92 ?_
  obtain ⟨x4, ex4, hf⟩ := bnd_e hf
  refine X_tope ex4 ?_
  refine X_puti (pc := 95) (a := 34) (ci := 11) (j := 63) 63 rfl false (sh_34 hT) (by decide) k_1291 rfl (fun h => by cases h) rfl dX12_weigh_95 ?_
  refine X_aload_n (pc := 98) (i := 0) 0 dX12_weigh_98 rfl rfl ?_
  refine X_lload (pc := 99) 2 dX12_weigh_99 rfl ?_
  refine X_putl (pc := 101) (a := 34) (ci := 11) (j := 65) 65 rfl false (sh_34 hT) (by decide) k_1293 rfl (fun h => by cases h) rfl dX12_weigh_101 ?_
  refine X_aload_n (pc := 104) (i := 0) 0 dX12_weigh_104 rfl rfl ?_
  refine X_lload_n (pc := 105) (i := 3) 1 dX12_weigh_105 rfl rfl ?_
  refine X_putl (pc := 106) (a := 34) (ci := 11) (j := 66) 66 rfl false (sh_34 hT) (by decide) k_1294 rfl (fun h => by cases h) rfl dX12_weigh_106 ?_
  refine X_iconst (pc := 109) (0 : Int32) dX12_weigh_109 (by decide) ?_
  refine X_istore (pc := 110) [(7, .int (0 : Int32)), (0, .ref (xP G 34)), (3, .long l3), (5, .long l5)] dX12_weigh_110 (by decide) rfl ?_
  exact X_lvs [1, 0] rfl (x_Md_weigh_L112 hT xF hf)
theorem u_Md_weigh_L90 {S : List xSh} {l3 : Int64} {l5 : Int64} {I : Nat → Nat → Int32} {L : Nat → Nat → Int64} {q : ((Nat → Nat → Int32) × (Nat → Nat → Int64))} (hf : f_Md_weigh_L90 l3 l5 I L = some q) : FR S [63, 4463] [4465, 4466] I q.1 L q.2 := by
  replace hf := (f_Md_weigh_L90.eq_1 _ _ _ _).symm.trans hf
  obtain ⟨x4, ex4, hf⟩ := bnd_e hf
  exact FR.tr (FR.fl (FR.fl (FR.fi FR.rf (by decide)) (by decide)) (by decide)) (u_Md_weigh_L112 xF hf) (by decide) (by decide)
def f_Md_weigh_L7 : Nat → Int64 → Int64 → Int32 → (Nat → Nat → Int32) → (Nat → Nat → Int64) → Option ((Nat → Nat → Int32) × (Nat → Nat → Int64))
  | 0, _, _, _, _, _ => none
  | n + 1, l1, l3, l5, I, L => (if (I 34 59) ≤ l5 then (bnd (Jabs ((l1 * (Int32.toInt64 (I 34 62))) - (l3 * (Int32.toInt64 (I 34 61))))) fun x2 => (if (I 34 63) = (0 : Int32) then (f_Md_weigh_L90 l3 x2 I L) else (if ((L 34 65) * l3) ≤ (x2 * (L 34 66)) then (some (I, L)) else (f_Md_weigh_L90 l3 x2 I L)))) else (if (0 ≤ l5 ∧ l5 < (6 : Int32)) then (bnd (l1 * (Int32.toInt64 (I 62 (l5.toNatClampNeg)))) fun x13 => (if (0 ≤ ((3 : Int32) + l5) ∧ ((3 : Int32) + l5) < (6 : Int32)) then (bnd (l3 * (Int32.toInt64 (I 62 (((3 : Int32) + l5).toNatClampNeg)))) fun x15 => (f_Md_weigh_L7 n x13 x15 (l5 + (1 : Int32)) I L)) else none)) else none))
set_option maxRecDepth 100000 in
set_option maxHeartbeats 4000000 in
theorem x_Md_weigh_L7 {G : xG} {S : List xSh} {Rf : Nat → Nat → Option Nat} (hT : xTM S Rf) : ∀ (n : Nat) {l1 : Int64} {l3 : Int64} {l5 : Int32} {I : Nat → Nat → Int32} {L : Nat → Nat → Int64} {q : ((Nat → Nat → Int32) × (Nat → Nat → Int64))}, f_Md_weigh_L7 n l1 l3 l5 I L = some q → X G 1 m_Md_weigh 7 [(0, .ref (xP G 34)), (1, .long l1), (3, .long l3), (5, .int l5)] [] (S, I, L, Rf) (none, (S, q.1, q.2, Rf)) := by
  intro n
  induction n with
  | zero =>
    intro l1 l3 l5 I L q hf
    exact absurd (show none = some q from hf) (by simp)
  | succ n ih =>
    intro l1 l3 l5 I L q hf
    replace hf := (f_Md_weigh_L7.eq_2 _ _ _ _ _ _).symm.trans hf
    refine X_iload (pc := 7) 3 dX12_weigh_7 rfl ?_
    refine X_aload_n (pc := 9) (i := 0) 0 dX12_weigh_9 rfl rfl ?_
    refine X_get (pc := 10) (a := 34) (ci := 11) (j := 59) (.int (I 34 59)) (sh_34 hT) (by decide) k_1287 rfl dX12_weigh_10 ?_
    by_cases c1 : (I 34 59) ≤ l5
    · replace hf := (if_pos c1).symm.trans hf
      refine X_icmp_ge_t (pc := 13) 46 dX12_weigh_13 (by decide) c1 ?_
      refine X_lload_n (pc := 46) (i := 1) 1 dX12_weigh_46 rfl rfl ?_
      refine X_aload_n (pc := 47) (i := 0) 0 dX12_weigh_47 rfl rfl ?_
      refine X_get (pc := 48) (a := 34) (ci := 11) (j := 62) (.int (I 34 62)) (sh_34 hT) (by decide) k_1290 rfl dX12_weigh_48 ?_
      refine X_i2l (pc := 51) dX12_weigh_51 ?_
      refine X_lmul (pc := 52) dX12_weigh_52 ?_
      refine X_lload_n (pc := 53) (i := 3) 2 dX12_weigh_53 rfl rfl ?_
      refine X_aload_n (pc := 54) (i := 0) 0 dX12_weigh_54 rfl rfl ?_
      refine X_get (pc := 55) (a := 34) (ci := 11) (j := 61) (.int (I 34 61)) (sh_34 hT) (by decide) k_1289 rfl dX12_weigh_55 ?_
      refine X_i2l (pc := 58) dX12_weigh_58 ?_
      refine X_lmul (pc := 59) dX12_weigh_59 ?_
      refine X_lsub (pc := 60) dX12_weigh_60 ?_
      refine X_Jabs (pc := 61) k_1568 (by decide) (Nat.le_of_ble_eq_true rfl) dX12_weigh_61 ?_
      obtain ⟨x2, ex2, hf⟩ := bnd_e hf
      refine X_tople ex2 ?_
      refine X_lstore (pc := 64) [(5, .long x2), (0, .ref (xP G 34)), (1, .long l1), (3, .long l3)] dX12_weigh_64 (by decide) rfl ?_
      refine X_aload_n (pc := 66) (i := 0) 1 dX12_weigh_66 rfl rfl ?_
      refine X_get (pc := 67) (a := 34) (ci := 11) (j := 63) (.int (I 34 63)) (sh_34 hT) (by decide) k_1291 rfl dX12_weigh_67 ?_
      by_cases c3 : (I 34 63) = (0 : Int32)
      · replace hf := (if_pos c3).symm.trans hf
        refine X_if_eq_t (pc := 70) 90 dX12_weigh_70 (by decide) c3 ?_
        exact X_lvs [1, 3, 0] rfl (x_Md_weigh_L90 hT hf)
      · replace hf := (if_neg c3).symm.trans hf
        refine X_if_eq_f (pc := 70) 90 dX12_weigh_70 (by decide) c3 ?_
        refine X_lload (pc := 73) 0 dX12_weigh_73 rfl ?_
        refine X_aload_n (pc := 75) (i := 0) 1 dX12_weigh_75 rfl rfl ?_
        refine X_get (pc := 76) (a := 34) (ci := 11) (j := 66) (.long (L 34 66)) (sh_34 hT) (by decide) k_1294 rfl dX12_weigh_76 ?_
        refine X_lmul (pc := 79) dX12_weigh_79 ?_
        refine X_aload_n (pc := 80) (i := 0) 1 dX12_weigh_80 rfl rfl ?_
        refine X_get (pc := 81) (a := 34) (ci := 11) (j := 65) (.long (L 34 65)) (sh_34 hT) (by decide) k_1293 rfl dX12_weigh_81 ?_
        refine X_lload_n (pc := 84) (i := 3) 3 dX12_weigh_84 rfl rfl ?_
        refine X_lmul (pc := 85) dX12_weigh_85 ?_
        refine X_lcmp (pc := 86) dX12_weigh_86 ?_
        by_cases c11 : ((L 34 65) * l3) ≤ (x2 * (L 34 66))
        · replace hf := (if_pos c11).symm.trans hf
          refine X_if_ge_t (pc := 87) 154 dX12_weigh_87 (by decide) ((lg_cmp_ge _ _).mpr c11) ?_
          cases hf
          exact X_return (pc := 154) rfl dX12_weigh_154
        · replace hf := (if_neg c11).symm.trans hf
          refine X_if_ge_f (pc := 87) 154 dX12_weigh_87 (by decide) (fun h => c11 ((lg_cmp_ge _ _).mp h)) ?_
          exact X_lvs [1, 3, 0] rfl (x_Md_weigh_L90 hT hf)
    · replace hf := (if_neg c1).symm.trans hf
      refine X_icmp_ge_f (pc := 13) 46 dX12_weigh_13 (by decide) c1 ?_
      refine X_lload_n (pc := 16) (i := 1) 1 dX12_weigh_16 rfl rfl ?_
      refine X_aload_n (pc := 17) (i := 0) 0 dX12_weigh_17 rfl rfl ?_
      refine X_getr (pc := 18) (a := 34) (ci := 11) (j := 60) (c := 62) (sh_34 hT) (by decide) k_1288 (rf_34_60 hT) (fun _ h => h) dX12_weigh_18 ?_
      refine X_iload (pc := 21) 3 dX12_weigh_21 rfl ?_
      obtain ⟨c12, hf⟩ := gd_some hf
      refine X_ialdj (pc := 23) (j := l5.toNatClampNeg) (I 62 (l5.toNatClampNeg)) (sh_62 hT) (vp_in_lit (N := 6) c12 (by decide)) rfl rfl dX12_weigh_23 ?_
      refine X_i2l (pc := 24) dX12_weigh_24 ?_
      refine X_lmul (pc := 25) dX12_weigh_25 ?_
      obtain ⟨x13, ex13, hf⟩ := bnd_e hf
      refine X_tople ex13 ?_
      refine X_lstore_n (pc := 26) (i := 1) [(1, .long x13), (0, .ref (xP G 34)), (3, .long l3), (5, .int l5)] dX12_weigh_26 rfl (by decide) rfl ?_
      refine X_lload_n (pc := 27) (i := 3) 2 dX12_weigh_27 rfl rfl ?_
      refine X_aload_n (pc := 28) (i := 0) 1 dX12_weigh_28 rfl rfl ?_
      refine X_getr (pc := 29) (a := 34) (ci := 11) (j := 60) (c := 62) (sh_34 hT) (by decide) k_1288 (rf_34_60 hT) (fun _ h => h) dX12_weigh_29 ?_
      refine X_iconst (pc := 32) (3 : Int32) dX12_weigh_32 (by decide) ?_
      refine X_iload (pc := 33) 3 dX12_weigh_33 rfl ?_
      refine X_iadd (pc := 35) dX12_weigh_35 ?_
      obtain ⟨c14, hf⟩ := gd_some hf
      refine X_ialdj (pc := 36) (j := ((3 : Int32) + l5).toNatClampNeg) (I 62 (((3 : Int32) + l5).toNatClampNeg)) (sh_62 hT) (vp_in_lit (N := 6) c14 (by decide)) rfl rfl dX12_weigh_36 ?_
      refine X_i2l (pc := 37) dX12_weigh_37 ?_
      refine X_lmul (pc := 38) dX12_weigh_38 ?_
      obtain ⟨x15, ex15, hf⟩ := bnd_e hf
      refine X_tople ex15 ?_
      refine X_lstore_n (pc := 39) (i := 3) [(3, .long x15), (1, .long x13), (0, .ref (xP G 34)), (5, .int l5)] dX12_weigh_39 rfl (by decide) rfl ?_
      refine X_iinc (pc := 40) (i := 5) (q := 3) (v := (l5 + (1 : Int32))) [(5, .int (l5 + (1 : Int32))), (3, .long x15), (1, .long x13), (0, .ref (xP G 34))] dX12_weigh_40 rfl rfl (by decide) rfl ?_
      refine X_goto (pc := 43) 7 dX12_weigh_43 (by decide) ?_
      exact X_lvs [3, 2, 1, 0] rfl (ih hf)
theorem u_Md_weigh_L7 {S : List xSh} : ∀ (n : Nat) {l1 : Int64} {l3 : Int64} {l5 : Int32} {I : Nat → Nat → Int32} {L : Nat → Nat → Int64} {q : ((Nat → Nat → Int32) × (Nat → Nat → Int64))}, f_Md_weigh_L7 n l1 l3 l5 I L = some q → FR S [63, 4463] [4465, 4466] I q.1 L q.2 := by
  intro n
  induction n with
  | zero =>
    intro l1 l3 l5 I L q hf
    exact absurd (show none = some q from hf) (by simp)
  | succ n ih =>
    intro l1 l3 l5 I L q hf
    replace hf := (f_Md_weigh_L7.eq_2 _ _ _ _ _ _).symm.trans hf
    by_cases c1 : (I 34 59) ≤ l5
    · replace hf := (if_pos c1).symm.trans hf
      obtain ⟨x2, ex2, hf⟩ := bnd_e hf
      by_cases c3 : (I 34 63) = (0 : Int32)
      · replace hf := (if_pos c3).symm.trans hf
        exact FR.tr FR.rf (u_Md_weigh_L90 hf) (by decide) (by decide)
      · replace hf := (if_neg c3).symm.trans hf
        by_cases c11 : ((L 34 65) * l3) ≤ (x2 * (L 34 66))
        · replace hf := (if_pos c11).symm.trans hf
          cases hf
          exact FR.rf
        · replace hf := (if_neg c11).symm.trans hf
          exact FR.tr FR.rf (u_Md_weigh_L90 hf) (by decide) (by decide)
    · replace hf := (if_neg c1).symm.trans hf
      obtain ⟨c12, hf⟩ := gd_some hf
      obtain ⟨x13, ex13, hf⟩ := bnd_e hf
      obtain ⟨c14, hf⟩ := gd_some hf
      obtain ⟨x15, ex15, hf⟩ := bnd_e hf
      exact FR.tr FR.rf (ih hf) (by decide) (by decide)
def f_Md_weigh (I : Nat → Nat → Int32) (L : Nat → Nat → Int64) : Option ((Nat → Nat → Int32) × (Nat → Nat → Int64)) := (f_Md_weigh_L7 xF (1 : Int64) (1 : Int64) (0 : Int32) I L)
set_option maxRecDepth 100000 in
set_option maxHeartbeats 4000000 in
theorem c_Md_weigh {G : xG} {S : List xSh} {Rf : Nat → Nat → Option Nat} (hT : xTM S Rf) {I : Nat → Nat → Int32} {L : Nat → Nat → Int64} {q : ((Nat → Nat → Int32) × (Nat → Nat → Int64))} (hf : f_Md_weigh I L = some q) : CT G 1 m_Md_weigh [.ref (xP G 34)] (S, I, L, Rf) (none, (S, q.1, q.2, Rf)) := by
  refine CT.of (by decide +kernel) (Nat.le_of_ble_eq_true rfl) ?_
  show X G 1 m_Md_weigh 0 [(0, .ref (xP G 34))] [] (S, I, L, Rf) (none, (S, q.1, q.2, Rf))
  replace hf := (f_Md_weigh.eq_1 _ _).symm.trans hf
  refine X_lconst (pc := 0) (1 : Int64) dX12_weigh_0 (by decide) ?_
  refine X_lstore_n (pc := 1) (i := 1) [(1, .long (1 : Int64)), (0, .ref (xP G 34))] dX12_weigh_1 rfl (by decide) rfl ?_
  refine X_lconst (pc := 2) (1 : Int64) dX12_weigh_2 (by decide) ?_
  refine X_lstore_n (pc := 3) (i := 3) [(3, .long (1 : Int64)), (1, .long (1 : Int64)), (0, .ref (xP G 34))] dX12_weigh_3 rfl (by decide) rfl ?_
  refine X_iconst (pc := 4) (0 : Int32) dX12_weigh_4 (by decide) ?_
  refine X_istore (pc := 5) [(5, .int (0 : Int32)), (3, .long (1 : Int64)), (1, .long (1 : Int64)), (0, .ref (xP G 34))] dX12_weigh_5 (by decide) rfl ?_
  exact X_lvs [3, 2, 1, 0] rfl (x_Md_weigh_L7 hT xF hf)
theorem u_Md_weigh {S : List xSh} {I : Nat → Nat → Int32} {L : Nat → Nat → Int64} {q : ((Nat → Nat → Int32) × (Nat → Nat → Int64))} (hf : f_Md_weigh I L = some q) : FR S [63, 4463] [4465, 4466] I q.1 L q.2 := by
  replace hf := (f_Md_weigh.eq_1 _ _).symm.trans hf
  exact FR.tr FR.rf (u_Md_weigh_L7 xF hf) (by decide) (by decide)

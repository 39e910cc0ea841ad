theorem dX12_arborOf_0 : decode cX12_arborOf 0 = .ok (.iload_n 2, 1) := by decide +kernel
theorem dX12_arborOf_1 : decode cX12_arborOf 1 = .ok (.ifCond .ne 12, 3) := by decide +kernel
theorem dX12_arborOf_4 : decode cX12_arborOf 4 = .ok (.aload_n 0, 1) := by decide +kernel
theorem dX12_arborOf_5 : decode cX12_arborOf 5 = .ok (.getfield 13, 3) := by decide +kernel
theorem dX12_arborOf_8 : decode cX12_arborOf 8 = .ok (.iload_n 1, 1) := by decide +kernel
theorem dX12_arborOf_9 : decode cX12_arborOf 9 = .ok (.iaload, 1) := by decide +kernel
theorem dX12_arborOf_10 : decode cX12_arborOf 10 = .ok (.goto 23, 3) := by decide +kernel
theorem dX12_arborOf_13 : decode cX12_arborOf 13 = .ok (.iload_n 2, 1) := by decide +kernel
theorem dX12_arborOf_14 : decode cX12_arborOf 14 = .ok (.iconst 1, 1) := by decide +kernel
theorem dX12_arborOf_15 : decode cX12_arborOf 15 = .ok (.if_icmp .ne 12, 3) := by decide +kernel
theorem dX12_arborOf_18 : decode cX12_arborOf 18 = .ok (.aload_n 0, 1) := by decide +kernel
theorem dX12_arborOf_19 : decode cX12_arborOf 19 = .ok (.getfield 16, 3) := by decide +kernel
theorem dX12_arborOf_22 : decode cX12_arborOf 22 = .ok (.iload_n 1, 1) := by decide +kernel
theorem dX12_arborOf_23 : decode cX12_arborOf 23 = .ok (.iaload, 1) := by decide +kernel
theorem dX12_arborOf_24 : decode cX12_arborOf 24 = .ok (.goto 9, 3) := by decide +kernel
theorem dX12_arborOf_27 : decode cX12_arborOf 27 = .ok (.aload_n 0, 1) := by decide +kernel
theorem dX12_arborOf_28 : decode cX12_arborOf 28 = .ok (.getfield 19, 3) := by decide +kernel
theorem dX12_arborOf_31 : decode cX12_arborOf 31 = .ok (.iload_n 1, 1) := by decide +kernel
theorem dX12_arborOf_32 : decode cX12_arborOf 32 = .ok (.iaload, 1) := by decide +kernel
theorem dX12_arborOf_33 : decode cX12_arborOf 33 = .ok (.ireturn, 1) := by decide +kernel
def f_Md_arborOf (a0 : Int32) (a1 : Int32) (I : Nat → Nat → Int32) (L : Nat → Nat → Int64) : Option Int32 := (if a1 = (0 : Int32) then (if (0 ≤ a0 ∧ a0 < (40 : Int32)) then (some (I 36 (a0.toNatClampNeg))) else none) else (if a1 = (1 : Int32) then (if (0 ≤ a0 ∧ a0 < (40 : Int32)) then (some (I 37 (a0.toNatClampNeg))) else none) else (if (0 ≤ a0 ∧ a0 < (40 : Int32)) then (some (I 38 (a0.toNatClampNeg))) else none)))
set_option maxRecDepth 100000 in
set_option maxHeartbeats 4000000 in
theorem c_Md_arborOf {G : xG} {S : List xSh} {Rf : Nat → Nat → Option Nat} (hT : xTM S Rf) {a0 : Int32} {a1 : Int32} {I : Nat → Nat → Int32} {L : Nat → Nat → Int64} {q : Int32} (hf : f_Md_arborOf a0 a1 I L = some q) : CT G 1 m_Md_arborOf [.ref (xP G 34), .int a0, .int a1] (S, I, L, Rf) (some (.int q), (S, I, L, Rf)) := by
  refine CT.of (by decide +kernel) (Nat.le_of_ble_eq_true rfl) ?_
  show X G 1 m_Md_arborOf 0 [(0, .ref (xP G 34)), (1, .int a0), (2, .int a1)] [] (S, I, L, Rf) (some (.int q), (S, I, L, Rf))
  replace hf := (f_Md_arborOf.eq_1 _ _ _ _).symm.trans hf
  refine X_iload_n (pc := 0) (i := 2) 2 dX12_arborOf_0 rfl rfl ?_
  by_cases c1 : a1 = (0 : Int32)
  · replace hf := (if_pos c1).symm.trans hf
    refine X_if_ne_f (pc := 1) 13 dX12_arborOf_1 (by decide) c1 ?_
    refine X_aload_n (pc := 4) (i := 0) 0 dX12_arborOf_4 rfl rfl ?_
    refine X_getr (pc := 5) (a := 34) (ci := 11) (j := 3) (c := 36) (sh_34 hT) (by decide) k_1231 (rf_34_3 hT) (fun _ h => h) dX12_arborOf_5 ?_
    refine X_iload_n (pc := 8) (i := 1) 1 dX12_arborOf_8 rfl rfl ?_
    obtain ⟨c2, hf⟩ := gd_some hf
    refine X_ialdj (pc := 9) (j := a0.toNatClampNeg) (I 36 (a0.toNatClampNeg)) (sh_36 hT) (vp_in_lit (N := 40) c2 (by decide)) rfl rfl dX12_arborOf_9 ?_
    refine X_goto (pc := 10) 33 dX12_arborOf_10 (by decide) ?_
    cases hf
    exact X_ireturn (pc := 33) rfl dX12_arborOf_33
  · replace hf := (if_neg c1).symm.trans hf
    refine X_if_ne_t (pc := 1) 13 dX12_arborOf_1 (by decide) c1 ?_
    refine X_iload_n (pc := 13) (i := 2) 2 dX12_arborOf_13 rfl rfl ?_
    refine X_iconst (pc := 14) (1 : Int32) dX12_arborOf_14 (by decide) ?_
    by_cases c3 : a1 = (1 : Int32)
    · replace hf := (if_pos c3).symm.trans hf
      refine X_icmp_ne_f (pc := 15) 27 dX12_arborOf_15 (by decide) c3 ?_
      refine X_aload_n (pc := 18) (i := 0) 0 dX12_arborOf_18 rfl rfl ?_
      refine X_getr (pc := 19) (a := 34) (ci := 11) (j := 4) (c := 37) (sh_34 hT) (by decide) k_1232 (rf_34_4 hT) (fun _ h => h) dX12_arborOf_19 ?_
      refine X_iload_n (pc := 22) (i := 1) 1 dX12_arborOf_22 rfl rfl ?_
      obtain ⟨c4, hf⟩ := gd_some hf
      refine X_ialdj (pc := 23) (j := a0.toNatClampNeg) (I 37 (a0.toNatClampNeg)) (sh_37 hT) (vp_in_lit (N := 40) c4 (by decide)) rfl rfl dX12_arborOf_23 ?_
      refine X_goto (pc := 24) 33 dX12_arborOf_24 (by decide) ?_
      cases hf
      exact X_ireturn (pc := 33) rfl dX12_arborOf_33
    · replace hf := (if_neg c3).symm.trans hf
      refine X_icmp_ne_t (pc := 15) 27 dX12_arborOf_15 (by decide) c3 ?_
      refine X_aload_n (pc := 27) (i := 0) 0 dX12_arborOf_27 rfl rfl ?_
      refine X_getr (pc := 28) (a := 34) (ci := 11) (j := 5) (c := 38) (sh_34 hT) (by decide) k_1233 (rf_34_5 hT) (fun _ h => h) dX12_arborOf_28 ?_
      refine X_iload_n (pc := 31) (i := 1) 1 dX12_arborOf_31 rfl rfl ?_
      obtain ⟨c5, hf⟩ := gd_some hf
      refine X_ialdj (pc := 32) (j := a0.toNatClampNeg) (I 38 (a0.toNatClampNeg)) (sh_38 hT) (vp_in_lit (N := 40) c5 (by decide)) rfl rfl dX12_arborOf_32 ?_
      cases hf
      exact X_ireturn (pc := 33) rfl dX12_arborOf_33
theorem dX12_speeds_0 : decode cX12_speeds 0 = .ok (.iconst 0, 1) := by decide +kernel
theorem dX12_speeds_1 : decode cX12_speeds 1 = .ok (.istore_n 1, 1) := by decide +kernel
theorem dX12_speeds_2 : decode cX12_speeds 2 = .ok (.iload_n 1, 1) := by decide +kernel
theorem dX12_speeds_3 : decode cX12_speeds 3 = .ok (.aload_n 0, 1) := by decide +kernel
theorem dX12_speeds_4 : decode cX12_speeds 4 = .ok (.getfield 136, 3) := by decide +kernel
theorem dX12_speeds_7 : decode cX12_speeds 7 = .ok (.if_icmp .ge 42, 3) := by decide +kernel
theorem dX12_speeds_10 : decode cX12_speeds 10 = .ok (.aload_n 0, 1) := by decide +kernel
theorem dX12_speeds_11 : decode cX12_speeds 11 = .ok (.getfield 77, 3) := by decide +kernel
theorem dX12_speeds_14 : decode cX12_speeds 14 = .ok (.iload_n 1, 1) := by decide +kernel
theorem dX12_speeds_15 : decode cX12_speeds 15 = .ok (.iload_n 1, 1) := by decide +kernel
theorem dX12_speeds_16 : decode cX12_speeds 16 = .ok (.aload_n 0, 1) := by decide +kernel
theorem dX12_speeds_17 : decode cX12_speeds 17 = .ok (.getfield 150, 3) := by decide +kernel
theorem dX12_speeds_20 : decode cX12_speeds 20 = .ok (.if_icmp .ne 7, 3) := by decide +kernel
theorem dX12_speeds_23 : decode cX12_speeds 23 = .ok (.iconst 1, 1) := by decide +kernel
theorem dX12_speeds_24 : decode cX12_speeds 24 = .ok (.goto 4, 3) := by decide +kernel
theorem dX12_speeds_27 : decode cX12_speeds 27 = .ok (.iconst 0, 1) := by decide +kernel
theorem dX12_speeds_28 : decode cX12_speeds 28 = .ok (.bastore, 1) := by decide +kernel
theorem dX12_speeds_29 : decode cX12_speeds 29 = .ok (.aload_n 0, 1) := by decide +kernel
theorem dX12_speeds_30 : decode cX12_speeds 30 = .ok (.getfield 80, 3) := by decide +kernel
theorem dX12_speeds_33 : decode cX12_speeds 33 = .ok (.iload_n 1, 1) := by decide +kernel
theorem dX12_speeds_34 : decode cX12_speeds 34 = .ok (.lconst 1, 1) := by decide +kernel
theorem dX12_speeds_35 : decode cX12_speeds 35 = .ok (.lastore, 1) := by decide +kernel
theorem dX12_speeds_36 : decode cX12_speeds 36 = .ok (.aload_n 0, 1) := by decide +kernel
theorem dX12_speeds_37 : decode cX12_speeds 37 = .ok (.getfield 84, 3) := by decide +kernel
theorem dX12_speeds_40 : decode cX12_speeds 40 = .ok (.iload_n 1, 1) := by decide +kernel
theorem dX12_speeds_41 : decode cX12_speeds 41 = .ok (.lconst 1, 1) := by decide +kernel
theorem dX12_speeds_42 : decode cX12_speeds 42 = .ok (.lastore, 1) := by decide +kernel
theorem dX12_speeds_43 : decode cX12_speeds 43 = .ok (.iinc 1 1, 3) := by decide +kernel
theorem dX12_speeds_46 : decode cX12_speeds 46 = .ok (.goto (-44), 3) := by decide +kernel
theorem dX12_speeds_49 : decode cX12_speeds 49 = .ok (.iconst 1, 1) := by decide +kernel
theorem dX12_speeds_50 : decode cX12_speeds 50 = .ok (.istore_n 1, 1) := by decide +kernel
theorem dX12_speeds_51 : decode cX12_speeds 51 = .ok (.iload_n 1, 1) := by decide +kernel
theorem dX12_speeds_52 : decode cX12_speeds 52 = .ok (.ifCond .eq 162, 3) := by decide +kernel
theorem dX12_speeds_55 : decode cX12_speeds 55 = .ok (.iconst 0, 1) := by decide +kernel
theorem dX12_speeds_56 : decode cX12_speeds 56 = .ok (.istore_n 1, 1) := by decide +kernel
theorem dX12_speeds_57 : decode cX12_speeds 57 = .ok (.iconst 0, 1) := by decide +kernel
theorem dX12_speeds_58 : decode cX12_speeds 58 = .ok (.istore_n 2, 1) := by decide +kernel
theorem dX12_speeds_59 : decode cX12_speeds 59 = .ok (.iload_n 2, 1) := by decide +kernel
theorem dX12_speeds_60 : decode cX12_speeds 60 = .ok (.aload_n 0, 1) := by decide +kernel
theorem dX12_speeds_61 : decode cX12_speeds 61 = .ok (.getfield 147, 3) := by decide +kernel
theorem dX12_speeds_64 : decode cX12_speeds 64 = .ok (.if_icmp .ge 147, 3) := by decide +kernel
theorem dX12_speeds_67 : decode cX12_speeds 67 = .ok (.aload_n 0, 1) := by decide +kernel
theorem dX12_speeds_68 : decode cX12_speeds 68 = .ok (.getfield 9, 3) := by decide +kernel
theorem dX12_speeds_71 : decode cX12_speeds 71 = .ok (.iload_n 2, 1) := by decide +kernel
theorem dX12_speeds_72 : decode cX12_speeds 72 = .ok (.iaload, 1) := by decide +kernel
theorem dX12_speeds_73 : decode cX12_speeds 73 = .ok (.iconst 2, 1) := by decide +kernel
theorem dX12_speeds_74 : decode cX12_speeds 74 = .ok (.if_icmp .ne 7, 3) := by decide +kernel
theorem dX12_speeds_77 : decode cX12_speeds 77 = .ok (.iconst 3, 1) := by decide +kernel
theorem dX12_speeds_78 : decode cX12_speeds 78 = .ok (.goto 4, 3) := by decide +kernel
theorem dX12_speeds_81 : decode cX12_speeds 81 = .ok (.iconst 2, 1) := by decide +kernel
theorem dX12_speeds_82 : decode cX12_speeds 82 = .ok (.istore_n 3, 1) := by decide +kernel
theorem dX12_speeds_83 : decode cX12_speeds 83 = .ok (.iconst 0, 1) := by decide +kernel
theorem dX12_speeds_84 : decode cX12_speeds 84 = .ok (.istore 4, 2) := by decide +kernel
theorem dX12_speeds_86 : decode cX12_speeds 86 = .ok (.iconst 0, 1) := by decide +kernel
theorem dX12_speeds_87 : decode cX12_speeds 87 = .ok (.istore 5, 2) := by decide +kernel
theorem dX12_speeds_89 : decode cX12_speeds 89 = .ok (.iconst 0, 1) := by decide +kernel
theorem dX12_speeds_90 : decode cX12_speeds 90 = .ok (.istore 6, 2) := by decide +kernel
theorem dX12_speeds_92 : decode cX12_speeds 92 = .ok (.iload 6, 2) := by decide +kernel
theorem dX12_speeds_94 : decode cX12_speeds 94 = .ok (.iload_n 3, 1) := by decide +kernel
theorem dX12_speeds_95 : decode cX12_speeds 95 = .ok (.if_icmp .ge 31, 3) := by decide +kernel
theorem dX12_speeds_98 : decode cX12_speeds 98 = .ok (.aload_n 0, 1) := by decide +kernel
theorem dX12_speeds_99 : decode cX12_speeds 99 = .ok (.getfield 77, 3) := by decide +kernel
theorem dX12_speeds_102 : decode cX12_speeds 102 = .ok (.aload_n 0, 1) := by decide +kernel
theorem dX12_speeds_103 : decode cX12_speeds 103 = .ok (.iload_n 2, 1) := by decide +kernel
theorem dX12_speeds_104 : decode cX12_speeds 104 = .ok (.iload 6, 2) := by decide +kernel
theorem dX12_speeds_106 : decode cX12_speeds 106 = .ok (.invokevirtual 309, 3) := by decide +kernel
theorem dX12_speeds_109 : decode cX12_speeds 109 = .ok (.baload, 1) := by decide +kernel
theorem dX12_speeds_110 : decode cX12_speeds 110 = .ok (.ifCond .ne 10, 3) := by decide +kernel
theorem dX12_speeds_113 : decode cX12_speeds 113 = .ok (.iinc 4 1, 3) := by decide +kernel
theorem dX12_speeds_116 : decode cX12_speeds 116 = .ok (.iload 6, 2) := by decide +kernel
theorem dX12_speeds_118 : decode cX12_speeds 118 = .ok (.istore 5, 2) := by decide +kernel
theorem dX12_speeds_120 : decode cX12_speeds 120 = .ok (.iinc 6 1, 3) := by decide +kernel
theorem dX12_speeds_123 : decode cX12_speeds 123 = .ok (.goto (-31), 3) := by decide +kernel
theorem dX12_speeds_126 : decode cX12_speeds 126 = .ok (.iload 4, 2) := by decide +kernel
theorem dX12_speeds_128 : decode cX12_speeds 128 = .ok (.iconst 1, 1) := by decide +kernel
theorem dX12_speeds_129 : decode cX12_speeds 129 = .ok (.if_icmp .ne 76, 3) := by decide +kernel
theorem dX12_speeds_132 : decode cX12_speeds 132 = .ok (.aload_n 0, 1) := by decide +kernel
theorem dX12_speeds_133 : decode cX12_speeds 133 = .ok (.iload_n 2, 1) := by decide +kernel
theorem dX12_speeds_134 : decode cX12_speeds 134 = .ok (.iload 5, 2) := by decide +kernel
theorem dX12_speeds_136 : decode cX12_speeds 136 = .ok (.invokevirtual 312, 3) := by decide +kernel
theorem dX12_speeds_139 : decode cX12_speeds 139 = .ok (.aload_n 0, 1) := by decide +kernel
theorem dX12_speeds_140 : decode cX12_speeds 140 = .ok (.getfield 297, 3) := by decide +kernel
theorem dX12_speeds_143 : decode cX12_speeds 143 = .ok (.invokestatic 287, 3) := by decide +kernel
theorem dX12_speeds_146 : decode cX12_speeds 146 = .ok (.ldc2_w 247, 3) := by decide +kernel
theorem dX12_speeds_149 : decode cX12_speeds 149 = .ok (.lcmp, 1) := by decide +kernel
theorem dX12_speeds_150 : decode cX12_speeds 150 = .ok (.ifCond .gt 55, 3) := by decide +kernel
theorem dX12_speeds_153 : decode cX12_speeds 153 = .ok (.aload_n 0, 1) := by decide +kernel
theorem dX12_speeds_154 : decode cX12_speeds 154 = .ok (.getfield 300, 3) := by decide +kernel
theorem dX12_speeds_157 : decode cX12_speeds 157 = .ok (.ldc2_w 247, 3) := by decide +kernel
theorem dX12_speeds_160 : decode cX12_speeds 160 = .ok (.lcmp, 1) := by decide +kernel
theorem dX12_speeds_161 : decode cX12_speeds 161 = .ok (.ifCond .gt 44, 3) := by decide +kernel
theorem dX12_speeds_164 : decode cX12_speeds 164 = .ok (.aload_n 0, 1) := by decide +kernel
theorem dX12_speeds_165 : decode cX12_speeds 165 = .ok (.iload_n 2, 1) := by decide +kernel
theorem dX12_speeds_166 : decode cX12_speeds 166 = .ok (.iload 5, 2) := by decide +kernel
theorem dX12_speeds_168 : decode cX12_speeds 168 = .ok (.invokevirtual 309, 3) := by decide +kernel
theorem dX12_speeds_171 : decode cX12_speeds 171 = .ok (.istore 6, 2) := by decide +kernel
theorem dX12_speeds_173 : decode cX12_speeds 173 = .ok (.aload_n 0, 1) := by decide +kernel
theorem dX12_speeds_174 : decode cX12_speeds 174 = .ok (.getfield 77, 3) := by decide +kernel
theorem dX12_speeds_177 : decode cX12_speeds 177 = .ok (.iload 6, 2) := by decide +kernel
theorem dX12_speeds_179 : decode cX12_speeds 179 = .ok (.iconst 1, 1) := by decide +kernel
theorem dX12_speeds_180 : decode cX12_speeds 180 = .ok (.bastore, 1) := by decide +kernel
theorem dX12_speeds_181 : decode cX12_speeds 181 = .ok (.aload_n 0, 1) := by decide +kernel
theorem dX12_speeds_182 : decode cX12_speeds 182 = .ok (.getfield 80, 3) := by decide +kernel
theorem dX12_speeds_185 : decode cX12_speeds 185 = .ok (.iload 6, 2) := by decide +kernel
theorem dX12_speeds_187 : decode cX12_speeds 187 = .ok (.aload_n 0, 1) := by decide +kernel
theorem dX12_speeds_188 : decode cX12_speeds 188 = .ok (.getfield 297, 3) := by decide +kernel
theorem dX12_speeds_191 : decode cX12_speeds 191 = .ok (.lastore, 1) := by decide +kernel
theorem dX12_speeds_192 : decode cX12_speeds 192 = .ok (.aload_n 0, 1) := by decide +kernel
theorem dX12_speeds_193 : decode cX12_speeds 193 = .ok (.getfield 84, 3) := by decide +kernel
theorem dX12_speeds_196 : decode cX12_speeds 196 = .ok (.iload 6, 2) := by decide +kernel
theorem dX12_speeds_198 : decode cX12_speeds 198 = .ok (.aload_n 0, 1) := by decide +kernel
theorem dX12_speeds_199 : decode cX12_speeds 199 = .ok (.getfield 300, 3) := by decide +kernel
theorem dX12_speeds_202 : decode cX12_speeds 202 = .ok (.lastore, 1) := by decide +kernel
theorem dX12_speeds_203 : decode cX12_speeds 203 = .ok (.iconst 1, 1) := by decide +kernel
theorem dX12_speeds_204 : decode cX12_speeds 204 = .ok (.istore_n 1, 1) := by decide +kernel
theorem dX12_speeds_205 : decode cX12_speeds 205 = .ok (.iinc 2 1, 3) := by decide +kernel
theorem dX12_speeds_208 : decode cX12_speeds 208 = .ok (.goto (-149), 3) := by decide +kernel
theorem dX12_speeds_211 : decode cX12_speeds 211 = .ok (.goto (-160), 3) := by decide +kernel
theorem dX12_speeds_214 : decode cX12_speeds 214 = .ok (.return_, 1) := by decide +kernel
def f_Md_speeds_L92 (k51 : Int32 → (Nat → Nat → Int32) → (Nat → Nat → Int64) → Option ((Nat → Nat → Int32) × (Nat → Nat → Int64))) (k59 : Int32 → Int32 → (Nat → Nat → Int32) → (Nat → Nat → Int64) → Option ((Nat → Nat → Int32) × (Nat → Nat → Int64))) : Nat → Int32 → Int32 → Int32 → Int32 → Int32 → Int32 → (Nat → Nat → Int32) → (Nat → Nat → Int64) → Option ((Nat → Nat → Int32) × (Nat → Nat → Int64))
  | 0, _, _, _, _, _, _, _, _ => none
  | n + 1, l1, l2, l3, l4, l5, l6, I, L => (if l3 ≤ l6 then (if l4 = (1 : Int32) then ((f_Md_tells l2 l5 I L).bind fun q8 => (if (10000000 : Int64) < (Jabs (q8.2 34 51)) then (k59 l1 (l2 + (1 : Int32)) q8.1 q8.2) else (if (10000000 : Int64) < (q8.2 34 52) then (k59 l1 (l2 + (1 : Int32)) q8.1 q8.2) else ((f_Md_arborOf l2 l5 q8.1 q8.2).bind fun q12 => (if (0 ≤ q12 ∧ q12 < (24 : Int32)) then (bnd (q8.2 34 51) fun x15 => (if (0 ≤ q12 ∧ q12 < (24 : Int32)) then (bnd (q8.2 34 52) fun x17 => (if (0 ≤ q12 ∧ q12 < (24 : Int32)) then (k59 (1 : Int32) (l2 + (1 : Int32)) (uI q8.1 57 (q12.toNatClampNeg) (1 : Int32)) (uL (uL q8.2 58 (q12.toNatClampNeg) x15) 59 (q12.toNatClampNeg) x17)) else none)) else none)) else none))))) else (k59 l1 (l2 + (1 : Int32)) I L)) else ((f_Md_arborOf l2 l6 I L).bind fun q19 => (if (0 ≤ q19 ∧ q19 < (24 : Int32)) then (if (I 57 (q19.toNatClampNeg)) = (0 : Int32) then (f_Md_speeds_L92 k51 k59 n l1 l2 l3 (l4 + (1 : Int32)) l6 (l6 + (1 : Int32)) I L) else (f_Md_speeds_L92 k51 k59 n l1 l2 l3 l4 l5 (l6 + (1 : Int32)) I L)) else none)))
set_option maxRecDepth 100000 in
set_option maxHeartbeats 4000000 in
theorem x_Md_speeds_L92 {G : xG} {S : List xSh} {Rf : Nat → Nat → Option Nat} (hT : xTM S Rf) {k51 : Int32 → (Nat → Nat → Int32) → (Nat → Nat → Int64) → Option ((Nat → Nat → Int32) × (Nat → Nat → Int64))} {k59 : Int32 → Int32 → (Nat → Nat → Int32) → (Nat → Nat → Int64) → Option ((Nat → Nat → Int32) × (Nat → Nat → Int64))} (hk51 : ∀ {l1 : Int32} {I : Nat → Nat → Int32} {L : Nat → Nat → Int64} {q : ((Nat → Nat → Int32) × (Nat → Nat → Int64))}, k51 l1 I L = some q → X G 4 m_Md_speeds 51 [(0, .ref (xP G 34)), (1, .int l1)] [] (S, I, L, Rf) (none, (S, q.1, q.2, Rf))) (hk59 : ∀ {l1 : Int32} {l2 : Int32} {I : Nat → Nat → Int32} {L : Nat → Nat → Int64} {q : ((Nat → Nat → Int32) × (Nat → Nat → Int64))}, k59 l1 l2 I L = some q → X G 4 m_Md_speeds 59 [(0, .ref (xP G 34)), (1, .int l1), (2, .int l2)] [] (S, I, L, Rf) (none, (S, q.1, q.2, Rf))) : ∀ (n : Nat) {l1 : Int32} {l2 : Int32} {l3 : Int32} {l4 : Int32} {l5 : Int32} {l6 : Int32} {I : Nat → Nat → Int32} {L : Nat → Nat → Int64} {q : ((Nat → Nat → Int32) × (Nat → Nat → Int64))}, f_Md_speeds_L92 k51 k59 n l1 l2 l3 l4 l5 l6 I L = some q → X G 4 m_Md_speeds 92 [(0, .ref (xP G 34)), (1, .int l1), (2, .int l2), (3, .int l3), (4, .int l4), (5, .int l5), (6, .int l6)] [] (S, I, L, Rf) (none, (S, q.1, q.2, Rf)) := by
  intro n
  induction n with
  | zero =>
    intro l1 l2 l3 l4 l5 l6 I L q hf
    exact absurd (show none = some q from hf) (by simp)
  | succ n ih =>
    intro l1 l2 l3 l4 l5 l6 I L q hf
    replace hf := (f_Md_speeds_L92.eq_2 _ _ _ _ _ _ _ _ _ _ _).symm.trans hf
    refine X_iload (pc := 92) 6 dX12_speeds_92 rfl ?_
    refine X_iload_n (pc := 94) (i := 3) 3 dX12_speeds_94 rfl rfl ?_
    by_cases c6 : l3 ≤ l6
    · replace hf := (if_pos c6).symm.trans hf
      refine X_icmp_ge_t (pc := 95) 126 dX12_speeds_95 (by decide) c6 ?_
      refine X_iload (pc := 126) 4 dX12_speeds_126 rfl ?_
      refine X_iconst (pc := 128) (1 : Int32) dX12_speeds_128 (by decide) ?_
      by_cases c7 : l4 = (1 : Int32)
      · replace hf := (if_pos c7).symm.trans hf
        refine X_icmp_ne_f (pc := 129) 205 dX12_speeds_129 (by decide) c7 ?_
        refine X_aload_n (pc := 132) (i := 0) 0 dX12_speeds_132 rfl rfl ?_
        refine X_iload_n (pc := 133) (i := 2) 2 dX12_speeds_133 rfl rfl ?_
        refine X_iload (pc := 134) 5 dX12_speeds_134 rfl ?_
        obtain ⟨q8, c9, hf⟩ := bd_some hf
        refine X_invV_v (pc := 136) (c_Md_tells hT c9) ok_Md_tells (ci := 11) (sh_34 hT) k_1556 k_1558 k_48 nd_10 (by decide) rfl (Nat.le_of_ble_eq_true rfl) dX12_speeds_136 ?_
        refine X_aload_n (pc := 139) (i := 0) 0 dX12_speeds_139 rfl rfl ?_
        refine X_get (pc := 140) (a := 34) (ci := 11) (j := 51) (.long (q8.2 34 51)) (sh_34 hT) (by decide) k_1279 rfl dX12_speeds_140 ?_
        refine X_Jabs (pc := 143) k_1568 (by decide) (Nat.le_of_ble_eq_true rfl) dX12_speeds_143 ?_
        refine X_ldc2 (pc := 146) (10000000 : Int64) k_1506 dX12_speeds_146 ?_
        refine X_lcmp (pc := 149) dX12_speeds_149 ?_
        by_cases c10 : (10000000 : Int64) < (Jabs (q8.2 34 51))
        · replace hf := (if_pos c10).symm.trans hf
          refine X_if_gt_t (pc := 150) 205 dX12_speeds_150 (by decide) ((lg_cmp_gt _ _).mpr c10) ?_
          refine X_iinc (pc := 205) (i := 2) (q := 2) (v := (l2 + (1 : Int32))) [(2, .int (l2 + (1 : Int32))), (0, .ref (xP G 34)), (1, .int l1), (3, .int l3), (4, .int l4), (5, .int l5), (6, .int l6)] dX12_speeds_205 rfl rfl (by decide) rfl ?_
          refine X_goto (pc := 208) 59 dX12_speeds_208 (by decide) ?_
          exact X_lvs [1, 2, 0] rfl (hk59 hf)
        · replace hf := (if_neg c10).symm.trans hf
          refine X_if_gt_f (pc := 150) 205 dX12_speeds_150 (by decide) (fun h => c10 ((lg_cmp_gt _ _).mp h)) ?_
          refine X_aload_n (pc := 153) (i := 0) 0 dX12_speeds_153 rfl rfl ?_
          refine X_get (pc := 154) (a := 34) (ci := 11) (j := 52) (.long (q8.2 34 52)) (sh_34 hT) (by decide) k_1280 rfl dX12_speeds_154 ?_
          refine X_ldc2 (pc := 157) (10000000 : Int64) k_1506 dX12_speeds_157 ?_
          refine X_lcmp (pc := 160) dX12_speeds_160 ?_
          by_cases c11 : (10000000 : Int64) < (q8.2 34 52)
          · replace hf := (if_pos c11).symm.trans hf
            refine X_if_gt_t (pc := 161) 205 dX12_speeds_161 (by decide) ((lg_cmp_gt _ _).mpr c11) ?_
            refine X_iinc (pc := 205) (i := 2) (q := 2) (v := (l2 + (1 : Int32))) [(2, .int (l2 + (1 : Int32))), (0, .ref (xP G 34)), (1, .int l1), (3, .int l3), (4, .int l4), (5, .int l5), (6, .int l6)] dX12_speeds_205 rfl rfl (by decide) rfl ?_
            refine X_goto (pc := 208) 59 dX12_speeds_208 (by decide) ?_
            exact X_lvs [1, 2, 0] rfl (hk59 hf)
          · replace hf := (if_neg c11).symm.trans hf
            refine X_if_gt_f (pc := 161) 205 dX12_speeds_161 (by decide) (fun h => c11 ((lg_cmp_gt _ _).mp h)) ?_
            refine X_aload_n (pc := 164) (i := 0) 0 dX12_speeds_164 rfl rfl ?_
            refine X_iload_n (pc := 165) (i := 2) 2 dX12_speeds_165 rfl rfl ?_
            refine X_iload (pc := 166) 5 dX12_speeds_166 rfl ?_
            obtain ⟨q12, c13, hf⟩ := bd_some hf
            refine X_invV_i (pc := 168) (c_Md_arborOf hT c13) ok_Md_arborOf (ci := 11) (sh_34 hT) k_1552 k_1554 k_47 nd_21 (by decide) rfl (Nat.le_of_ble_eq_true rfl) dX12_speeds_168 ?_
            refine X_istore (pc := 171) [(6, .int q12), (0, .ref (xP G 34)), (1, .int l1), (2, .int l2), (3, .int l3), (4, .int l4), (5, .int l5)] dX12_speeds_171 (by decide) rfl ?_
            refine X_aload_n (pc := 173) (i := 0) 1 dX12_speeds_173 rfl rfl ?_
            refine X_getr (pc := 174) (a := 34) (ci := 11) (j := 48) (c := 57) (sh_34 hT) (by decide) k_1276 (rf_34_48 hT) (fun _ h => h) dX12_speeds_174 ?_
            refine X_iload (pc := 177) 0 dX12_speeds_177 rfl ?_
            refine X_iconst (pc := 179) (1 : Int32) dX12_speeds_179 (by decide) ?_
            obtain ⟨c14, hf⟩ := gd_some hf
            refine X_zastj (pc := 180) (j := (q12.toNatClampNeg)) (by decide) (sh_57 hT) (vp_in_lit (N := 24) c14 (by decide)) rfl dX12_speeds_180 ?_
            refine X_aload_n (pc := 181) (i := 0) 1 dX12_speeds_181 rfl rfl ?_
            refine X_getr (pc := 182) (a := 34) (ci := 11) (j := 49) (c := 58) (sh_34 hT) (by decide) k_1277 (rf_34_49 hT) (fun _ h => h) dX12_speeds_182 ?_
            refine X_iload (pc := 185) 0 dX12_speeds_185 rfl ?_
            refine X_aload_n (pc := 187) (i := 0) 1 dX12_speeds_187 rfl rfl ?_
            refine X_get (pc := 188) (a := 34) (ci := 11) (j := 51) (.long (q8.2 34 51)) (sh_34 hT) (by decide) k_1279 rfl dX12_speeds_188 ?_
            obtain ⟨x15, ex15, hf⟩ := bnd_e hf
            refine X_tople ex15 ?_
            obtain ⟨c16, hf⟩ := gd_some hf
            refine X_lastj (pc := 191) (j := (q12.toNatClampNeg)) (sh_58 hT) (vp_in_lit (N := 24) c16 (by decide)) rfl dX12_speeds_191 ?_
            refine X_aload_n (pc := 192) (i := 0) 1 dX12_speeds_192 rfl rfl ?_
            refine X_getr (pc := 193) (a := 34) (ci := 11) (j := 50) (c := 59) (sh_34 hT) (by decide) k_1278 (rf_34_50 hT) (fun _ h => h) dX12_speeds_193 ?_
            refine X_iload (pc := 196) 0 dX12_speeds_196 rfl ?_
            refine X_aload_n (pc := 198) (i := 0) 1 dX12_speeds_198 rfl rfl ?_
            refine X_get (pc := 199) (a := 34) (ci := 11) (j := 52) (.long (q8.2 34 52)) (sh_34 hT) (by decide) k_1280 rfl dX12_speeds_199 ?_
            obtain ⟨x17, ex17, hf⟩ := bnd_e hf
            refine X_tople ex17 ?_
            obtain ⟨c18, hf⟩ := gd_some hf
            refine X_lastj (pc := 202) (j := (q12.toNatClampNeg)) (sh_59 hT) (vp_in_lit (N := 24) c18 (by decide)) rfl dX12_speeds_202 ?_
            refine X_iconst (pc := 203) (1 : Int32) dX12_speeds_203 (by decide) ?_
            refine X_istore_n (pc := 204) (i := 1) [(1, .int (1 : Int32)), (6, .int q12), (0, .ref (xP G 34)), (2, .int l2), (3, .int l3), (4, .int l4), (5, .int l5)] dX12_speeds_204 rfl (by decide) rfl ?_
            refine X_iinc (pc := 205) (i := 2) (q := 3) (v := (l2 + (1 : Int32))) [(2, .int (l2 + (1 : Int32))), (1, .int (1 : Int32)), (6, .int q12), (0, .ref (xP G 34)), (3, .int l3), (4, .int l4), (5, .int l5)] dX12_speeds_205 rfl rfl (by decide) rfl ?_
            refine X_goto (pc := 208) 59 dX12_speeds_208 (by decide) ?_
            exact X_lvs [3, 1, 0] rfl (hk59 hf)
      · replace hf := (if_neg c7).symm.trans hf
        refine X_icmp_ne_t (pc := 129) 205 dX12_speeds_129 (by decide) c7 ?_
        refine X_iinc (pc := 205) (i := 2) (q := 2) (v := (l2 + (1 : Int32))) [(2, .int (l2 + (1 : Int32))), (0, .ref (xP G 34)), (1, .int l1), (3, .int l3), (4, .int l4), (5, .int l5), (6, .int l6)] dX12_speeds_205 rfl rfl (by decide) rfl ?_
        refine X_goto (pc := 208) 59 dX12_speeds_208 (by decide) ?_
        exact X_lvs [1, 2, 0] rfl (hk59 hf)
    · replace hf := (if_neg c6).symm.trans hf
      refine X_icmp_ge_f (pc := 95) 126 dX12_speeds_95 (by decide) c6 ?_
      refine X_aload_n (pc := 98) (i := 0) 0 dX12_speeds_98 rfl rfl ?_
      refine X_getr (pc := 99) (a := 34) (ci := 11) (j := 48) (c := 57) (sh_34 hT) (by decide) k_1276 (rf_34_48 hT) (fun _ h => h) dX12_speeds_99 ?_
      refine X_aload_n (pc := 102) (i := 0) 0 dX12_speeds_102 rfl rfl ?_
      refine X_iload_n (pc := 103) (i := 2) 2 dX12_speeds_103 rfl rfl ?_
      refine X_iload (pc := 104) 6 dX12_speeds_104 rfl ?_
      obtain ⟨q19, c20, hf⟩ := bd_some hf
      refine X_invV_i (pc := 106) (c_Md_arborOf hT c20) ok_Md_arborOf (ci := 11) (sh_34 hT) k_1552 k_1554 k_47 nd_21 (by decide) rfl (Nat.le_of_ble_eq_true rfl) dX12_speeds_106 ?_
      obtain ⟨c21, hf⟩ := gd_some hf
      refine X_zaldj (pc := 109) (j := q19.toNatClampNeg) (I 57 (q19.toNatClampNeg)) (sh_57 hT) (vp_in_lit (N := 24) c21 (by decide)) rfl rfl dX12_speeds_109 ?_
      by_cases c22 : (I 57 (q19.toNatClampNeg)) = (0 : Int32)
      · replace hf := (if_pos c22).symm.trans hf
        refine X_if_ne_f (pc := 110) 120 dX12_speeds_110 (by decide) c22 ?_
        refine X_iinc (pc := 113) (i := 4) (q := 4) (v := (l4 + (1 : Int32))) [(4, .int (l4 + (1 : Int32))), (0, .ref (xP G 34)), (1, .int l1), (2, .int l2), (3, .int l3), (5, .int l5), (6, .int l6)] dX12_speeds_113 rfl rfl (by decide) rfl ?_
        refine X_iload (pc := 116) 6 dX12_speeds_116 rfl ?_
        refine X_istore (pc := 118) [(5, .int l6), (4, .int (l4 + (1 : Int32))), (0, .ref (xP G 34)), (1, .int l1), (2, .int l2), (3, .int l3), (6, .int l6)] dX12_speeds_118 (by decide) rfl ?_
        refine X_iinc (pc := 120) (i := 6) (q := 6) (v := (l6 + (1 : Int32))) [(6, .int (l6 + (1 : Int32))), (5, .int l6), (4, .int (l4 + (1 : Int32))), (0, .ref (xP G 34)), (1, .int l1), (2, .int l2), (3, .int l3)] dX12_speeds_120 rfl rfl (by decide) rfl ?_
        refine X_goto (pc := 123) 92 dX12_speeds_123 (by decide) ?_
        exact X_lvs [3, 4, 5, 6, 2, 1, 0] rfl (ih hf)
      · replace hf := (if_neg c22).symm.trans hf
        refine X_if_ne_t (pc := 110) 120 dX12_speeds_110 (by decide) c22 ?_
        refine X_iinc (pc := 120) (i := 6) (q := 6) (v := (l6 + (1 : Int32))) [(6, .int (l6 + (1 : Int32))), (0, .ref (xP G 34)), (1, .int l1), (2, .int l2), (3, .int l3), (4, .int l4), (5, .int l5)] dX12_speeds_120 rfl rfl (by decide) rfl ?_
        refine X_goto (pc := 123) 92 dX12_speeds_123 (by decide) ?_
        exact X_lvs [1, 2, 3, 4, 5, 6, 0] rfl (ih hf)
theorem u_Md_speeds_L92 {S : List xSh} {k51 : Int32 → (Nat → Nat → Int32) → (Nat → Nat → Int64) → Option ((Nat → Nat → Int32) × (Nat → Nat → Int64))} {k59 : Int32 → Int32 → (Nat → Nat → Int32) → (Nat → Nat → Int64) → Option ((Nat → Nat → Int32) × (Nat → Nat → Int64))} (hk51 : ∀ {l1 : Int32} {I : Nat → Nat → Int32} {L : Nat → Nat → Int64} {q : ((Nat → Nat → Int32) × (Nat → Nat → Int64))}, k51 l1 I L = some q → FR S [57] [58, 59, 4451, 4452] I q.1 L q.2) (hk59 : ∀ {l1 : Int32} {l2 : Int32} {I : Nat → Nat → Int32} {L : Nat → Nat → Int64} {q : ((Nat → Nat → Int32) × (Nat → Nat → Int64))}, k59 l1 l2 I L = some q → FR S [57] [58, 59, 4451, 4452] I q.1 L q.2) : ∀ (n : Nat) {l1 : Int32} {l2 : Int32} {l3 : Int32} {l4 : Int32} {l5 : Int32} {l6 : Int32} {I : Nat → Nat → Int32} {L : Nat → Nat → Int64} {q : ((Nat → Nat → Int32) × (Nat → Nat → Int64))}, f_Md_speeds_L92 k51 k59 n l1 l2 l3 l4 l5 l6 I L = some q → FR S [57] [58, 59, 4451, 4452] I q.1 L q.2 := by
  intro n
  induction n with
  | zero =>
    intro l1 l2 l3 l4 l5 l6 I L q hf
    exact absurd (show none = some q from hf) (by simp)
  | succ n ih =>
    intro l1 l2 l3 l4 l5 l6 I L q hf
    replace hf := (f_Md_speeds_L92.eq_2 _ _ _ _ _ _ _ _ _ _ _).symm.trans hf
    by_cases c6 : l3 ≤ l6
    · replace hf := (if_pos c6).symm.trans hf
      by_cases c7 : l4 = (1 : Int32)
      · replace hf := (if_pos c7).symm.trans hf
        obtain ⟨q8, c9, hf⟩ := bd_some hf
        by_cases c10 : (10000000 : Int64) < (Jabs (q8.2 34 51))
        · replace hf := (if_pos c10).symm.trans hf
          exact FR.tr (FR.tr FR.rf (u_Md_tells (q := q8) c9) (by decide) (by decide)) (hk59 hf) (by decide) (by decide)
        · replace hf := (if_neg c10).symm.trans hf
          by_cases c11 : (10000000 : Int64) < (q8.2 34 52)
          · replace hf := (if_pos c11).symm.trans hf
            exact FR.tr (FR.tr FR.rf (u_Md_tells (q := q8) c9) (by decide) (by decide)) (hk59 hf) (by decide) (by decide)
          · replace hf := (if_neg c11).symm.trans hf
            obtain ⟨q12, c13, hf⟩ := bd_some hf
            obtain ⟨c14, hf⟩ := gd_some hf
            obtain ⟨x15, ex15, hf⟩ := bnd_e hf
            obtain ⟨c16, hf⟩ := gd_some hf
            obtain ⟨x17, ex17, hf⟩ := bnd_e hf
            obtain ⟨c18, hf⟩ := gd_some hf
            exact FR.tr (FR.al (FR.al (FR.ai (FR.tr FR.rf (u_Md_tells (q := q8) c9) (by decide) (by decide)) (by decide)) (by decide)) (by decide)) (hk59 hf) (by decide) (by decide)
      · replace hf := (if_neg c7).symm.trans hf
        exact FR.tr FR.rf (hk59 hf) (by decide) (by decide)
    · replace hf := (if_neg c6).symm.trans hf
      obtain ⟨q19, c20, hf⟩ := bd_some hf
      obtain ⟨c21, hf⟩ := gd_some hf
      by_cases c22 : (I 57 (q19.toNatClampNeg)) = (0 : Int32)
      · replace hf := (if_pos c22).symm.trans hf
        exact FR.tr FR.rf (ih hf) (by decide) (by decide)
      · replace hf := (if_neg c22).symm.trans hf
        exact FR.tr FR.rf (ih hf) (by decide) (by decide)
def f_Md_speeds_L59 (k51 : Int32 → (Nat → Nat → Int32) → (Nat → Nat → Int64) → Option ((Nat → Nat → Int32) × (Nat → Nat → Int64))) : Nat → Int32 → Int32 → (Nat → Nat → Int32) → (Nat → Nat → Int64) → Option ((Nat → Nat → Int32) × (Nat → Nat → Int64))
  | 0, _, _, _, _ => none
  | n + 1, l1, l2, I, L => (if (I 34 1) ≤ l2 then (k51 l1 I L) else (if (0 ≤ l2 ∧ l2 < (40 : Int32)) then (if (I 35 (l2.toNatClampNeg)) = (2 : Int32) then (f_Md_speeds_L92 k51 (f_Md_speeds_L59 k51 n) xF l1 l2 (3 : Int32) (0 : Int32) (0 : Int32) (0 : Int32) I L) else (f_Md_speeds_L92 k51 (f_Md_speeds_L59 k51 n) xF l1 l2 (2 : Int32) (0 : Int32) (0 : Int32) (0 : Int32) I L)) else none))
set_option maxRecDepth 100000 in
set_option maxHeartbeats 4000000 in
theorem x_Md_speeds_L59 {G : xG} {S : List xSh} {Rf : Nat → Nat → Option Nat} (hT : xTM S Rf) {k51 : Int32 → (Nat → Nat → Int32) → (Nat → Nat → Int64) → Option ((Nat → Nat → Int32) × (Nat → Nat → Int64))} (hk51 : ∀ {l1 : Int32} {I : Nat → Nat → Int32} {L : Nat → Nat → Int64} {q : ((Nat → Nat → Int32) × (Nat → Nat → Int64))}, k51 l1 I L = some q → X G 4 m_Md_speeds 51 [(0, .ref (xP G 34)), (1, .int l1)] [] (S, I, L, Rf) (none, (S, q.1, q.2, Rf))) : ∀ (n : Nat) {l1 : Int32} {l2 : Int32} {I : Nat → Nat → Int32} {L : Nat → Nat → Int64} {q : ((Nat → Nat → Int32) × (Nat → Nat → Int64))}, f_Md_speeds_L59 k51 n l1 l2 I L = some q → X G 4 m_Md_speeds 59 [(0, .ref (xP G 34)), (1, .int l1), (2, .int l2)] [] (S, I, L, Rf) (none, (S, q.1, q.2, Rf)) := by
  intro n
  induction n with
  | zero =>
    intro l1 l2 I L q hf
    exact absurd (show none = some q from hf) (by simp)
  | succ n ih =>
    intro l1 l2 I L q hf
    replace hf := (f_Md_speeds_L59.eq_2 _ _ _ _ _ _).symm.trans hf
    refine X_iload_n (pc := 59) (i := 2) 2 dX12_speeds_59 rfl rfl ?_
    refine X_aload_n (pc := 60) (i := 0) 0 dX12_speeds_60 rfl rfl ?_
    refine X_get (pc := 61) (a := 34) (ci := 11) (j := 1) (.int (I 34 1)) (sh_34 hT) (by decide) k_1229 rfl dX12_speeds_61 ?_
    by_cases c3 : (I 34 1) ≤ l2
    · replace hf := (if_pos c3).symm.trans hf
      refine X_icmp_ge_t (pc := 64) 211 dX12_speeds_64 (by decide) c3 ?_
      refine X_goto (pc := 211) 51 dX12_speeds_211 (by decide) ?_
      exact X_lvs [0, 1] rfl (hk51 hf)
    · replace hf := (if_neg c3).symm.trans hf
      refine X_icmp_ge_f (pc := 64) 211 dX12_speeds_64 (by decide) c3 ?_
      refine X_aload_n (pc := 67) (i := 0) 0 dX12_speeds_67 rfl rfl ?_
      refine X_getr (pc := 68) (a := 34) (ci := 11) (j := 2) (c := 35) (sh_34 hT) (by decide) k_1230 (rf_34_2 hT) (fun _ h => h) dX12_speeds_68 ?_
      refine X_iload_n (pc := 71) (i := 2) 2 dX12_speeds_71 rfl rfl ?_
      obtain ⟨c4, hf⟩ := gd_some hf
      refine X_ialdj (pc := 72) (j := l2.toNatClampNeg) (I 35 (l2.toNatClampNeg)) (sh_35 hT) (vp_in_lit (N := 40) c4 (by decide)) rfl rfl dX12_speeds_72 ?_
      refine X_iconst (pc := 73) (2 : Int32) dX12_speeds_73 (by decide) ?_
      by_cases c5 : (I 35 (l2.toNatClampNeg)) = (2 : Int32)
      · replace hf := (if_pos c5).symm.trans hf
        refine X_icmp_ne_f (pc := 74) 81 dX12_speeds_74 (by decide) c5 ?_
        refine X_iconst (pc := 77) (3 : Int32) dX12_speeds_77 (by decide) ?_
        refine X_goto (pc := 78) 82 dX12_speeds_78 (by decide) ?_
        refine X_istore_n (pc := 82) (i := 3) [(3, .int (3 : Int32)), (0, .ref (xP G 34)), (1, .int l1), (2, .int l2)] dX12_speeds_82 rfl (by decide) rfl ?_
        refine X_iconst (pc := 83) (0 : Int32) dX12_speeds_83 (by decide) ?_
        refine X_istore (pc := 84) [(4, .int (0 : Int32)), (3, .int (3 : Int32)), (0, .ref (xP G 34)), (1, .int l1), (2, .int l2)] dX12_speeds_84 (by decide) rfl ?_
        refine X_iconst (pc := 86) (0 : Int32) dX12_speeds_86 (by decide) ?_
        refine X_istore (pc := 87) [(5, .int (0 : Int32)), (4, .int (0 : Int32)), (3, .int (3 : Int32)), (0, .ref (xP G 34)), (1, .int l1), (2, .int l2)] dX12_speeds_87 (by decide) rfl ?_
        refine X_iconst (pc := 89) (0 : Int32) dX12_speeds_89 (by decide) ?_
        refine X_istore (pc := 90) [(6, .int (0 : Int32)), (5, .int (0 : Int32)), (4, .int (0 : Int32)), (3, .int (3 : Int32)), (0, .ref (xP G 34)), (1, .int l1), (2, .int l2)] dX12_speeds_90 (by decide) rfl ?_
        exact X_lvs [4, 5, 6, 3, 2, 1, 0] rfl (x_Md_speeds_L92 hT hk51 ih xF hf)
      · replace hf := (if_neg c5).symm.trans hf
        refine X_icmp_ne_t (pc := 74) 81 dX12_speeds_74 (by decide) c5 ?_
        refine X_iconst (pc := 81) (2 : Int32) dX12_speeds_81 (by decide) ?_
        refine X_istore_n (pc := 82) (i := 3) [(3, .int (2 : Int32)), (0, .ref (xP G 34)), (1, .int l1), (2, .int l2)] dX12_speeds_82 rfl (by decide) rfl ?_
        refine X_iconst (pc := 83) (0 : Int32) dX12_speeds_83 (by decide) ?_
        refine X_istore (pc := 84) [(4, .int (0 : Int32)), (3, .int (2 : Int32)), (0, .ref (xP G 34)), (1, .int l1), (2, .int l2)] dX12_speeds_84 (by decide) rfl ?_
        refine X_iconst (pc := 86) (0 : Int32) dX12_speeds_86 (by decide) ?_
        refine X_istore (pc := 87) [(5, .int (0 : Int32)), (4, .int (0 : Int32)), (3, .int (2 : Int32)), (0, .ref (xP G 34)), (1, .int l1), (2, .int l2)] dX12_speeds_87 (by decide) rfl ?_
        refine X_iconst (pc := 89) (0 : Int32) dX12_speeds_89 (by decide) ?_
        refine X_istore (pc := 90) [(6, .int (0 : Int32)), (5, .int (0 : Int32)), (4, .int (0 : Int32)), (3, .int (2 : Int32)), (0, .ref (xP G 34)), (1, .int l1), (2, .int l2)] dX12_speeds_90 (by decide) rfl ?_
        exact X_lvs [4, 5, 6, 3, 2, 1, 0] rfl (x_Md_speeds_L92 hT hk51 ih xF hf)
theorem u_Md_speeds_L59 {S : List xSh} {k51 : Int32 → (Nat → Nat → Int32) → (Nat → Nat → Int64) → Option ((Nat → Nat → Int32) × (Nat → Nat → Int64))} (hk51 : ∀ {l1 : Int32} {I : Nat → Nat → Int32} {L : Nat → Nat → Int64} {q : ((Nat → Nat → Int32) × (Nat → Nat → Int64))}, k51 l1 I L = some q → FR S [57] [58, 59, 4451, 4452] I q.1 L q.2) : ∀ (n : Nat) {l1 : Int32} {l2 : Int32} {I : Nat → Nat → Int32} {L : Nat → Nat → Int64} {q : ((Nat → Nat → Int32) × (Nat → Nat → Int64))}, f_Md_speeds_L59 k51 n l1 l2 I L = some q → FR S [57] [58, 59, 4451, 4452] I q.1 L q.2 := by
  intro n
  induction n with
  | zero =>
    intro l1 l2 I L q hf
    exact absurd (show none = some q from hf) (by simp)
  | succ n ih =>
    intro l1 l2 I L q hf
    replace hf := (f_Md_speeds_L59.eq_2 _ _ _ _ _ _).symm.trans hf
    by_cases c3 : (I 34 1) ≤ l2
    · replace hf := (if_pos c3).symm.trans hf
      exact FR.tr FR.rf (hk51 hf) (by decide) (by decide)
    · replace hf := (if_neg c3).symm.trans hf
      obtain ⟨c4, hf⟩ := gd_some hf
      by_cases c5 : (I 35 (l2.toNatClampNeg)) = (2 : Int32)
      · replace hf := (if_pos c5).symm.trans hf
        exact FR.tr FR.rf (u_Md_speeds_L92 hk51 ih xF hf) (by decide) (by decide)
      · replace hf := (if_neg c5).symm.trans hf
        exact FR.tr FR.rf (u_Md_speeds_L92 hk51 ih xF hf) (by decide) (by decide)
def f_Md_speeds_L51 : Nat → Int32 → (Nat → Nat → Int32) → (Nat → Nat → Int64) → Option ((Nat → Nat → Int32) × (Nat → Nat → Int64))
  | 0, _, _, _ => none
  | n + 1, l1, I, L => (if l1 = (0 : Int32) then (some (I, L)) else (f_Md_speeds_L59 (f_Md_speeds_L51 n) xF (0 : Int32) (0 : Int32) I L))
set_option maxRecDepth 100000 in
set_option maxHeartbeats 4000000 in
theorem x_Md_speeds_L51 {G : xG} {S : List xSh} {Rf : Nat → Nat → Option Nat} (hT : xTM S Rf) : ∀ (n : Nat) {l1 : Int32} {I : Nat → Nat → Int32} {L : Nat → Nat → Int64} {q : ((Nat → Nat → Int32) × (Nat → Nat → Int64))}, f_Md_speeds_L51 n l1 I L = some q → X G 4 m_Md_speeds 51 [(0, .ref (xP G 34)), (1, .int l1)] [] (S, I, L, Rf) (none, (S, q.1, q.2, Rf)) := by
  intro n
  induction n with
  | zero =>
    intro l1 I L q hf
    exact absurd (show none = some q from hf) (by simp)
  | succ n ih =>
    intro l1 I L q hf
    replace hf := (f_Md_speeds_L51.eq_2 _ _ _ _).symm.trans hf
    refine X_iload_n (pc := 51) (i := 1) 1 dX12_speeds_51 rfl rfl ?_
    by_cases c2 : l1 = (0 : Int32)
    · replace hf := (if_pos c2).symm.trans hf
      refine X_if_eq_t (pc := 52) 214 dX12_speeds_52 (by decide) c2 ?_
      cases hf
      exact X_return (pc := 214) rfl dX12_speeds_214
    · replace hf := (if_neg c2).symm.trans hf
      refine X_if_eq_f (pc := 52) 214 dX12_speeds_52 (by decide) c2 ?_
      refine X_iconst (pc := 55) (0 : Int32) dX12_speeds_55 (by decide) ?_
      refine X_istore_n (pc := 56) (i := 1) [(1, .int (0 : Int32)), (0, .ref (xP G 34))] dX12_speeds_56 rfl (by decide) rfl ?_
      refine X_iconst (pc := 57) (0 : Int32) dX12_speeds_57 (by decide) ?_
      refine X_istore_n (pc := 58) (i := 2) [(2, .int (0 : Int32)), (1, .int (0 : Int32)), (0, .ref (xP G 34))] dX12_speeds_58 rfl (by decide) rfl ?_
      exact X_lvs [2, 1, 0] rfl (x_Md_speeds_L59 hT ih xF hf)
theorem u_Md_speeds_L51 {S : List xSh} : ∀ (n : Nat) {l1 : Int32} {I : Nat → Nat → Int32} {L : Nat → Nat → Int64} {q : ((Nat → Nat → Int32) × (Nat → Nat → Int64))}, f_Md_speeds_L51 n l1 I L = some q → FR S [57] [58, 59, 4451, 4452] I q.1 L q.2 := by
  intro n
  induction n with
  | zero =>
    intro l1 I L q hf
    exact absurd (show none = some q from hf) (by simp)
  | succ n ih =>
    intro l1 I L q hf
    replace hf := (f_Md_speeds_L51.eq_2 _ _ _ _).symm.trans hf
    by_cases c2 : l1 = (0 : Int32)
    · replace hf := (if_pos c2).symm.trans hf
      cases hf
      exact FR.rf
    · replace hf := (if_neg c2).symm.trans hf
      exact FR.tr FR.rf (u_Md_speeds_L59 ih xF hf) (by decide) (by decide)
def f_Md_speeds_L28 (k2 : Int32 → (Nat → Nat → Int32) → (Nat → Nat → Int64) → Option ((Nat → Nat → Int32) × (Nat → Nat → Int64))) (l1 : Int32) (s1 : Int32) (s2 : Int32) (I : (Nat → Nat → Int32)) (L : (Nat → Nat → Int64)) : Option ((Nat → Nat → Int32) × (Nat → Nat → Int64)) := (if (0 ≤ s1 ∧ s1 < (24 : Int32)) then (if (s2 = (0 : Int32) ∨ s2 = (1 : Int32)) then (if (0 ≤ l1 ∧ l1 < (24 : Int32)) then (if (0 ≤ l1 ∧ l1 < (24 : Int32)) then (k2 (l1 + (1 : Int32)) (uI I 57 (s1.toNatClampNeg) s2) (uL (uL L 58 (l1.toNatClampNeg) (1 : Int64)) 59 (l1.toNatClampNeg) (1 : Int64))) else none) else none) else none) else none)
set_option maxRecDepth 100000 in
set_option maxHeartbeats 4000000 in
theorem x_Md_speeds_L28 {G : xG} {S : List xSh} {Rf : Nat → Nat → Option Nat} (hT : xTM S Rf) {k2 : Int32 → (Nat → Nat → Int32) → (Nat → Nat → Int64) → Option ((Nat → Nat → Int32) × (Nat → Nat → Int64))} (hk2 : ∀ {l1 : Int32} {I : Nat → Nat → Int32} {L : Nat → Nat → Int64} {q : ((Nat → Nat → Int32) × (Nat → Nat → Int64))}, k2 l1 I L = some q → X G 4 m_Md_speeds 2 [(0, .ref (xP G 34)), (1, .int l1)] [] (S, I, L, Rf) (none, (S, q.1, q.2, Rf))) {l1 : Int32} {s1 : Int32} {s2 : Int32} {I : Nat → Nat → Int32} {L : Nat → Nat → Int64} {q : ((Nat → Nat → Int32) × (Nat → Nat → Int64))} (hf : f_Md_speeds_L28 k2 l1 s1 s2 I L = some q) : X G 4 m_Md_speeds 28 [(0, .ref (xP G 34)), (1, .int l1)] [.int s2, .int s1, .ref (xP G 57)] (S, I, L, Rf) (none, (S, q.1, q.2, Rf)) := by
  replace hf := (f_Md_speeds_L28.eq_1 _ _ _ _ _ _).symm.trans hf
  obtain ⟨c24, hf⟩ := gd_some hf
  obtain ⟨c25, hf⟩ := gd_some hf
  refine X_zastj (pc := 28) (j := (s1.toNatClampNeg)) c25 (sh_57 hT) (vp_in_lit (N := 24) c24 (by decide)) rfl dX12_speeds_28 ?_
  refine X_aload_n (pc := 29) (i := 0) 0 dX12_speeds_29 rfl rfl ?_
  refine X_getr (pc := 30) (a := 34) (ci := 11) (j := 49) (c := 58) (sh_34 hT) (by decide) k_1277 (rf_34_49 hT) (fun _ h => h) dX12_speeds_30 ?_
  refine X_iload_n (pc := 33) (i := 1) 1 dX12_speeds_33 rfl rfl ?_
  refine X_lconst (pc := 34) (1 : Int64) dX12_speeds_34 (by decide) ?_
  obtain ⟨c26, hf⟩ := gd_some hf
  refine X_lastj (pc := 35) (j := (l1.toNatClampNeg)) (sh_58 hT) (vp_in_lit (N := 24) c26 (by decide)) rfl dX12_speeds_35 ?_
  refine X_aload_n (pc := 36) (i := 0) 0 dX12_speeds_36 rfl rfl ?_
  refine X_getr (pc := 37) (a := 34) (ci := 11) (j := 50) (c := 59) (sh_34 hT) (by decide) k_1278 (rf_34_50 hT) (fun _ h => h) dX12_speeds_37 ?_
  refine X_iload_n (pc := 40) (i := 1) 1 dX12_speeds_40 rfl rfl ?_
  refine X_lconst (pc := 41) (1 : Int64) dX12_speeds_41 (by decide) ?_
  obtain ⟨c27, hf⟩ := gd_some hf
  refine X_lastj (pc := 42) (j := (l1.toNatClampNeg)) (sh_59 hT) (vp_in_lit (N := 24) c27 (by decide)) rfl dX12_speeds_42 ?_
  refine X_iinc (pc := 43) (i := 1) (q := 1) (v := (l1 + (1 : Int32))) [(1, .int (l1 + (1 : Int32))), (0, .ref (xP G 34))] dX12_speeds_43 rfl rfl (by decide) rfl ?_
  refine X_goto (pc := 46) 2 dX12_speeds_46 (by decide) ?_
  exact X_lvs [1, 0] rfl (hk2 hf)
theorem u_Md_speeds_L28 {S : List xSh} {k2 : Int32 → (Nat → Nat → Int32) → (Nat → Nat → Int64) → Option ((Nat → Nat → Int32) × (Nat → Nat → Int64))} (hk2 : ∀ {l1 : Int32} {I : Nat → Nat → Int32} {L : Nat → Nat → Int64} {q : ((Nat → Nat → Int32) × (Nat → Nat → Int64))}, k2 l1 I L = some q → FR S [57] [58, 59, 4451, 4452] I q.1 L q.2) {l1 : Int32} {s1 : Int32} {s2 : Int32} {I : Nat → Nat → Int32} {L : Nat → Nat → Int64} {q : ((Nat → Nat → Int32) × (Nat → Nat → Int64))} (hf : f_Md_speeds_L28 k2 l1 s1 s2 I L = some q) : FR S [57] [58, 59, 4451, 4452] I q.1 L q.2 := by
  replace hf := (f_Md_speeds_L28.eq_1 _ _ _ _ _ _).symm.trans hf
  obtain ⟨c24, hf⟩ := gd_some hf
  obtain ⟨c25, hf⟩ := gd_some hf
  obtain ⟨c26, hf⟩ := gd_some hf
  obtain ⟨c27, hf⟩ := gd_some hf
  exact FR.tr (FR.al (FR.al (FR.ai FR.rf (by decide)) (by decide)) (by decide)) (hk2 hf) (by decide) (by decide)
def f_Md_speeds_L2 : Nat → Int32 → (Nat → Nat → Int32) → (Nat → Nat → Int64) → Option ((Nat → Nat → Int32) × (Nat → Nat → Int64))
  | 0, _, _, _ => none
  | n + 1, l1, I, L => (if (I 34 0) ≤ l1 then (f_Md_speeds_L51 xF (1 : Int32) I L) else (if l1 = (I 34 8) then (f_Md_speeds_L28 (f_Md_speeds_L2 n) l1 l1 (1 : Int32) I L) else (f_Md_speeds_L28 (f_Md_speeds_L2 n) l1 l1 (0 : Int32) I L)))
set_option maxRecDepth 100000 in
set_option maxHeartbeats 4000000 in
theorem x_Md_speeds_L2 {G : xG} {S : List xSh} {Rf : Nat → Nat → Option Nat} (hT : xTM S Rf) : ∀ (n : Nat) {l1 : Int32} {I : Nat → Nat → Int32} {L : Nat → Nat → Int64} {q : ((Nat → Nat → Int32) × (Nat → Nat → Int64))}, f_Md_speeds_L2 n l1 I L = some q → X G 4 m_Md_speeds 2 [(0, .ref (xP G 34)), (1, .int l1)] [] (S, I, L, Rf) (none, (S, q.1, q.2, Rf)) := by
  intro n
  induction n with
  | zero =>
    intro l1 I L q hf
    exact absurd (show none = some q from hf) (by simp)
  | succ n ih =>
    intro l1 I L q hf
    replace hf := (f_Md_speeds_L2.eq_2 _ _ _ _).symm.trans hf
    refine X_iload_n (pc := 2) (i := 1) 1 dX12_speeds_2 rfl rfl ?_
    refine X_aload_n (pc := 3) (i := 0) 0 dX12_speeds_3 rfl rfl ?_
    refine X_get (pc := 4) (a := 34) (ci := 11) (j := 0) (.int (I 34 0)) (sh_34 hT) (by decide) k_1228 rfl dX12_speeds_4 ?_
    by_cases c1 : (I 34 0) ≤ l1
    · replace hf := (if_pos c1).symm.trans hf
      refine X_icmp_ge_t (pc := 7) 49 dX12_speeds_7 (by decide) c1 ?_
      refine X_iconst (pc := 49) (1 : Int32) dX12_speeds_49 (by decide) ?_
      refine X_istore_n (pc := 50) (i := 1) [(1, .int (1 : Int32)), (0, .ref (xP G 34))] dX12_speeds_50 rfl (by decide) rfl ?_
      exact X_lvs [1, 0] rfl (x_Md_speeds_L51 hT xF hf)
    · replace hf := (if_neg c1).symm.trans hf
      refine X_icmp_ge_f (pc := 7) 49 dX12_speeds_7 (by decide) c1 ?_
      refine X_aload_n (pc := 10) (i := 0) 0 dX12_speeds_10 rfl rfl ?_
      refine X_getr (pc := 11) (a := 34) (ci := 11) (j := 48) (c := 57) (sh_34 hT) (by decide) k_1276 (rf_34_48 hT) (fun _ h => h) dX12_speeds_11 ?_
      refine X_iload_n (pc := 14) (i := 1) 1 dX12_speeds_14 rfl rfl ?_
      refine X_iload_n (pc := 15) (i := 1) 1 dX12_speeds_15 rfl rfl ?_
      refine X_aload_n (pc := 16) (i := 0) 0 dX12_speeds_16 rfl rfl ?_
      refine X_get (pc := 17) (a := 34) (ci := 11) (j := 8) (.int (I 34 8)) (sh_34 hT) (by decide) k_1236 rfl dX12_speeds_17 ?_
      by_cases c23 : l1 = (I 34 8)
      · replace hf := (if_pos c23).symm.trans hf
        refine X_icmp_ne_f (pc := 20) 27 dX12_speeds_20 (by decide) c23 ?_
        refine X_iconst (pc := 23) (1 : Int32) dX12_speeds_23 (by decide) ?_
        refine X_goto (pc := 24) 28 dX12_speeds_24 (by decide) ?_
        exact X_lvs [0, 1] rfl (x_Md_speeds_L28 hT ih hf)
      · replace hf := (if_neg c23).symm.trans hf
        refine X_icmp_ne_t (pc := 20) 27 dX12_speeds_20 (by decide) c23 ?_
        refine X_iconst (pc := 27) (0 : Int32) dX12_speeds_27 (by decide) ?_
        exact X_lvs [0, 1] rfl (x_Md_speeds_L28 hT ih hf)
theorem u_Md_speeds_L2 {S : List xSh} : ∀ (n : Nat) {l1 : Int32} {I : Nat → Nat → Int32} {L : Nat → Nat → Int64} {q : ((Nat → Nat → Int32) × (Nat → Nat → Int64))}, f_Md_speeds_L2 n l1 I L = some q → FR S [57] [58, 59, 4451, 4452] I q.1 L q.2 := by
  intro n
  induction n with
  | zero =>
    intro l1 I L q hf
    exact absurd (show none = some q from hf) (by simp)
  | succ n ih =>
    intro l1 I L q hf
    replace hf := (f_Md_speeds_L2.eq_2 _ _ _ _).symm.trans hf
    by_cases c1 : (I 34 0) ≤ l1
    · replace hf := (if_pos c1).symm.trans hf
      exact FR.tr FR.rf (u_Md_speeds_L51 xF hf) (by decide) (by decide)
    · replace hf := (if_neg c1).symm.trans hf
      by_cases c23 : l1 = (I 34 8)
      · replace hf := (if_pos c23).symm.trans hf
        exact FR.tr FR.rf (u_Md_speeds_L28 ih hf) (by decide) (by decide)
      · replace hf := (if_neg c23).symm.trans hf
        exact FR.tr FR.rf (u_Md_speeds_L28 ih hf) (by decide) (by decide)
def f_Md_speeds (I : Nat → Nat → Int32) (L : Nat → Nat → Int64) : Option ((Nat → Nat → Int32) × (Nat → Nat → Int64)) := (f_Md_speeds_L2 xF (0 : Int32) I L)
set_option maxRecDepth 100000 in
set_option maxHeartbeats 4000000 in
theorem c_Md_speeds {G : xG} {S : List xSh} {Rf : Nat → Nat → Option Nat} (hT : xTM S Rf) {I : Nat → Nat → Int32} {L : Nat → Nat → Int64} {q : ((Nat → Nat → Int32) × (Nat → Nat → Int64))} (hf : f_Md_speeds I L = some q) : CT G 4 m_Md_speeds [.ref (xP G 34)] (S, I, L, Rf) (none, (S, q.1, q.2, Rf)) := by
  refine CT.of (by decide +kernel) (Nat.le_of_ble_eq_true rfl) ?_
  show X G 4 m_Md_speeds 0 [(0, .ref (xP G 34))] [] (S, I, L, Rf) (none, (S, q.1, q.2, Rf))
  replace hf := (f_Md_speeds.eq_1 _ _).symm.trans hf
  refine X_iconst (pc := 0) (0 : Int32) dX12_speeds_0 (by decide) ?_
  refine X_istore_n (pc := 1) (i := 1) [(1, .int (0 : Int32)), (0, .ref (xP G 34))] dX12_speeds_1 rfl (by decide) rfl ?_
  exact X_lvs [1, 0] rfl (x_Md_speeds_L2 hT xF hf)
theorem u_Md_speeds {S : List xSh} {I : Nat → Nat → Int32} {L : Nat → Nat → Int64} {q : ((Nat → Nat → Int32) × (Nat → Nat → Int64))} (hf : f_Md_speeds I L = some q) : FR S [57] [58, 59, 4451, 4452] I q.1 L q.2 := by
  replace hf := (f_Md_speeds.eq_1 _ _).symm.trans hf
  exact FR.tr FR.rf (u_Md_speeds_L2 xF hf) (by decide) (by decide)
theorem dX12_isLocked_0 : decode cX12_isLocked 0 = .ok (.iconst 0, 1) := by decide +kernel
theorem dX12_isLocked_1 : decode cX12_isLocked 1 = .ok (.istore_n 1, 1) := by decide +kernel
theorem dX12_isLocked_2 : decode cX12_isLocked 2 = .ok (.iload_n 1, 1) := by decide +kernel
theorem dX12_isLocked_3 : decode cX12_isLocked 3 = .ok (.aload_n 0, 1) := by decide +kernel
theorem dX12_isLocked_4 : decode cX12_isLocked 4 = .ok (.getfield 147, 3) := by decide +kernel
theorem dX12_isLocked_7 : decode cX12_isLocked 7 = .ok (.if_icmp .ge 117, 3) := by decide +kernel
theorem dX12_isLocked_10 : decode cX12_isLocked 10 = .ok (.aload_n 0, 1) := by decide +kernel
theorem dX12_isLocked_11 : decode cX12_isLocked 11 = .ok (.getfield 77, 3) := by decide +kernel
theorem dX12_isLocked_14 : decode cX12_isLocked 14 = .ok (.aload_n 0, 1) := by decide +kernel
theorem dX12_isLocked_15 : decode cX12_isLocked 15 = .ok (.getfield 13, 3) := by decide +kernel
theorem dX12_isLocked_18 : decode cX12_isLocked 18 = .ok (.iload_n 1, 1) := by decide +kernel
theorem dX12_isLocked_19 : decode cX12_isLocked 19 = .ok (.iaload, 1) := by decide +kernel
theorem dX12_isLocked_20 : decode cX12_isLocked 20 = .ok (.baload, 1) := by decide +kernel
theorem dX12_isLocked_21 : decode cX12_isLocked 21 = .ok (.ifCond .eq 45, 3) := by decide +kernel
theorem dX12_isLocked_24 : decode cX12_isLocked 24 = .ok (.aload_n 0, 1) := by decide +kernel
theorem dX12_isLocked_25 : decode cX12_isLocked 25 = .ok (.getfield 77, 3) := by decide +kernel
theorem dX12_isLocked_28 : decode cX12_isLocked 28 = .ok (.aload_n 0, 1) := by decide +kernel
theorem dX12_isLocked_29 : decode cX12_isLocked 29 = .ok (.getfield 16, 3) := by decide +kernel
theorem dX12_isLocked_32 : decode cX12_isLocked 32 = .ok (.iload_n 1, 1) := by decide +kernel
theorem dX12_isLocked_33 : decode cX12_isLocked 33 = .ok (.iaload, 1) := by decide +kernel
theorem dX12_isLocked_34 : decode cX12_isLocked 34 = .ok (.baload, 1) := by decide +kernel
theorem dX12_isLocked_35 : decode cX12_isLocked 35 = .ok (.ifCond .eq 31, 3) := by decide +kernel
theorem dX12_isLocked_38 : decode cX12_isLocked 38 = .ok (.aload_n 0, 1) := by decide +kernel
theorem dX12_isLocked_39 : decode cX12_isLocked 39 = .ok (.getfield 9, 3) := by decide +kernel
theorem dX12_isLocked_42 : decode cX12_isLocked 42 = .ok (.iload_n 1, 1) := by decide +kernel
theorem dX12_isLocked_43 : decode cX12_isLocked 43 = .ok (.iaload, 1) := by decide +kernel
theorem dX12_isLocked_44 : decode cX12_isLocked 44 = .ok (.iconst 2, 1) := by decide +kernel
theorem dX12_isLocked_45 : decode cX12_isLocked 45 = .ok (.if_icmp .lt 17, 3) := by decide +kernel
theorem dX12_isLocked_48 : decode cX12_isLocked 48 = .ok (.aload_n 0, 1) := by decide +kernel
theorem dX12_isLocked_49 : decode cX12_isLocked 49 = .ok (.getfield 77, 3) := by decide +kernel
theorem dX12_isLocked_52 : decode cX12_isLocked 52 = .ok (.aload_n 0, 1) := by decide +kernel
theorem dX12_isLocked_53 : decode cX12_isLocked 53 = .ok (.getfield 19, 3) := by decide +kernel
theorem dX12_isLocked_56 : decode cX12_isLocked 56 = .ok (.iload_n 1, 1) := by decide +kernel
theorem dX12_isLocked_57 : decode cX12_isLocked 57 = .ok (.iaload, 1) := by decide +kernel
theorem dX12_isLocked_58 : decode cX12_isLocked 58 = .ok (.baload, 1) := by decide +kernel
theorem dX12_isLocked_59 : decode cX12_isLocked 59 = .ok (.ifCond .eq 7, 3) := by decide +kernel
theorem dX12_isLocked_62 : decode cX12_isLocked 62 = .ok (.iconst 1, 1) := by decide +kernel
theorem dX12_isLocked_63 : decode cX12_isLocked 63 = .ok (.goto 4, 3) := by decide +kernel
theorem dX12_isLocked_66 : decode cX12_isLocked 66 = .ok (.iconst 0, 1) := by decide +kernel
theorem dX12_isLocked_67 : decode cX12_isLocked 67 = .ok (.istore_n 2, 1) := by decide +kernel
theorem dX12_isLocked_68 : decode cX12_isLocked 68 = .ok (.iload_n 2, 1) := by decide +kernel
theorem dX12_isLocked_69 : decode cX12_isLocked 69 = .ok (.ifCond .eq 49, 3) := by decide +kernel
theorem dX12_isLocked_72 : decode cX12_isLocked 72 = .ok (.aload_n 0, 1) := by decide +kernel
theorem dX12_isLocked_73 : decode cX12_isLocked 73 = .ok (.iload_n 1, 1) := by decide +kernel
theorem dX12_isLocked_74 : decode cX12_isLocked 74 = .ok (.iconst 0, 1) := by decide +kernel
theorem dX12_isLocked_75 : decode cX12_isLocked 75 = .ok (.invokevirtual 312, 3) := by decide +kernel
theorem dX12_isLocked_78 : decode cX12_isLocked 78 = .ok (.aload_n 0, 1) := by decide +kernel
theorem dX12_isLocked_79 : decode cX12_isLocked 79 = .ok (.getfield 297, 3) := by decide +kernel
theorem dX12_isLocked_82 : decode cX12_isLocked 82 = .ok (.aload_n 0, 1) := by decide +kernel
theorem dX12_isLocked_83 : decode cX12_isLocked 83 = .ok (.getfield 80, 3) := by decide +kernel
theorem dX12_isLocked_86 : decode cX12_isLocked 86 = .ok (.aload_n 0, 1) := by decide +kernel
theorem dX12_isLocked_87 : decode cX12_isLocked 87 = .ok (.getfield 13, 3) := by decide +kernel
theorem dX12_isLocked_90 : decode cX12_isLocked 90 = .ok (.iload_n 1, 1) := by decide +kernel
theorem dX12_isLocked_91 : decode cX12_isLocked 91 = .ok (.iaload, 1) := by decide +kernel
theorem dX12_isLocked_92 : decode cX12_isLocked 92 = .ok (.laload, 1) := by decide +kernel
theorem dX12_isLocked_93 : decode cX12_isLocked 93 = .ok (.lcmp, 1) := by decide +kernel
theorem dX12_isLocked_94 : decode cX12_isLocked 94 = .ok (.ifCond .ne 22, 3) := by decide +kernel
theorem dX12_isLocked_97 : decode cX12_isLocked 97 = .ok (.aload_n 0, 1) := by decide +kernel
theorem dX12_isLocked_98 : decode cX12_isLocked 98 = .ok (.getfield 300, 3) := by decide +kernel
theorem dX12_isLocked_101 : decode cX12_isLocked 101 = .ok (.aload_n 0, 1) := by decide +kernel
theorem dX12_isLocked_102 : decode cX12_isLocked 102 = .ok (.getfield 84, 3) := by decide +kernel
theorem dX12_isLocked_105 : decode cX12_isLocked 105 = .ok (.aload_n 0, 1) := by decide +kernel
theorem dX12_isLocked_106 : decode cX12_isLocked 106 = .ok (.getfield 13, 3) := by decide +kernel
theorem dX12_isLocked_109 : decode cX12_isLocked 109 = .ok (.iload_n 1, 1) := by decide +kernel
theorem dX12_isLocked_110 : decode cX12_isLocked 110 = .ok (.iaload, 1) := by decide +kernel
theorem dX12_isLocked_111 : decode cX12_isLocked 111 = .ok (.laload, 1) := by decide +kernel
theorem dX12_isLocked_112 : decode cX12_isLocked 112 = .ok (.lcmp, 1) := by decide +kernel
theorem dX12_isLocked_113 : decode cX12_isLocked 113 = .ok (.ifCond .eq 5, 3) := by decide +kernel
theorem dX12_isLocked_116 : decode cX12_isLocked 116 = .ok (.iconst 1, 1) := by decide +kernel
theorem dX12_isLocked_117 : decode cX12_isLocked 117 = .ok (.ireturn, 1) := by decide +kernel
theorem dX12_isLocked_118 : decode cX12_isLocked 118 = .ok (.iinc 1 1, 3) := by decide +kernel
theorem dX12_isLocked_121 : decode cX12_isLocked 121 = .ok (.goto (-119), 3) := by decide +kernel
theorem dX12_isLocked_124 : decode cX12_isLocked 124 = .ok (.iconst 0, 1) := by decide +kernel
theorem dX12_isLocked_125 : decode cX12_isLocked 125 = .ok (.ireturn, 1) := by decide +kernel
def f_Md_isLocked_L67 (k2 : Int32 → (Nat → Nat → Int32) → (Nat → Nat → Int64) → Option (Int32 × (Nat → Nat → Int32) × (Nat → Nat → Int64))) (l1 : Int32) (s0 : Int32) (I : (Nat → Nat → Int32)) (L : (Nat → Nat → Int64)) : Option (Int32 × (Nat → Nat → Int32) × (Nat → Nat → Int64)) := (if s0 = (0 : Int32) then (k2 (l1 + (1 : Int32)) I L) else ((f_Md_tells l1 (0 : Int32) I L).bind fun q6 => (if (0 ≤ l1 ∧ l1 < (40 : Int32)) then (if (0 ≤ (q6.1 36 (l1.toNatClampNeg)) ∧ (q6.1 36 (l1.toNatClampNeg)) < (24 : Int32)) then (if (q6.2 34 51) = (q6.2 58 ((q6.1 36 (l1.toNatClampNeg)).toNatClampNeg)) then (if (0 ≤ l1 ∧ l1 < (40 : Int32)) then (if (0 ≤ (q6.1 36 (l1.toNatClampNeg)) ∧ (q6.1 36 (l1.toNatClampNeg)) < (24 : Int32)) then (if (q6.2 34 52) = (q6.2 59 ((q6.1 36 (l1.toNatClampNeg)).toNatClampNeg)) then (k2 (l1 + (1 : Int32)) q6.1 q6.2) else (some ((1 : Int32), q6.1, q6.2))) else none) else none) else (some ((1 : Int32), q6.1, q6.2))) else none) else none)))
set_option maxRecDepth 100000 in
set_option maxHeartbeats 4000000 in
theorem x_Md_isLocked_L67 {G : xG} {S : List xSh} {Rf : Nat → Nat → Option Nat} (hT : xTM S Rf) {k2 : Int32 → (Nat → Nat → Int32) → (Nat → Nat → Int64) → Option (Int32 × (Nat → Nat → Int32) × (Nat → Nat → Int64))} (hk2 : ∀ {l1 : Int32} {I : Nat → Nat → Int32} {L : Nat → Nat → Int64} {q : (Int32 × (Nat → Nat → Int32) × (Nat → Nat → Int64))}, k2 l1 I L = some q → X G 4 m_Md_isLocked 2 [(0, .ref (xP G 34)), (1, .int l1)] [] (S, I, L, Rf) (some (.int q.1), (S, q.2.1, q.2.2, Rf))) {l1 : Int32} {s0 : Int32} {I : Nat → Nat → Int32} {L : Nat → Nat → Int64} {q : (Int32 × (Nat → Nat → Int32) × (Nat → Nat → Int64))} (hf : f_Md_isLocked_L67 k2 l1 s0 I L = some q) : X G 4 m_Md_isLocked 67 [(0, .ref (xP G 34)), (1, .int l1)] [.int s0] (S, I, L, Rf) (some (.int q.1), (S, q.2.1, q.2.2, Rf)) := by
  replace hf := (f_Md_isLocked_L67.eq_1 _ _ _ _ _).symm.trans hf
  refine X_istore_n (pc := 67) (i := 2) [(2, .int s0), (0, .ref (xP G 34)), (1, .int l1)] dX12_isLocked_67 rfl (by decide) rfl ?_
  refine X_iload_n (pc := 68) (i := 2) 0 dX12_isLocked_68 rfl rfl ?_
  by_cases c5 : s0 = (0 : Int32)
  · replace hf := (if_pos c5).symm.trans hf
    refine X_if_eq_t (pc := 69) 118 dX12_isLocked_69 (by decide) c5 ?_
    refine X_iinc (pc := 118) (i := 1) (q := 2) (v := (l1 + (1 : Int32))) [(1, .int (l1 + (1 : Int32))), (2, .int s0), (0, .ref (xP G 34))] dX12_isLocked_118 rfl rfl (by decide) rfl ?_
    refine X_goto (pc := 121) 2 dX12_isLocked_121 (by decide) ?_
    exact X_lvs [2, 0] rfl (hk2 hf)
  · replace hf := (if_neg c5).symm.trans hf
    refine X_if_eq_f (pc := 69) 118 dX12_isLocked_69 (by decide) c5 ?_
    refine X_aload_n (pc := 72) (i := 0) 1 dX12_isLocked_72 rfl rfl ?_
    refine X_iload_n (pc := 73) (i := 1) 2 dX12_isLocked_73 rfl rfl ?_
    refine X_iconst (pc := 74) (0 : Int32) dX12_isLocked_74 (by decide) ?_
    obtain ⟨q6, c7, hf⟩ := bd_some hf
    refine X_invV_v (pc := 75) (c_Md_tells hT c7) ok_Md_tells (ci := 11) (sh_34 hT) k_1556 k_1558 k_48 nd_10 (by decide) rfl (Nat.le_of_ble_eq_true rfl) dX12_isLocked_75 ?_
    refine X_aload_n (pc := 78) (i := 0) 1 dX12_isLocked_78 rfl rfl ?_
    refine X_get (pc := 79) (a := 34) (ci := 11) (j := 51) (.long (q6.2 34 51)) (sh_34 hT) (by decide) k_1279 rfl dX12_isLocked_79 ?_
    refine X_aload_n (pc := 82) (i := 0) 1 dX12_isLocked_82 rfl rfl ?_
    refine X_getr (pc := 83) (a := 34) (ci := 11) (j := 49) (c := 58) (sh_34 hT) (by decide) k_1277 (rf_34_49 hT) (fun _ h => h) dX12_isLocked_83 ?_
    refine X_aload_n (pc := 86) (i := 0) 1 dX12_isLocked_86 rfl rfl ?_
    refine X_getr (pc := 87) (a := 34) (ci := 11) (j := 3) (c := 36) (sh_34 hT) (by decide) k_1231 (rf_34_3 hT) (fun _ h => h) dX12_isLocked_87 ?_
    refine X_iload_n (pc := 90) (i := 1) 2 dX12_isLocked_90 rfl rfl ?_
    obtain ⟨c8, hf⟩ := gd_some hf
    refine X_ialdj (pc := 91) (j := l1.toNatClampNeg) (q6.1 36 (l1.toNatClampNeg)) (sh_36 hT) (vp_in_lit (N := 40) c8 (by decide)) rfl rfl dX12_isLocked_91 ?_
    obtain ⟨c9, hf⟩ := gd_some hf
    refine X_laldj (pc := 92) (j := (q6.1 36 (l1.toNatClampNeg)).toNatClampNeg) (q6.2 58 ((q6.1 36 (l1.toNatClampNeg)).toNatClampNeg)) (sh_58 hT) (vp_in_lit (N := 24) c9 (by decide)) rfl rfl dX12_isLocked_92 ?_
    refine X_lcmp (pc := 93) dX12_isLocked_93 ?_
    by_cases c10 : (q6.2 34 51) = (q6.2 58 ((q6.1 36 (l1.toNatClampNeg)).toNatClampNeg))
    · replace hf := (if_pos c10).symm.trans hf
      refine X_if_ne_f (pc := 94) 116 dX12_isLocked_94 (by decide) ((lg_cmp_eq _ _).mpr c10) ?_
      refine X_aload_n (pc := 97) (i := 0) 1 dX12_isLocked_97 rfl rfl ?_
      refine X_get (pc := 98) (a := 34) (ci := 11) (j := 52) (.long (q6.2 34 52)) (sh_34 hT) (by decide) k_1280 rfl dX12_isLocked_98 ?_
      refine X_aload_n (pc := 101) (i := 0) 1 dX12_isLocked_101 rfl rfl ?_
      refine X_getr (pc := 102) (a := 34) (ci := 11) (j := 50) (c := 59) (sh_34 hT) (by decide) k_1278 (rf_34_50 hT) (fun _ h => h) dX12_isLocked_102 ?_
      refine X_aload_n (pc := 105) (i := 0) 1 dX12_isLocked_105 rfl rfl ?_
      refine X_getr (pc := 106) (a := 34) (ci := 11) (j := 3) (c := 36) (sh_34 hT) (by decide) k_1231 (rf_34_3 hT) (fun _ h => h) dX12_isLocked_106 ?_
      refine X_iload_n (pc := 109) (i := 1) 2 dX12_isLocked_109 rfl rfl ?_
      obtain ⟨c11, hf⟩ := gd_some hf
      refine X_ialdj (pc := 110) (j := l1.toNatClampNeg) (q6.1 36 (l1.toNatClampNeg)) (sh_36 hT) (vp_in_lit (N := 40) c11 (by decide)) rfl rfl dX12_isLocked_110 ?_
      obtain ⟨c12, hf⟩ := gd_some hf
      refine X_laldj (pc := 111) (j := (q6.1 36 (l1.toNatClampNeg)).toNatClampNeg) (q6.2 59 ((q6.1 36 (l1.toNatClampNeg)).toNatClampNeg)) (sh_59 hT) (vp_in_lit (N := 24) c12 (by decide)) rfl rfl dX12_isLocked_111 ?_
      refine X_lcmp (pc := 112) dX12_isLocked_112 ?_
      by_cases c13 : (q6.2 34 52) = (q6.2 59 ((q6.1 36 (l1.toNatClampNeg)).toNatClampNeg))
      · replace hf := (if_pos c13).symm.trans hf
        refine X_if_eq_t (pc := 113) 118 dX12_isLocked_113 (by decide) ((lg_cmp_eq _ _).mpr c13) ?_
        refine X_iinc (pc := 118) (i := 1) (q := 2) (v := (l1 + (1 : Int32))) [(1, .int (l1 + (1 : Int32))), (2, .int s0), (0, .ref (xP G 34))] dX12_isLocked_118 rfl rfl (by decide) rfl ?_
        refine X_goto (pc := 121) 2 dX12_isLocked_121 (by decide) ?_
        exact X_lvs [2, 0] rfl (hk2 hf)
      · replace hf := (if_neg c13).symm.trans hf
        refine X_if_eq_f (pc := 113) 118 dX12_isLocked_113 (by decide) (fun h => c13 ((lg_cmp_eq _ _).mp h)) ?_
        refine X_iconst (pc := 116) (1 : Int32) dX12_isLocked_116 (by decide) ?_
        cases hf
        exact X_zreturn (pc := 117) rfl (nar_b (by decide)) dX12_isLocked_117
    · replace hf := (if_neg c10).symm.trans hf
      refine X_if_ne_t (pc := 94) 116 dX12_isLocked_94 (by decide) (fun h => c10 ((lg_cmp_eq _ _).mp h)) ?_
      refine X_iconst (pc := 116) (1 : Int32) dX12_isLocked_116 (by decide) ?_
      cases hf
      exact X_zreturn (pc := 117) rfl (nar_b (by decide)) dX12_isLocked_117
theorem u_Md_isLocked_L67 {S : List xSh} {k2 : Int32 → (Nat → Nat → Int32) → (Nat → Nat → Int64) → Option (Int32 × (Nat → Nat → Int32) × (Nat → Nat → Int64))} (hk2 : ∀ {l1 : Int32} {I : Nat → Nat → Int32} {L : Nat → Nat → Int64} {q : (Int32 × (Nat → Nat → Int32) × (Nat → Nat → Int64))}, k2 l1 I L = some q → FR S [] [4451, 4452] I q.2.1 L q.2.2) {l1 : Int32} {s0 : Int32} {I : Nat → Nat → Int32} {L : Nat → Nat → Int64} {q : (Int32 × (Nat → Nat → Int32) × (Nat → Nat → Int64))} (hf : f_Md_isLocked_L67 k2 l1 s0 I L = some q) : FR S [] [4451, 4452] I q.2.1 L q.2.2 := by
  replace hf := (f_Md_isLocked_L67.eq_1 _ _ _ _ _).symm.trans hf
  by_cases c5 : s0 = (0 : Int32)
  · replace hf := (if_pos c5).symm.trans hf
    exact FR.tr FR.rf (hk2 hf) (by decide) (by decide)
  · replace hf := (if_neg c5).symm.trans hf
    obtain ⟨q6, c7, hf⟩ := bd_some hf
    obtain ⟨c8, hf⟩ := gd_some hf
    obtain ⟨c9, hf⟩ := gd_some hf
    by_cases c10 : (q6.2 34 51) = (q6.2 58 ((q6.1 36 (l1.toNatClampNeg)).toNatClampNeg))
    · replace hf := (if_pos c10).symm.trans hf
      obtain ⟨c11, hf⟩ := gd_some hf
      obtain ⟨c12, hf⟩ := gd_some hf
      by_cases c13 : (q6.2 34 52) = (q6.2 59 ((q6.1 36 (l1.toNatClampNeg)).toNatClampNeg))
      · replace hf := (if_pos c13).symm.trans hf
        exact FR.tr (FR.tr FR.rf (u_Md_tells (q := q6) c7) (by decide) (by decide)) (hk2 hf) (by decide) (by decide)
      · replace hf := (if_neg c13).symm.trans hf
        cases hf
        exact (FR.tr FR.rf (u_Md_tells (q := q6) c7) (by decide) (by decide))
    · replace hf := (if_neg c10).symm.trans hf
      cases hf
      exact (FR.tr FR.rf (u_Md_tells (q := q6) c7) (by decide) (by decide))
def f_Md_isLocked_L66 (k2 : Int32 → (Nat → Nat → Int32) → (Nat → Nat → Int64) → Option (Int32 × (Nat → Nat → Int32) × (Nat → Nat → Int64))) (l1 : Int32) (I : (Nat → Nat → Int32)) (L : (Nat → Nat → Int64)) : Option (Int32 × (Nat → Nat → Int32) × (Nat → Nat → Int64)) := (f_Md_isLocked_L67 k2 l1 (0 : Int32) I L)
set_option maxRecDepth 100000 in
set_option maxHeartbeats 4000000 in
theorem x_Md_isLocked_L66 {G : xG} {S : List xSh} {Rf : Nat → Nat → Option Nat} (hT : xTM S Rf) {k2 : Int32 → (Nat → Nat → Int32) → (Nat → Nat → Int64) → Option (Int32 × (Nat → Nat → Int32) × (Nat → Nat → Int64))} (hk2 : ∀ {l1 : Int32} {I : Nat → Nat → Int32} {L : Nat → Nat → Int64} {q : (Int32 × (Nat → Nat → Int32) × (Nat → Nat → Int64))}, k2 l1 I L = some q → X G 4 m_Md_isLocked 2 [(0, .ref (xP G 34)), (1, .int l1)] [] (S, I, L, Rf) (some (.int q.1), (S, q.2.1, q.2.2, Rf))) {l1 : Int32} {I : Nat → Nat → Int32} {L : Nat → Nat → Int64} {q : (Int32 × (Nat → Nat → Int32) × (Nat → Nat → Int64))} (hf : f_Md_isLocked_L66 k2 l1 I L = some q) : X G 4 m_Md_isLocked 66 [(0, .ref (xP G 34)), (1, .int l1)] [] (S, I, L, Rf) (some (.int q.1), (S, q.2.1, q.2.2, Rf)) := by
  replace hf := (f_Md_isLocked_L66.eq_1 _ _ _ _).symm.trans hf
  refine X_iconst (pc := 66) (0 : Int32) dX12_isLocked_66 (by decide) ?_
  exact X_lvs [0, 1] rfl (x_Md_isLocked_L67 hT hk2 hf)
theorem u_Md_isLocked_L66 {S : List xSh} {k2 : Int32 → (Nat → Nat → Int32) → (Nat → Nat → Int64) → Option (Int32 × (Nat → Nat → Int32) × (Nat → Nat → Int64))} (hk2 : ∀ {l1 : Int32} {I : Nat → Nat → Int32} {L : Nat → Nat → Int64} {q : (Int32 × (Nat → Nat → Int32) × (Nat → Nat → Int64))}, k2 l1 I L = some q → FR S [] [4451, 4452] I q.2.1 L q.2.2) {l1 : Int32} {I : Nat → Nat → Int32} {L : Nat → Nat → Int64} {q : (Int32 × (Nat → Nat → Int32) × (Nat → Nat → Int64))} (hf : f_Md_isLocked_L66 k2 l1 I L = some q) : FR S [] [4451, 4452] I q.2.1 L q.2.2 := by
  replace hf := (f_Md_isLocked_L66.eq_1 _ _ _ _).symm.trans hf
  exact FR.tr FR.rf (u_Md_isLocked_L67 hk2 hf) (by decide) (by decide)
def f_Md_isLocked_L62 (k2 : Int32 → (Nat → Nat → Int32) → (Nat → Nat → Int64) → Option (Int32 × (Nat → Nat → Int32) × (Nat → Nat → Int64))) (l1 : Int32) (I : (Nat → Nat → Int32)) (L : (Nat → Nat → Int64)) : Option (Int32 × (Nat → Nat → Int32) × (Nat → Nat → Int64)) := (f_Md_isLocked_L67 k2 l1 (1 : Int32) I L)
set_option maxRecDepth 100000 in
set_option maxHeartbeats 4000000 in
theorem x_Md_isLocked_L62 {G : xG} {S : List xSh} {Rf : Nat → Nat → Option Nat} (hT : xTM S Rf) {k2 : Int32 → (Nat → Nat → Int32) → (Nat → Nat → Int64) → Option (Int32 × (Nat → Nat → Int32) × (Nat → Nat → Int64))} (hk2 : ∀ {l1 : Int32} {I : Nat → Nat → Int32} {L : Nat → Nat → Int64} {q : (Int32 × (Nat → Nat → Int32) × (Nat → Nat → Int64))}, k2 l1 I L = some q → X G 4 m_Md_isLocked 2 [(0, .ref (xP G 34)), (1, .int l1)] [] (S, I, L, Rf) (some (.int q.1), (S, q.2.1, q.2.2, Rf))) {l1 : Int32} {I : Nat → Nat → Int32} {L : Nat → Nat → Int64} {q : (Int32 × (Nat → Nat → Int32) × (Nat → Nat → Int64))} (hf : f_Md_isLocked_L62 k2 l1 I L = some q) : X G 4 m_Md_isLocked 62 [(0, .ref (xP G 34)), (1, .int l1)] [] (S, I, L, Rf) (some (.int q.1), (S, q.2.1, q.2.2, Rf)) := by
  replace hf := (f_Md_isLocked_L62.eq_1 _ _ _ _).symm.trans hf
  refine X_iconst (pc := 62) (1 : Int32) dX12_isLocked_62 (by decide) ?_
  refine X_goto (pc := 63) 67 dX12_isLocked_63 (by decide) ?_
  exact X_lvs [0, 1] rfl (x_Md_isLocked_L67 hT hk2 hf)
theorem u_Md_isLocked_L62 {S : List xSh} {k2 : Int32 → (Nat → Nat → Int32) → (Nat → Nat → Int64) → Option (Int32 × (Nat → Nat → Int32) × (Nat → Nat → Int64))} (hk2 : ∀ {l1 : Int32} {I : Nat → Nat → Int32} {L : Nat → Nat → Int64} {q : (Int32 × (Nat → Nat → Int32) × (Nat → Nat → Int64))}, k2 l1 I L = some q → FR S [] [4451, 4452] I q.2.1 L q.2.2) {l1 : Int32} {I : Nat → Nat → Int32} {L : Nat → Nat → Int64} {q : (Int32 × (Nat → Nat → Int32) × (Nat → Nat → Int64))} (hf : f_Md_isLocked_L62 k2 l1 I L = some q) : FR S [] [4451, 4452] I q.2.1 L q.2.2 := by
  replace hf := (f_Md_isLocked_L62.eq_1 _ _ _ _).symm.trans hf
  exact FR.tr FR.rf (u_Md_isLocked_L67 hk2 hf) (by decide) (by decide)
def f_Md_isLocked_L2 : Nat → Int32 → (Nat → Nat → Int32) → (Nat → Nat → Int64) → Option (Int32 × (Nat → Nat → Int32) × (Nat → Nat → Int64))
  | 0, _, _, _ => none
  | n + 1, l1, I, L => (if (I 34 1) ≤ l1 then (some ((0 : Int32), I, L)) else (if (0 ≤ l1 ∧ l1 < (40 : Int32)) then (if (0 ≤ (I 36 (l1.toNatClampNeg)) ∧ (I 36 (l1.toNatClampNeg)) < (24 : Int32)) then (if (I 57 ((I 36 (l1.toNatClampNeg)).toNatClampNeg)) = (0 : Int32) then (f_Md_isLocked_L66 (f_Md_isLocked_L2 n) l1 I L) else (if (0 ≤ l1 ∧ l1 < (40 : Int32)) then (if (0 ≤ (I 37 (l1.toNatClampNeg)) ∧ (I 37 (l1.toNatClampNeg)) < (24 : Int32)) then (if (I 57 ((I 37 (l1.toNatClampNeg)).toNatClampNeg)) = (0 : Int32) then (f_Md_isLocked_L66 (f_Md_isLocked_L2 n) l1 I L) else (if (0 ≤ l1 ∧ l1 < (40 : Int32)) then (if (I 35 (l1.toNatClampNeg)) < (2 : Int32) then (f_Md_isLocked_L62 (f_Md_isLocked_L2 n) l1 I L) else (if (0 ≤ l1 ∧ l1 < (40 : Int32)) then (if (0 ≤ (I 38 (l1.toNatClampNeg)) ∧ (I 38 (l1.toNatClampNeg)) < (24 : Int32)) then (if (I 57 ((I 38 (l1.toNatClampNeg)).toNatClampNeg)) = (0 : Int32) then (f_Md_isLocked_L66 (f_Md_isLocked_L2 n) l1 I L) else (f_Md_isLocked_L62 (f_Md_isLocked_L2 n) l1 I L)) else none) else none)) else none)) else none) else none)) else none) else none))
set_option maxRecDepth 100000 in
set_option maxHeartbeats 4000000 in
theorem x_Md_isLocked_L2 {G : xG} {S : List xSh} {Rf : Nat → Nat → Option Nat} (hT : xTM S Rf) : ∀ (n : Nat) {l1 : Int32} {I : Nat → Nat → Int32} {L : Nat → Nat → Int64} {q : (Int32 × (Nat → Nat → Int32) × (Nat → Nat → Int64))}, f_Md_isLocked_L2 n l1 I L = some q → X G 4 m_Md_isLocked 2 [(0, .ref (xP G 34)), (1, .int l1)] [] (S, I, L, Rf) (some (.int q.1), (S, q.2.1, q.2.2, Rf)) := by
  intro n
  induction n with
  | zero =>
    intro l1 I L q hf
    exact absurd (show none = some q from hf) (by simp)
  | succ n ih =>
    intro l1 I L q hf
    replace hf := (f_Md_isLocked_L2.eq_2 _ _ _ _).symm.trans hf
    refine X_iload_n (pc := 2) (i := 1) 1 dX12_isLocked_2 rfl rfl ?_
    refine X_aload_n (pc := 3) (i := 0) 0 dX12_isLocked_3 rfl rfl ?_
    refine X_get (pc := 4) (a := 34) (ci := 11) (j := 1) (.int (I 34 1)) (sh_34 hT) (by decide) k_1229 rfl dX12_isLocked_4 ?_
    by_cases c1 : (I 34 1) ≤ l1
    · replace hf := (if_pos c1).symm.trans hf
      refine X_icmp_ge_t (pc := 7) 124 dX12_isLocked_7 (by decide) c1 ?_
      refine X_iconst (pc := 124) (0 : Int32) dX12_isLocked_124 (by decide) ?_
      cases hf
      exact X_zreturn (pc := 125) rfl (nar_b (by decide)) dX12_isLocked_125
    · replace hf := (if_neg c1).symm.trans hf
      refine X_icmp_ge_f (pc := 7) 124 dX12_isLocked_7 (by decide) c1 ?_
      refine X_aload_n (pc := 10) (i := 0) 0 dX12_isLocked_10 rfl rfl ?_
      refine X_getr (pc := 11) (a := 34) (ci := 11) (j := 48) (c := 57) (sh_34 hT) (by decide) k_1276 (rf_34_48 hT) (fun _ h => h) dX12_isLocked_11 ?_
      refine X_aload_n (pc := 14) (i := 0) 0 dX12_isLocked_14 rfl rfl ?_
      refine X_getr (pc := 15) (a := 34) (ci := 11) (j := 3) (c := 36) (sh_34 hT) (by decide) k_1231 (rf_34_3 hT) (fun _ h => h) dX12_isLocked_15 ?_
      refine X_iload_n (pc := 18) (i := 1) 1 dX12_isLocked_18 rfl rfl ?_
      obtain ⟨c2, hf⟩ := gd_some hf
      refine X_ialdj (pc := 19) (j := l1.toNatClampNeg) (I 36 (l1.toNatClampNeg)) (sh_36 hT) (vp_in_lit (N := 40) c2 (by decide)) rfl rfl dX12_isLocked_19 ?_
      obtain ⟨c3, hf⟩ := gd_some hf
      refine X_zaldj (pc := 20) (j := (I 36 (l1.toNatClampNeg)).toNatClampNeg) (I 57 ((I 36 (l1.toNatClampNeg)).toNatClampNeg)) (sh_57 hT) (vp_in_lit (N := 24) c3 (by decide)) rfl rfl dX12_isLocked_20 ?_
      by_cases c4 : (I 57 ((I 36 (l1.toNatClampNeg)).toNatClampNeg)) = (0 : Int32)
      · replace hf := (if_pos c4).symm.trans hf
        refine X_if_eq_t (pc := 21) 66 dX12_isLocked_21 (by decide) c4 ?_
        exact X_lvs [0, 1] rfl (x_Md_isLocked_L66 hT ih hf)
      · replace hf := (if_neg c4).symm.trans hf
        refine X_if_eq_f (pc := 21) 66 dX12_isLocked_21 (by decide) c4 ?_
        refine X_aload_n (pc := 24) (i := 0) 0 dX12_isLocked_24 rfl rfl ?_
        refine X_getr (pc := 25) (a := 34) (ci := 11) (j := 48) (c := 57) (sh_34 hT) (by decide) k_1276 (rf_34_48 hT) (fun _ h => h) dX12_isLocked_25 ?_
        refine X_aload_n (pc := 28) (i := 0) 0 dX12_isLocked_28 rfl rfl ?_
        refine X_getr (pc := 29) (a := 34) (ci := 11) (j := 4) (c := 37) (sh_34 hT) (by decide) k_1232 (rf_34_4 hT) (fun _ h => h) dX12_isLocked_29 ?_
        refine X_iload_n (pc := 32) (i := 1) 1 dX12_isLocked_32 rfl rfl ?_
        obtain ⟨c14, hf⟩ := gd_some hf
        refine X_ialdj (pc := 33) (j := l1.toNatClampNeg) (I 37 (l1.toNatClampNeg)) (sh_37 hT) (vp_in_lit (N := 40) c14 (by decide)) rfl rfl dX12_isLocked_33 ?_
        obtain ⟨c15, hf⟩ := gd_some hf
        refine X_zaldj (pc := 34) (j := (I 37 (l1.toNatClampNeg)).toNatClampNeg) (I 57 ((I 37 (l1.toNatClampNeg)).toNatClampNeg)) (sh_57 hT) (vp_in_lit (N := 24) c15 (by decide)) rfl rfl dX12_isLocked_34 ?_
        by_cases c16 : (I 57 ((I 37 (l1.toNatClampNeg)).toNatClampNeg)) = (0 : Int32)
        · replace hf := (if_pos c16).symm.trans hf
          refine X_if_eq_t (pc := 35) 66 dX12_isLocked_35 (by decide) c16 ?_
          exact X_lvs [0, 1] rfl (x_Md_isLocked_L66 hT ih hf)
        · replace hf := (if_neg c16).symm.trans hf
          refine X_if_eq_f (pc := 35) 66 dX12_isLocked_35 (by decide) c16 ?_
          refine X_aload_n (pc := 38) (i := 0) 0 dX12_isLocked_38 rfl rfl ?_
          refine X_getr (pc := 39) (a := 34) (ci := 11) (j := 2) (c := 35) (sh_34 hT) (by decide) k_1230 (rf_34_2 hT) (fun _ h => h) dX12_isLocked_39 ?_
          refine X_iload_n (pc := 42) (i := 1) 1 dX12_isLocked_42 rfl rfl ?_
          obtain ⟨c17, hf⟩ := gd_some hf
          refine X_ialdj (pc := 43) (j := l1.toNatClampNeg) (I 35 (l1.toNatClampNeg)) (sh_35 hT) (vp_in_lit (N := 40) c17 (by decide)) rfl rfl dX12_isLocked_43 ?_
          refine X_iconst (pc := 44) (2 : Int32) dX12_isLocked_44 (by decide) ?_
          by_cases c18 : (I 35 (l1.toNatClampNeg)) < (2 : Int32)
          · replace hf := (if_pos c18).symm.trans hf
            refine X_icmp_lt_t (pc := 45) 62 dX12_isLocked_45 (by decide) c18 ?_
            exact X_lvs [0, 1] rfl (x_Md_isLocked_L62 hT ih hf)
          · replace hf := (if_neg c18).symm.trans hf
            refine X_icmp_lt_f (pc := 45) 62 dX12_isLocked_45 (by decide) c18 ?_
            refine X_aload_n (pc := 48) (i := 0) 0 dX12_isLocked_48 rfl rfl ?_
            refine X_getr (pc := 49) (a := 34) (ci := 11) (j := 48) (c := 57) (sh_34 hT) (by decide) k_1276 (rf_34_48 hT) (fun _ h => h) dX12_isLocked_49 ?_
            refine X_aload_n (pc := 52) (i := 0) 0 dX12_isLocked_52 rfl rfl ?_
            refine X_getr (pc := 53) (a := 34) (ci := 11) (j := 5) (c := 38) (sh_34 hT) (by decide) k_1233 (rf_34_5 hT) (fun _ h => h) dX12_isLocked_53 ?_
            refine X_iload_n (pc := 56) (i := 1) 1 dX12_isLocked_56 rfl rfl ?_
            obtain ⟨c19, hf⟩ := gd_some hf
            refine X_ialdj (pc := 57) (j := l1.toNatClampNeg) (I 38 (l1.toNatClampNeg)) (sh_38 hT) (vp_in_lit (N := 40) c19 (by decide)) rfl rfl dX12_isLocked_57 ?_
            obtain ⟨c20, hf⟩ := gd_some hf
            refine X_zaldj (pc := 58) (j := (I 38 (l1.toNatClampNeg)).toNatClampNeg) (I 57 ((I 38 (l1.toNatClampNeg)).toNatClampNeg)) (sh_57 hT) (vp_in_lit (N := 24) c20 (by decide)) rfl rfl dX12_isLocked_58 ?_
            by_cases c21 : (I 57 ((I 38 (l1.toNatClampNeg)).toNatClampNeg)) = (0 : Int32)
            · replace hf := (if_pos c21).symm.trans hf
              refine X_if_eq_t (pc := 59) 66 dX12_isLocked_59 (by decide) c21 ?_
              exact X_lvs [0, 1] rfl (x_Md_isLocked_L66 hT ih hf)
            · replace hf := (if_neg c21).symm.trans hf
              refine X_if_eq_f (pc := 59) 66 dX12_isLocked_59 (by decide) c21 ?_
              exact X_lvs [0, 1] rfl (x_Md_isLocked_L62 hT ih hf)
theorem u_Md_isLocked_L2 {S : List xSh} : ∀ (n : Nat) {l1 : Int32} {I : Nat → Nat → Int32} {L : Nat → Nat → Int64} {q : (Int32 × (Nat → Nat → Int32) × (Nat → Nat → Int64))}, f_Md_isLocked_L2 n l1 I L = some q → FR S [] [4451, 4452] I q.2.1 L q.2.2 := by
  intro n
  induction n with
  | zero =>
    intro l1 I L q hf
    exact absurd (show none = some q from hf) (by simp)
  | succ n ih =>
    intro l1 I L q hf
    replace hf := (f_Md_isLocked_L2.eq_2 _ _ _ _).symm.trans hf
    by_cases c1 : (I 34 1) ≤ l1
    · replace hf := (if_pos c1).symm.trans hf
      cases hf
      exact FR.rf
    · replace hf := (if_neg c1).symm.trans hf
      obtain ⟨c2, hf⟩ := gd_some hf
      obtain ⟨c3, hf⟩ := gd_some hf
      by_cases c4 : (I 57 ((I 36 (l1.toNatClampNeg)).toNatClampNeg)) = (0 : Int32)
      · replace hf := (if_pos c4).symm.trans hf
        exact FR.tr FR.rf (u_Md_isLocked_L66 ih hf) (by decide) (by decide)
      · replace hf := (if_neg c4).symm.trans hf
        obtain ⟨c14, hf⟩ := gd_some hf
        obtain ⟨c15, hf⟩ := gd_some hf
        by_cases c16 : (I 57 ((I 37 (l1.toNatClampNeg)).toNatClampNeg)) = (0 : Int32)
        · replace hf := (if_pos c16).symm.trans hf
          exact FR.tr FR.rf (u_Md_isLocked_L66 ih hf) (by decide) (by decide)
        · replace hf := (if_neg c16).symm.trans hf
          obtain ⟨c17, hf⟩ := gd_some hf
          by_cases c18 : (I 35 (l1.toNatClampNeg)) < (2 : Int32)
          · replace hf := (if_pos c18).symm.trans hf
            exact FR.tr FR.rf (u_Md_isLocked_L62 ih hf) (by decide) (by decide)
          · replace hf := (if_neg c18).symm.trans hf
            obtain ⟨c19, hf⟩ := gd_some hf
            obtain ⟨c20, hf⟩ := gd_some hf
            by_cases c21 : (I 57 ((I 38 (l1.toNatClampNeg)).toNatClampNeg)) = (0 : Int32)
            · replace hf := (if_pos c21).symm.trans hf
              exact FR.tr FR.rf (u_Md_isLocked_L66 ih hf) (by decide) (by decide)
            · replace hf := (if_neg c21).symm.trans hf
              exact FR.tr FR.rf (u_Md_isLocked_L62 ih hf) (by decide) (by decide)
def f_Md_isLocked (I : Nat → Nat → Int32) (L : Nat → Nat → Int64) : Option (Int32 × (Nat → Nat → Int32) × (Nat → Nat → Int64)) := (f_Md_isLocked_L2 xF (0 : Int32) I L)
set_option maxRecDepth 100000 in
set_option maxHeartbeats 4000000 in
theorem c_Md_isLocked {G : xG} {S : List xSh} {Rf : Nat → Nat → Option Nat} (hT : xTM S Rf) {I : Nat → Nat → Int32} {L : Nat → Nat → Int64} {q : (Int32 × (Nat → Nat → Int32) × (Nat → Nat → Int64))} (hf : f_Md_isLocked I L = some q) : CT G 4 m_Md_isLocked [.ref (xP G 34)] (S, I, L, Rf) (some (.int q.1), (S, q.2.1, q.2.2, Rf)) := by
  refine CT.of (by decide +kernel) (Nat.le_of_ble_eq_true rfl) ?_
  show X G 4 m_Md_isLocked 0 [(0, .ref (xP G 34))] [] (S, I, L, Rf) (some (.int q.1), (S, q.2.1, q.2.2, Rf))
  replace hf := (f_Md_isLocked.eq_1 _ _).symm.trans hf
  refine X_iconst (pc := 0) (0 : Int32) dX12_isLocked_0 (by decide) ?_
  refine X_istore_n (pc := 1) (i := 1) [(1, .int (0 : Int32)), (0, .ref (xP G 34))] dX12_isLocked_1 rfl (by decide) rfl ?_
  exact X_lvs [1, 0] rfl (x_Md_isLocked_L2 hT xF hf)
theorem u_Md_isLocked {S : List xSh} {I : Nat → Nat → Int32} {L : Nat → Nat → Int64} {q : (Int32 × (Nat → Nat → Int32) × (Nat → Nat → Int64))} (hf : f_Md_isLocked I L = some q) : FR S [] [4451, 4452] I q.2.1 L q.2.2 := by
  replace hf := (f_Md_isLocked.eq_1 _ _).symm.trans hf
  exact FR.tr FR.rf (u_Md_isLocked_L2 xF hf) (by decide) (by decide)
theorem dX12_go_0 : decode cX12_go 0 = .ok (.aload_n 0, 1) := by decide +kernel
theorem dX12_go_1 : decode cX12_go 1 = .ok (.getfield 178, 3) := by decide +kernel
theorem dX12_go_4 : decode cX12_go 4 = .ok (.ifCond .ne 10, 3) := by decide +kernel
theorem dX12_go_7 : decode cX12_go 7 = .ok (.aload_n 0, 1) := by decide +kernel
theorem dX12_go_8 : decode cX12_go 8 = .ok (.getfield 150, 3) := by decide +kernel
theorem dX12_go_11 : decode cX12_go 11 = .ok (.ifCond .ge 6, 3) := by decide +kernel
theorem dX12_go_14 : decode cX12_go 14 = .ok (.bipush (-2), 2) := by decide +kernel
theorem dX12_go_16 : decode cX12_go 16 = .ok (.ireturn, 1) := by decide +kernel
theorem dX12_go_17 : decode cX12_go 17 = .ok (.aload_n 0, 1) := by decide +kernel
theorem dX12_go_18 : decode cX12_go 18 = .ok (.invokevirtual 273, 3) := by decide +kernel
theorem dX12_go_21 : decode cX12_go 21 = .ok (.aload_n 0, 1) := by decide +kernel
theorem dX12_go_22 : decode cX12_go 22 = .ok (.invokevirtual 276, 3) := by decide +kernel
theorem dX12_go_25 : decode cX12_go 25 = .ok (.ifCond .eq 6, 3) := by decide +kernel
theorem dX12_go_28 : decode cX12_go 28 = .ok (.bipush (-2), 2) := by decide +kernel
theorem dX12_go_30 : decode cX12_go 30 = .ok (.ireturn, 1) := by decide +kernel
theorem dX12_go_31 : decode cX12_go 31 = .ok (.aload_n 0, 1) := by decide +kernel
theorem dX12_go_32 : decode cX12_go 32 = .ok (.iconst 1, 1) := by decide +kernel
theorem dX12_go_33 : decode cX12_go 33 = .ok (.putfield 178, 3) := by decide +kernel
theorem dX12_go_36 : decode cX12_go 36 = .ok (.aload_n 0, 1) := by decide +kernel
theorem dX12_go_37 : decode cX12_go 37 = .ok (.iconst 0, 1) := by decide +kernel
theorem dX12_go_38 : decode cX12_go 38 = .ok (.putfield 144, 3) := by decide +kernel
theorem dX12_go_41 : decode cX12_go 41 = .ok (.aload_n 0, 1) := by decide +kernel
theorem dX12_go_42 : decode cX12_go 42 = .ok (.invokevirtual 182, 3) := by decide +kernel
theorem dX12_go_45 : decode cX12_go 45 = .ok (.iconst 0, 1) := by decide +kernel
theorem dX12_go_46 : decode cX12_go 46 = .ok (.istore_n 1, 1) := by decide +kernel
theorem dX12_go_47 : decode cX12_go 47 = .ok (.iconst 0, 1) := by decide +kernel
theorem dX12_go_48 : decode cX12_go 48 = .ok (.istore_n 2, 1) := by decide +kernel
theorem dX12_go_49 : decode cX12_go 49 = .ok (.iload_n 2, 1) := by decide +kernel
theorem dX12_go_50 : decode cX12_go 50 = .ok (.aload_n 0, 1) := by decide +kernel
theorem dX12_go_51 : decode cX12_go 51 = .ok (.getfield 136, 3) := by decide +kernel
theorem dX12_go_54 : decode cX12_go 54 = .ok (.if_icmp .ge 26, 3) := by decide +kernel
theorem dX12_go_57 : decode cX12_go 57 = .ok (.iload_n 1, 1) := by decide +kernel
theorem dX12_go_58 : decode cX12_go 58 = .ok (.aload_n 0, 1) := by decide +kernel
theorem dX12_go_59 : decode cX12_go 59 = .ok (.getfield 77, 3) := by decide +kernel
theorem dX12_go_62 : decode cX12_go 62 = .ok (.iload_n 2, 1) := by decide +kernel
theorem dX12_go_63 : decode cX12_go 63 = .ok (.baload, 1) := by decide +kernel
theorem dX12_go_64 : decode cX12_go 64 = .ok (.ifCond .eq 7, 3) := by decide +kernel
theorem dX12_go_67 : decode cX12_go 67 = .ok (.iconst 1, 1) := by decide +kernel
theorem dX12_go_68 : decode cX12_go 68 = .ok (.goto 4, 3) := by decide +kernel
theorem dX12_go_71 : decode cX12_go 71 = .ok (.iconst 0, 1) := by decide +kernel
theorem dX12_go_72 : decode cX12_go 72 = .ok (.iadd, 1) := by decide +kernel
theorem dX12_go_73 : decode cX12_go 73 = .ok (.istore_n 1, 1) := by decide +kernel
theorem dX12_go_74 : decode cX12_go 74 = .ok (.iinc 2 1, 3) := by decide +kernel
theorem dX12_go_77 : decode cX12_go 77 = .ok (.goto (-28), 3) := by decide +kernel
theorem dX12_go_80 : decode cX12_go 80 = .ok (.iload_n 1, 1) := by decide +kernel
theorem dX12_go_81 : decode cX12_go 81 = .ok (.ireturn, 1) := by decide +kernel
def f_Md_go_L49 : Nat → Int32 → Int32 → (Nat → Nat → Int32) → (Nat → Nat → Int64) → Option (Int32 × (Nat → Nat → Int32) × (Nat → Nat → Int64))
  | 0, _, _, _, _ => none
  | n + 1, l1, l2, I, L => (if (I 34 0) ≤ l2 then (some (l1, I, L)) else (if (0 ≤ l2 ∧ l2 < (24 : Int32)) then (if (I 57 (l2.toNatClampNeg)) = (0 : Int32) then (bnd (l1 + (0 : Int32)) fun x13 => (f_Md_go_L49 n x13 (l2 + (1 : Int32)) I L)) else (bnd (l1 + (1 : Int32)) fun x14 => (f_Md_go_L49 n x14 (l2 + (1 : Int32)) I L))) else none))
set_option maxRecDepth 100000 in
set_option maxHeartbeats 4000000 in
theorem x_Md_go_L49 {G : xG} {S : List xSh} {Rf : Nat → Nat → Option Nat} (hT : xTM S Rf) : ∀ (n : Nat) {l1 : Int32} {l2 : Int32} {I : Nat → Nat → Int32} {L : Nat → Nat → Int64} {q : (Int32 × (Nat → Nat → Int32) × (Nat → Nat → Int64))}, f_Md_go_L49 n l1 l2 I L = some q → X G 6 m_Md_go 49 [(0, .ref (xP G 34)), (1, .int l1), (2, .int l2)] [] (S, I, L, Rf) (some (.int q.1), (S, q.2.1, q.2.2, Rf)) := by
  intro n
  induction n with
  | zero =>
    intro l1 l2 I L q hf
    exact absurd (show none = some q from hf) (by simp)
  | succ n ih =>
    intro l1 l2 I L q hf
    replace hf := (f_Md_go_L49.eq_2 _ _ _ _ _).symm.trans hf
    refine X_iload_n (pc := 49) (i := 2) 2 dX12_go_49 rfl rfl ?_
    refine X_aload_n (pc := 50) (i := 0) 0 dX12_go_50 rfl rfl ?_
    refine X_get (pc := 51) (a := 34) (ci := 11) (j := 0) (.int (I 34 0)) (sh_34 hT) (by decide) k_1228 rfl dX12_go_51 ?_
    by_cases c10 : (I 34 0) ≤ l2
    · replace hf := (if_pos c10).symm.trans hf
      refine X_icmp_ge_t (pc := 54) 80 dX12_go_54 (by decide) c10 ?_
      refine X_iload_n (pc := 80) (i := 1) 1 dX12_go_80 rfl rfl ?_
      cases hf
      exact X_ireturn (pc := 81) rfl dX12_go_81
    · replace hf := (if_neg c10).symm.trans hf
      refine X_icmp_ge_f (pc := 54) 80 dX12_go_54 (by decide) c10 ?_
      refine X_iload_n (pc := 57) (i := 1) 1 dX12_go_57 rfl rfl ?_
      refine X_aload_n (pc := 58) (i := 0) 0 dX12_go_58 rfl rfl ?_
      refine X_getr (pc := 59) (a := 34) (ci := 11) (j := 48) (c := 57) (sh_34 hT) (by decide) k_1276 (rf_34_48 hT) (fun _ h => h) dX12_go_59 ?_
      refine X_iload_n (pc := 62) (i := 2) 2 dX12_go_62 rfl rfl ?_
      obtain ⟨c11, hf⟩ := gd_some hf
      refine X_zaldj (pc := 63) (j := l2.toNatClampNeg) (I 57 (l2.toNatClampNeg)) (sh_57 hT) (vp_in_lit (N := 24) c11 (by decide)) rfl rfl dX12_go_63 ?_
      by_cases c12 : (I 57 (l2.toNatClampNeg)) = (0 : Int32)
      · replace hf := (if_pos c12).symm.trans hf
        refine X_if_eq_t (pc := 64) 71 dX12_go_64 (by decide) c12 ?_
        refine X_iconst (pc := 71) (0 : Int32) dX12_go_71 (by decide) ?_
        refine X_iadd (pc := 72) dX12_go_72 ?_
        obtain ⟨x13, ex13, hf⟩ := bnd_e hf
        refine X_tope ex13 ?_
        refine X_istore_n (pc := 73) (i := 1) [(1, .int x13), (0, .ref (xP G 34)), (2, .int l2)] dX12_go_73 rfl (by decide) rfl ?_
        refine X_iinc (pc := 74) (i := 2) (q := 2) (v := (l2 + (1 : Int32))) [(2, .int (l2 + (1 : Int32))), (1, .int x13), (0, .ref (xP G 34))] dX12_go_74 rfl rfl (by decide) rfl ?_
        refine X_goto (pc := 77) 49 dX12_go_77 (by decide) ?_
        exact X_lvs [2, 1, 0] rfl (ih hf)
      · replace hf := (if_neg c12).symm.trans hf
        refine X_if_eq_f (pc := 64) 71 dX12_go_64 (by decide) c12 ?_
        refine X_iconst (pc := 67) (1 : Int32) dX12_go_67 (by decide) ?_
        refine X_goto (pc := 68) 72 dX12_go_68 (by decide) ?_
        refine X_iadd (pc := 72) dX12_go_72 ?_
        obtain ⟨x14, ex14, hf⟩ := bnd_e hf
        refine X_tope ex14 ?_
        refine X_istore_n (pc := 73) (i := 1) [(1, .int x14), (0, .ref (xP G 34)), (2, .int l2)] dX12_go_73 rfl (by decide) rfl ?_
        refine X_iinc (pc := 74) (i := 2) (q := 2) (v := (l2 + (1 : Int32))) [(2, .int (l2 + (1 : Int32))), (1, .int x14), (0, .ref (xP G 34))] dX12_go_74 rfl rfl (by decide) rfl ?_
        refine X_goto (pc := 77) 49 dX12_go_77 (by decide) ?_
        exact X_lvs [2, 1, 0] rfl (ih hf)
theorem u_Md_go_L49 {S : List xSh} : ∀ (n : Nat) {l1 : Int32} {l2 : Int32} {I : Nat → Nat → Int32} {L : Nat → Nat → Int64} {q : (Int32 × (Nat → Nat → Int32) × (Nat → Nat → Int64))}, f_Md_go_L49 n l1 l2 I L = some q → FR S [48, 49, 50, 51, 52, 57, 4424, 4425, 4426, 4427, 4428, 4429, 4430, 4431, 4440, 4442, 4445, 4446, 4447] [58, 59, 4432, 4451, 4452] I q.2.1 L q.2.2 := by
  intro n
  induction n with
  | zero =>
    intro l1 l2 I L q hf
    exact absurd (show none = some q from hf) (by simp)
  | succ n ih =>
    intro l1 l2 I L q hf
    replace hf := (f_Md_go_L49.eq_2 _ _ _ _ _).symm.trans hf
    by_cases c10 : (I 34 0) ≤ l2
    · replace hf := (if_pos c10).symm.trans hf
      cases hf
      exact FR.rf
    · replace hf := (if_neg c10).symm.trans hf
      obtain ⟨c11, hf⟩ := gd_some hf
      by_cases c12 : (I 57 (l2.toNatClampNeg)) = (0 : Int32)
      · replace hf := (if_pos c12).symm.trans hf
        obtain ⟨x13, ex13, hf⟩ := bnd_e hf
        exact FR.tr FR.rf (ih hf) (by decide) (by decide)
      · replace hf := (if_neg c12).symm.trans hf
        obtain ⟨x14, ex14, hf⟩ := bnd_e hf
        exact FR.tr FR.rf (ih hf) (by decide) (by decide)
def f_Md_go (I : Nat → Nat → Int32) (L : Nat → Nat → Int64) : Option (Int32 × (Nat → Nat → Int32) × (Nat → Nat → Int64)) := (if (I 34 24) = (0 : Int32) then (if (0 : Int32) ≤ (I 34 8) then ((f_Md_speeds I L).bind fun q3 => ((f_Md_isLocked q3.1 q3.2).bind fun q5 => (if q5.1 = (0 : Int32) then ((f_Md_renew (uI (uI q5.2.1 34 24 (1 : Int32)) 34 42 (0 : Int32)) q5.2.2).bind fun q8 => (f_Md_go_L49 xF (0 : Int32) (0 : Int32) q8.1 q8.2)) else (some ((-2 : Int32), q5.2.1, q5.2.2))))) else (some ((-2 : Int32), I, L))) else (some ((-2 : Int32), I, L)))
set_option maxRecDepth 100000 in
set_option maxHeartbeats 4000000 in
theorem c_Md_go {G : xG} {S : List xSh} {Rf : Nat → Nat → Option Nat} (hT : xTM S Rf) {I : Nat → Nat → Int32} {L : Nat → Nat → Int64} {q : (Int32 × (Nat → Nat → Int32) × (Nat → Nat → Int64))} (hf : f_Md_go I L = some q) : CT G 6 m_Md_go [.ref (xP G 34)] (S, I, L, Rf) (some (.int q.1), (S, q.2.1, q.2.2, Rf)) := by
  refine CT.of (by decide +kernel) (Nat.le_of_ble_eq_true rfl) ?_
  show X G 6 m_Md_go 0 [(0, .ref (xP G 34))] [] (S, I, L, Rf) (some (.int q.1), (S, q.2.1, q.2.2, Rf))
  replace hf := (f_Md_go.eq_1 _ _).symm.trans hf
  refine X_aload_n (pc := 0) (i := 0) 0 dX12_go_0 rfl rfl ?_
  refine X_get (pc := 1) (a := 34) (ci := 11) (j := 24) (.int (I 34 24)) (sh_34 hT) (by decide) k_1252 rfl dX12_go_1 ?_
  by_cases c1 : (I 34 24) = (0 : Int32)
  · replace hf := (if_pos c1).symm.trans hf
    refine X_if_ne_f (pc := 4) 14 dX12_go_4 (by decide) c1 ?_
    refine X_aload_n (pc := 7) (i := 0) 0 dX12_go_7 rfl rfl ?_
    refine X_get (pc := 8) (a := 34) (ci := 11) (j := 8) (.int (I 34 8)) (sh_34 hT) (by decide) k_1236 rfl dX12_go_8 ?_
    by_cases c2 : (0 : Int32) ≤ (I 34 8)
    · replace hf := (if_pos c2).symm.trans hf
      refine X_if_ge_t (pc := 11) 17 dX12_go_11 (by decide) c2 ?_
      refine X_aload_n (pc := 17) (i := 0) 0 dX12_go_17 rfl rfl ?_
      obtain ⟨q3, c4, hf⟩ := bd_some hf
      refine X_invV_v (pc := 18) (c_Md_speeds hT c4) ok_Md_speeds (ci := 11) (sh_34 hT) k_1548 k_1550 k_46 nd_1 (by decide) rfl (Nat.le_of_ble_eq_true rfl) dX12_go_18 ?_
      refine X_aload_n (pc := 21) (i := 0) 0 dX12_go_21 rfl rfl ?_
      obtain ⟨q5, c6, hf⟩ := bd_some hf
      refine X_invV_i (pc := 22) (c_Md_isLocked hT c6) ok_Md_isLocked (ci := 11) (sh_34 hT) k_1569 k_1571 k_50 nd_11 (by decide) rfl (Nat.le_of_ble_eq_true rfl) dX12_go_22 ?_
      by_cases c7 : q5.1 = (0 : Int32)
      · replace hf := (if_pos c7).symm.trans hf
        refine X_if_eq_t (pc := 25) 31 dX12_go_25 (by decide) c7 ?_
        refine X_aload_n (pc := 31) (i := 0) 0 dX12_go_31 rfl rfl ?_
        refine X_iconst (pc := 32) (1 : Int32) dX12_go_32 (by decide) ?_
        refine X_putz (pc := 33) (a := 34) (ci := 11) (j := 24) 24 rfl false (sh_34 hT) (by decide) k_1252 rfl (fun h => by cases h) rfl (by decide) dX12_go_33 ?_
        refine X_aload_n (pc := 36) (i := 0) 0 dX12_go_36 rfl rfl ?_
        refine X_iconst (pc := 37) (0 : Int32) dX12_go_37 (by decide) ?_
        refine X_puti (pc := 38) (a := 34) (ci := 11) (j := 42) 42 rfl false (sh_34 hT) (by decide) k_1270 rfl (fun h => by cases h) rfl dX12_go_38 ?_
        refine X_aload_n (pc := 41) (i := 0) 0 dX12_go_41 rfl rfl ?_
        obtain ⟨q8, c9, hf⟩ := bd_some hf
        refine X_invV_v (pc := 42) (c_Md_renew hT c9) ok_Md_renew (ci := 11) (sh_34 hT) k_1207 k_1209 k_40 nd_1 (by decide) rfl (Nat.le_of_ble_eq_true rfl) dX12_go_42 ?_
        refine X_iconst (pc := 45) (0 : Int32) dX12_go_45 (by decide) ?_
        refine X_istore_n (pc := 46) (i := 1) [(1, .int (0 : Int32)), (0, .ref (xP G 34))] dX12_go_46 rfl (by decide) rfl ?_
        refine X_iconst (pc := 47) (0 : Int32) dX12_go_47 (by decide) ?_
        refine X_istore_n (pc := 48) (i := 2) [(2, .int (0 : Int32)), (1, .int (0 : Int32)), (0, .ref (xP G 34))] dX12_go_48 rfl (by decide) rfl ?_
        exact X_lvs [2, 1, 0] rfl (x_Md_go_L49 hT xF hf)
      · replace hf := (if_neg c7).symm.trans hf
        refine X_if_eq_f (pc := 25) 31 dX12_go_25 (by decide) c7 ?_
        refine X_bipush (pc := 28) (-2 : Int32) dX12_go_28 (by decide) ?_
        cases hf
        exact X_ireturn (pc := 30) rfl dX12_go_30
    · replace hf := (if_neg c2).symm.trans hf
      refine X_if_ge_f (pc := 11) 17 dX12_go_11 (by decide) c2 ?_
      refine X_bipush (pc := 14) (-2 : Int32) dX12_go_14 (by decide) ?_
      cases hf
      exact X_ireturn (pc := 16) rfl dX12_go_16
  · replace hf := (if_neg c1).symm.trans hf
    refine X_if_ne_t (pc := 4) 14 dX12_go_4 (by decide) c1 ?_
    refine X_bipush (pc := 14) (-2 : Int32) dX12_go_14 (by decide) ?_
    cases hf
    exact X_ireturn (pc := 16) rfl dX12_go_16
theorem u_Md_go {S : List xSh} {I : Nat → Nat → Int32} {L : Nat → Nat → Int64} {q : (Int32 × (Nat → Nat → Int32) × (Nat → Nat → Int64))} (hf : f_Md_go I L = some q) : FR S [48, 49, 50, 51, 52, 57, 4424, 4425, 4426, 4427, 4428, 4429, 4430, 4431, 4440, 4442, 4445, 4446, 4447] [58, 59, 4432, 4451, 4452] I q.2.1 L q.2.2 := by
  replace hf := (f_Md_go.eq_1 _ _).symm.trans hf
  by_cases c1 : (I 34 24) = (0 : Int32)
  · replace hf := (if_pos c1).symm.trans hf
    by_cases c2 : (0 : Int32) ≤ (I 34 8)
    · replace hf := (if_pos c2).symm.trans hf
      obtain ⟨q3, c4, hf⟩ := bd_some hf
      obtain ⟨q5, c6, hf⟩ := bd_some hf
      by_cases c7 : q5.1 = (0 : Int32)
      · replace hf := (if_pos c7).symm.trans hf
        obtain ⟨q8, c9, hf⟩ := bd_some hf
        exact FR.tr (FR.tr (FR.fi (FR.fi (FR.tr (FR.tr FR.rf (u_Md_speeds (q := q3) c4) (by decide) (by decide)) (u_Md_isLocked (q := q5) c6) (by decide) (by decide)) (by decide)) (by decide)) (u_Md_renew (q := q8) c9) (by decide) (by decide)) (u_Md_go_L49 xF hf) (by decide) (by decide)
      · replace hf := (if_neg c7).symm.trans hf
        cases hf
        exact (FR.tr (FR.tr FR.rf (u_Md_speeds (q := q3) c4) (by decide) (by decide)) (u_Md_isLocked (q := q5) c6) (by decide) (by decide))
    · replace hf := (if_neg c2).symm.trans hf
      cases hf
      exact FR.rf
  · replace hf := (if_neg c1).symm.trans hf
    cases hf
    exact FR.rf

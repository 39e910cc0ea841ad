theorem dX12_trueLength_0 : decode cX12_trueLength 0 = .ok (.iload_n 0, 1) := by decide +kernel
theorem dX12_trueLength_1 : decode cX12_trueLength 1 = .ok (.iconst 2, 1) := by decide +kernel
theorem dX12_trueLength_2 : decode cX12_trueLength 2 = .ok (.if_icmp .ne 20, 3) := by decide +kernel
theorem dX12_trueLength_5 : decode cX12_trueLength 5 = .ok (.iload_n 1, 1) := by decide +kernel
theorem dX12_trueLength_6 : decode cX12_trueLength 6 = .ok (.invokestatic 280, 3) := by decide +kernel
theorem dX12_trueLength_9 : decode cX12_trueLength 9 = .ok (.ifCond .eq 8, 3) := by decide +kernel
theorem dX12_trueLength_12 : decode cX12_trueLength 12 = .ok (.bipush 29, 2) := by decide +kernel
theorem dX12_trueLength_14 : decode cX12_trueLength 14 = .ok (.goto 38, 3) := by decide +kernel
theorem dX12_trueLength_17 : decode cX12_trueLength 17 = .ok (.bipush 28, 2) := by decide +kernel
theorem dX12_trueLength_19 : decode cX12_trueLength 19 = .ok (.goto 33, 3) := by decide +kernel
theorem dX12_trueLength_22 : decode cX12_trueLength 22 = .ok (.iload_n 0, 1) := by decide +kernel
theorem dX12_trueLength_23 : decode cX12_trueLength 23 = .ok (.iconst 4, 1) := by decide +kernel
theorem dX12_trueLength_24 : decode cX12_trueLength 24 = .ok (.if_icmp .eq 21, 3) := by decide +kernel
theorem dX12_trueLength_27 : decode cX12_trueLength 27 = .ok (.iload_n 0, 1) := by decide +kernel
theorem dX12_trueLength_28 : decode cX12_trueLength 28 = .ok (.bipush 6, 2) := by decide +kernel
theorem dX12_trueLength_30 : decode cX12_trueLength 30 = .ok (.if_icmp .eq 15, 3) := by decide +kernel
theorem dX12_trueLength_33 : decode cX12_trueLength 33 = .ok (.iload_n 0, 1) := by decide +kernel
theorem dX12_trueLength_34 : decode cX12_trueLength 34 = .ok (.bipush 9, 2) := by decide +kernel
theorem dX12_trueLength_36 : decode cX12_trueLength 36 = .ok (.if_icmp .eq 9, 3) := by decide +kernel
theorem dX12_trueLength_39 : decode cX12_trueLength 39 = .ok (.iload_n 0, 1) := by decide +kernel
theorem dX12_trueLength_40 : decode cX12_trueLength 40 = .ok (.bipush 11, 2) := by decide +kernel
theorem dX12_trueLength_42 : decode cX12_trueLength 42 = .ok (.if_icmp .ne 8, 3) := by decide +kernel
theorem dX12_trueLength_45 : decode cX12_trueLength 45 = .ok (.bipush 30, 2) := by decide +kernel
theorem dX12_trueLength_47 : decode cX12_trueLength 47 = .ok (.goto 5, 3) := by decide +kernel
theorem dX12_trueLength_50 : decode cX12_trueLength 50 = .ok (.bipush 31, 2) := by decide +kernel
theorem dX12_trueLength_52 : decode cX12_trueLength 52 = .ok (.ireturn, 1) := by decide +kernel
def f_Md_trueLength (a0 : Int32) (a1 : Int32) : Int32 := (if a0 = (2 : Int32) then (if (f_Md_isLeap a1) = (0 : Int32) then (28 : Int32) else (29 : Int32)) else (if a0 = (4 : Int32) then (30 : Int32) else (if a0 = (6 : Int32) then (30 : Int32) else (if a0 = (9 : Int32) then (30 : Int32) else (if a0 = (11 : Int32) then (30 : Int32) else (31 : Int32))))))
set_option maxRecDepth 100000 in
set_option maxHeartbeats 4000000 in
theorem c_Md_trueLength {G : xG} {S : List xSh} {Rf : Nat → Nat → Option Nat} (hT : xTM S Rf) {a0 : Int32} {a1 : Int32} {I : Nat → Nat → Int32} {L : Nat → Nat → Int64} {q : Int32} (hf : f_Md_trueLength a0 a1 = q) : CT G 2 m_Md_trueLength [.int a0, .int a1] (S, I, L, Rf) (some (.int q), (S, I, L, Rf)) := by
  refine CT.of (by decide +kernel) (Nat.le_of_ble_eq_true rfl) ?_
  show X G 2 m_Md_trueLength 0 [(0, .int a0), (1, .int a1)] [] (S, I, L, Rf) (some (.int q), (S, I, L, Rf))
  replace hf := (f_Md_trueLength.eq_1 _ _).symm.trans hf
  refine X_iload_n (pc := 0) (i := 0) 0 dX12_trueLength_0 rfl rfl ?_
  refine X_iconst (pc := 1) (2 : Int32) dX12_trueLength_1 (by decide) ?_
  by_cases c1 : a0 = (2 : Int32)
  · replace hf := (if_pos c1).symm.trans hf
    refine X_icmp_ne_f (pc := 2) 22 dX12_trueLength_2 (by decide) c1 ?_
    refine X_iload_n (pc := 5) (i := 1) 1 dX12_trueLength_5 rfl rfl ?_
    refine X_invS_i (pc := 6) (c_Md_isLeap hT rfl) ok_Md_isLeap k_1225 k_1226 nd_5 (by decide) rfl (Nat.le_of_ble_eq_true rfl) dX12_trueLength_6 ?_
    by_cases c2 : (f_Md_isLeap a1) = (0 : Int32)
    · replace hf := (if_pos c2).symm.trans hf
      refine X_if_eq_t (pc := 9) 17 dX12_trueLength_9 (by decide) c2 ?_
      refine X_bipush (pc := 17) (28 : Int32) dX12_trueLength_17 (by decide) ?_
      refine X_goto (pc := 19) 52 dX12_trueLength_19 (by decide) ?_
      subst hf
      exact X_ireturn (pc := 52) rfl dX12_trueLength_52
    · replace hf := (if_neg c2).symm.trans hf
      refine X_if_eq_f (pc := 9) 17 dX12_trueLength_9 (by decide) c2 ?_
      refine X_bipush (pc := 12) (29 : Int32) dX12_trueLength_12 (by decide) ?_
      refine X_goto (pc := 14) 52 dX12_trueLength_14 (by decide) ?_
      subst hf
      exact X_ireturn (pc := 52) rfl dX12_trueLength_52
  · replace hf := (if_neg c1).symm.trans hf
    refine X_icmp_ne_t (pc := 2) 22 dX12_trueLength_2 (by decide) c1 ?_
    refine X_iload_n (pc := 22) (i := 0) 0 dX12_trueLength_22 rfl rfl ?_
    refine X_iconst (pc := 23) (4 : Int32) dX12_trueLength_23 (by decide) ?_
    by_cases c3 : a0 = (4 : Int32)
    · replace hf := (if_pos c3).symm.trans hf
      refine X_icmp_eq_t (pc := 24) 45 dX12_trueLength_24 (by decide) c3 ?_
      refine X_bipush (pc := 45) (30 : Int32) dX12_trueLength_45 (by decide) ?_
      refine X_goto (pc := 47) 52 dX12_trueLength_47 (by decide) ?_
      subst hf
      exact X_ireturn (pc := 52) rfl dX12_trueLength_52
    · replace hf := (if_neg c3).symm.trans hf
      refine X_icmp_eq_f (pc := 24) 45 dX12_trueLength_24 (by decide) c3 ?_
      refine X_iload_n (pc := 27) (i := 0) 0 dX12_trueLength_27 rfl rfl ?_
      refine X_bipush (pc := 28) (6 : Int32) dX12_trueLength_28 (by decide) ?_
      by_cases c4 : a0 = (6 : Int32)
      · replace hf := (if_pos c4).symm.trans hf
        refine X_icmp_eq_t (pc := 30) 45 dX12_trueLength_30 (by decide) c4 ?_
        refine X_bipush (pc := 45) (30 : Int32) dX12_trueLength_45 (by decide) ?_
        refine X_goto (pc := 47) 52 dX12_trueLength_47 (by decide) ?_
        subst hf
        exact X_ireturn (pc := 52) rfl dX12_trueLength_52
      · replace hf := (if_neg c4).symm.trans hf
        refine X_icmp_eq_f (pc := 30) 45 dX12_trueLength_30 (by decide) c4 ?_
        refine X_iload_n (pc := 33) (i := 0) 0 dX12_trueLength_33 rfl rfl ?_
        refine X_bipush (pc := 34) (9 : Int32) dX12_trueLength_34 (by decide) ?_
        by_cases c5 : a0 = (9 : Int32)
        · replace hf := (if_pos c5).symm.trans hf
          refine X_icmp_eq_t (pc := 36) 45 dX12_trueLength_36 (by decide) c5 ?_
          refine X_bipush (pc := 45) (30 : Int32) dX12_trueLength_45 (by decide) ?_
          refine X_goto (pc := 47) 52 dX12_trueLength_47 (by decide) ?_
          subst hf
          exact X_ireturn (pc := 52) rfl dX12_trueLength_52
        · replace hf := (if_neg c5).symm.trans hf
          refine X_icmp_eq_f (pc := 36) 45 dX12_trueLength_36 (by decide) c5 ?_
          refine X_iload_n (pc := 39) (i := 0) 0 dX12_trueLength_39 rfl rfl ?_
          refine X_bipush (pc := 40) (11 : Int32) dX12_trueLength_40 (by decide) ?_
          by_cases c6 : a0 = (11 : Int32)
          · replace hf := (if_pos c6).symm.trans hf
            refine X_icmp_ne_f (pc := 42) 50 dX12_trueLength_42 (by decide) c6 ?_
            refine X_bipush (pc := 45) (30 : Int32) dX12_trueLength_45 (by decide) ?_
            refine X_goto (pc := 47) 52 dX12_trueLength_47 (by decide) ?_
            subst hf
            exact X_ireturn (pc := 52) rfl dX12_trueLength_52
          · replace hf := (if_neg c6).symm.trans hf
            refine X_icmp_ne_t (pc := 42) 50 dX12_trueLength_42 (by decide) c6 ?_
            refine X_bipush (pc := 50) (31 : Int32) dX12_trueLength_50 (by decide) ?_
            subst hf
            exact X_ireturn (pc := 52) rfl dX12_trueLength_52
theorem dX12_splitDay_0 : decode cX12_splitDay 0 = .ok (.aload_n 0, 1) := by decide +kernel
theorem dX12_splitDay_1 : decode cX12_splitDay 1 = .ok (.iconst 1, 1) := by decide +kernel
theorem dX12_splitDay_2 : decode cX12_splitDay 2 = .ok (.iload_n 1, 1) := by decide +kernel
theorem dX12_splitDay_3 : decode cX12_splitDay 3 = .ok (.sipush 366, 3) := by decide +kernel
theorem dX12_splitDay_6 : decode cX12_splitDay 6 = .ok (.idiv, 1) := by decide +kernel
theorem dX12_splitDay_7 : decode cX12_splitDay 7 = .ok (.iadd, 1) := by decide +kernel
theorem dX12_splitDay_8 : decode cX12_splitDay 8 = .ok (.putfield 226, 3) := by decide +kernel
theorem dX12_splitDay_11 : decode cX12_splitDay 11 = .ok (.aload_n 0, 1) := by decide +kernel
theorem dX12_splitDay_12 : decode cX12_splitDay 12 = .ok (.getfield 226, 3) := by decide +kernel
theorem dX12_splitDay_15 : decode cX12_splitDay 15 = .ok (.sipush 9999, 3) := by decide +kernel
theorem dX12_splitDay_18 : decode cX12_splitDay 18 = .ok (.if_icmp .ge 29, 3) := by decide +kernel
theorem dX12_splitDay_21 : decode cX12_splitDay 21 = .ok (.aload_n 0, 1) := by decide +kernel
theorem dX12_splitDay_22 : decode cX12_splitDay 22 = .ok (.getfield 226, 3) := by decide +kernel
theorem dX12_splitDay_25 : decode cX12_splitDay 25 = .ok (.iconst 1, 1) := by decide +kernel
theorem dX12_splitDay_26 : decode cX12_splitDay 26 = .ok (.iadd, 1) := by decide +kernel
theorem dX12_splitDay_27 : decode cX12_splitDay 27 = .ok (.invokestatic 283, 3) := by decide +kernel
theorem dX12_splitDay_30 : decode cX12_splitDay 30 = .ok (.iload_n 1, 1) := by decide +kernel
theorem dX12_splitDay_31 : decode cX12_splitDay 31 = .ok (.if_icmp .gt 16, 3) := by decide +kernel
theorem dX12_splitDay_34 : decode cX12_splitDay 34 = .ok (.aload_n 0, 1) := by decide +kernel
theorem dX12_splitDay_35 : decode cX12_splitDay 35 = .ok (.dup, 1) := by decide +kernel
theorem dX12_splitDay_36 : decode cX12_splitDay 36 = .ok (.getfield 226, 3) := by decide +kernel
theorem dX12_splitDay_39 : decode cX12_splitDay 39 = .ok (.iconst 1, 1) := by decide +kernel
theorem dX12_splitDay_40 : decode cX12_splitDay 40 = .ok (.iadd, 1) := by decide +kernel
theorem dX12_splitDay_41 : decode cX12_splitDay 41 = .ok (.putfield 226, 3) := by decide +kernel
theorem dX12_splitDay_44 : decode cX12_splitDay 44 = .ok (.goto (-33), 3) := by decide +kernel
theorem dX12_splitDay_47 : decode cX12_splitDay 47 = .ok (.iload_n 1, 1) := by decide +kernel
theorem dX12_splitDay_48 : decode cX12_splitDay 48 = .ok (.aload_n 0, 1) := by decide +kernel
theorem dX12_splitDay_49 : decode cX12_splitDay 49 = .ok (.getfield 226, 3) := by decide +kernel
theorem dX12_splitDay_52 : decode cX12_splitDay 52 = .ok (.invokestatic 283, 3) := by decide +kernel
theorem dX12_splitDay_55 : decode cX12_splitDay 55 = .ok (.isub, 1) := by decide +kernel
theorem dX12_splitDay_56 : decode cX12_splitDay 56 = .ok (.istore_n 2, 1) := by decide +kernel
theorem dX12_splitDay_57 : decode cX12_splitDay 57 = .ok (.aload_n 0, 1) := by decide +kernel
theorem dX12_splitDay_58 : decode cX12_splitDay 58 = .ok (.iconst 1, 1) := by decide +kernel
theorem dX12_splitDay_59 : decode cX12_splitDay 59 = .ok (.putfield 223, 3) := by decide +kernel
theorem dX12_splitDay_62 : decode cX12_splitDay 62 = .ok (.iload_n 2, 1) := by decide +kernel
theorem dX12_splitDay_63 : decode cX12_splitDay 63 = .ok (.aload_n 0, 1) := by decide +kernel
theorem dX12_splitDay_64 : decode cX12_splitDay 64 = .ok (.getfield 223, 3) := by decide +kernel
theorem dX12_splitDay_67 : decode cX12_splitDay 67 = .ok (.aload_n 0, 1) := by decide +kernel
theorem dX12_splitDay_68 : decode cX12_splitDay 68 = .ok (.getfield 226, 3) := by decide +kernel
theorem dX12_splitDay_71 : decode cX12_splitDay 71 = .ok (.invokestatic 265, 3) := by decide +kernel
theorem dX12_splitDay_74 : decode cX12_splitDay 74 = .ok (.if_icmp .lt 30, 3) := by decide +kernel
theorem dX12_splitDay_77 : decode cX12_splitDay 77 = .ok (.iload_n 2, 1) := by decide +kernel
theorem dX12_splitDay_78 : decode cX12_splitDay 78 = .ok (.aload_n 0, 1) := by decide +kernel
theorem dX12_splitDay_79 : decode cX12_splitDay 79 = .ok (.getfield 223, 3) := by decide +kernel
theorem dX12_splitDay_82 : decode cX12_splitDay 82 = .ok (.aload_n 0, 1) := by decide +kernel
theorem dX12_splitDay_83 : decode cX12_splitDay 83 = .ok (.getfield 226, 3) := by decide +kernel
theorem dX12_splitDay_86 : decode cX12_splitDay 86 = .ok (.invokestatic 265, 3) := by decide +kernel
theorem dX12_splitDay_89 : decode cX12_splitDay 89 = .ok (.isub, 1) := by decide +kernel
theorem dX12_splitDay_90 : decode cX12_splitDay 90 = .ok (.istore_n 2, 1) := by decide +kernel
theorem dX12_splitDay_91 : decode cX12_splitDay 91 = .ok (.aload_n 0, 1) := by decide +kernel
theorem dX12_splitDay_92 : decode cX12_splitDay 92 = .ok (.dup, 1) := by decide +kernel
theorem dX12_splitDay_93 : decode cX12_splitDay 93 = .ok (.getfield 223, 3) := by decide +kernel
theorem dX12_splitDay_96 : decode cX12_splitDay 96 = .ok (.iconst 1, 1) := by decide +kernel
theorem dX12_splitDay_97 : decode cX12_splitDay 97 = .ok (.iadd, 1) := by decide +kernel
theorem dX12_splitDay_98 : decode cX12_splitDay 98 = .ok (.putfield 223, 3) := by decide +kernel
theorem dX12_splitDay_101 : decode cX12_splitDay 101 = .ok (.goto (-39), 3) := by decide +kernel
theorem dX12_splitDay_104 : decode cX12_splitDay 104 = .ok (.aload_n 0, 1) := by decide +kernel
theorem dX12_splitDay_105 : decode cX12_splitDay 105 = .ok (.iload_n 2, 1) := by decide +kernel
theorem dX12_splitDay_106 : decode cX12_splitDay 106 = .ok (.iconst 1, 1) := by decide +kernel
theorem dX12_splitDay_107 : decode cX12_splitDay 107 = .ok (.iadd, 1) := by decide +kernel
theorem dX12_splitDay_108 : decode cX12_splitDay 108 = .ok (.putfield 220, 3) := by decide +kernel
theorem dX12_splitDay_111 : decode cX12_splitDay 111 = .ok (.return_, 1) := by decide +kernel
def f_Md_splitDay_L62 : Nat → Int32 → (Nat → Nat → Int32) → (Nat → Nat → Int64) → Option ((Nat → Nat → Int32) × (Nat → Nat → Int64))
  | 0, _, _, _ => none
  | n + 1, l2, I, L => (if l2 < (f_Md_trueLength (I 34 46) (I 34 47)) then (bnd (l2 + (1 : Int32)) fun x5 => (some ((uI I 34 45 x5), L))) else (bnd (l2 - (f_Md_trueLength (I 34 46) (I 34 47))) fun x6 => (bnd ((I 34 46) + (1 : Int32)) fun x7 => (f_Md_splitDay_L62 n x6 (uI I 34 46 x7) L))))
set_option maxRecDepth 100000 in
set_option maxHeartbeats 4000000 in
theorem x_Md_splitDay_L62 {G : xG} {S : List xSh} {Rf : Nat → Nat → Option Nat} (hT : xTM S Rf) : ∀ (n : Nat) {l2 : Int32} {I : Nat → Nat → Int32} {L : Nat → Nat → Int64} {q : ((Nat → Nat → Int32) × (Nat → Nat → Int64))}, f_Md_splitDay_L62 n l2 I L = some q → X G 3 m_Md_splitDay 62 [(0, .ref (xP G 34)), (2, .int l2)] [] (S, I, L, Rf) (none, (S, q.1, q.2, Rf)) := by
  intro n
  induction n with
  | zero =>
    intro l2 I L q hf
    exact absurd (show none = some q from hf) (by simp)
  | succ n ih =>
    intro l2 I L q hf
    replace hf := (f_Md_splitDay_L62.eq_2 _ _ _ _).symm.trans hf
    refine X_iload_n (pc := 62) (i := 2) 1 dX12_splitDay_62 rfl rfl ?_
    refine X_aload_n (pc := 63) (i := 0) 0 dX12_splitDay_63 rfl rfl ?_
    refine X_get (pc := 64) (a := 34) (ci := 11) (j := 46) (.int (I 34 46)) (sh_34 hT) (by decide) k_1274 rfl dX12_splitDay_64 ?_
    refine X_aload_n (pc := 67) (i := 0) 0 dX12_splitDay_67 rfl rfl ?_
    refine X_get (pc := 68) (a := 34) (ci := 11) (j := 47) (.int (I 34 47)) (sh_34 hT) (by decide) k_1275 rfl dX12_splitDay_68 ?_
    refine X_invS_i (pc := 71) (c_Md_trueLength hT rfl) ok_Md_trueLength k_1222 k_1223 nd_21 (by decide) rfl (Nat.le_of_ble_eq_true rfl) dX12_splitDay_71 ?_
    by_cases c4 : l2 < (f_Md_trueLength (I 34 46) (I 34 47))
    · replace hf := (if_pos c4).symm.trans hf
      refine X_icmp_lt_t (pc := 74) 104 dX12_splitDay_74 (by decide) c4 ?_
      refine X_aload_n (pc := 104) (i := 0) 0 dX12_splitDay_104 rfl rfl ?_
      refine X_iload_n (pc := 105) (i := 2) 1 dX12_splitDay_105 rfl rfl ?_
      refine X_iconst (pc := 106) (1 : Int32) dX12_splitDay_106 (by decide) ?_
      refine X_iadd (pc := 107) dX12_splitDay_107 ?_
      obtain ⟨x5, ex5, hf⟩ := bnd_e hf
      refine X_tope ex5 ?_
      refine X_puti (pc := 108) (a := 34) (ci := 11) (j := 45) 45 rfl false (sh_34 hT) (by decide) k_1273 rfl (fun h => by cases h) rfl dX12_splitDay_108 ?_
      cases hf
      exact X_return (pc := 111) rfl dX12_splitDay_111
    · replace hf := (if_neg c4).symm.trans hf
      refine X_icmp_lt_f (pc := 74) 104 dX12_splitDay_74 (by decide) c4 ?_
      refine X_iload_n (pc := 77) (i := 2) 1 dX12_splitDay_77 rfl rfl ?_
      refine X_aload_n (pc := 78) (i := 0) 0 dX12_splitDay_78 rfl rfl ?_
      refine X_get (pc := 79) (a := 34) (ci := 11) (j := 46) (.int (I 34 46)) (sh_34 hT) (by decide) k_1274 rfl dX12_splitDay_79 ?_
      refine X_aload_n (pc := 82) (i := 0) 0 dX12_splitDay_82 rfl rfl ?_
      refine X_get (pc := 83) (a := 34) (ci := 11) (j := 47) (.int (I 34 47)) (sh_34 hT) (by decide) k_1275 rfl dX12_splitDay_83 ?_
      refine X_invS_i (pc := 86) (c_Md_trueLength hT rfl) ok_Md_trueLength k_1222 k_1223 nd_21 (by decide) rfl (Nat.le_of_ble_eq_true rfl) dX12_splitDay_86 ?_
      refine X_isub (pc := 89) dX12_splitDay_89 ?_
      obtain ⟨x6, ex6, hf⟩ := bnd_e hf
      refine X_tope ex6 ?_
      refine X_istore_n (pc := 90) (i := 2) [(2, .int x6), (0, .ref (xP G 34))] dX12_splitDay_90 rfl (by decide) rfl ?_
      refine X_aload_n (pc := 91) (i := 0) 1 dX12_splitDay_91 rfl rfl ?_
      refine X_dup (pc := 92) dX12_splitDay_92 rfl ?_
      refine X_get (pc := 93) (a := 34) (ci := 11) (j := 46) (.int (I 34 46)) (sh_34 hT) (by decide) k_1274 rfl dX12_splitDay_93 ?_
      refine X_iconst (pc := 96) (1 : Int32) dX12_splitDay_96 (by decide) ?_
      refine X_iadd (pc := 97) dX12_splitDay_97 ?_
      obtain ⟨x7, ex7, hf⟩ := bnd_e hf
      refine X_tope ex7 ?_
      refine X_puti (pc := 98) (a := 34) (ci := 11) (j := 46) 46 rfl false (sh_34 hT) (by decide) k_1274 rfl (fun h => by cases h) rfl dX12_splitDay_98 ?_
      refine X_goto (pc := 101) 62 dX12_splitDay_101 (by decide) ?_
      exact X_lvs [1, 0] rfl (ih hf)
theorem u_Md_splitDay_L62 {S : List xSh} : ∀ (n : Nat) {l2 : Int32} {I : Nat → Nat → Int32} {L : Nat → Nat → Int64} {q : ((Nat → Nat → Int32) × (Nat → Nat → Int64))}, f_Md_splitDay_L62 n l2 I L = some q → FR S [4445, 4446, 4447] [] I q.1 L q.2 := by
  intro n
  induction n with
  | zero =>
    intro l2 I L q hf
    exact absurd (show none = some q from hf) (by simp)
  | succ n ih =>
    intro l2 I L q hf
    replace hf := (f_Md_splitDay_L62.eq_2 _ _ _ _).symm.trans hf
    by_cases c4 : l2 < (f_Md_trueLength (I 34 46) (I 34 47))
    · replace hf := (if_pos c4).symm.trans hf
      obtain ⟨x5, ex5, hf⟩ := bnd_e hf
      cases hf
      exact (FR.fi FR.rf (by decide))
    · replace hf := (if_neg c4).symm.trans hf
      obtain ⟨x6, ex6, hf⟩ := bnd_e hf
      obtain ⟨x7, ex7, hf⟩ := bnd_e hf
      exact FR.tr (FR.fi FR.rf (by decide)) (ih hf) (by decide) (by decide)
def f_Md_splitDay_L47 (l1 : Int32) (I : (Nat → Nat → Int32)) (L : (Nat → Nat → Int64)) : Option ((Nat → Nat → Int32) × (Nat → Nat → Int64)) := (bnd (l1 - (f_Md_daysBefore (I 34 47))) fun x3 => (f_Md_splitDay_L62 xF x3 (uI I 34 46 (1 : Int32)) L))
set_option maxRecDepth 100000 in
set_option maxHeartbeats 4000000 in
theorem x_Md_splitDay_L47 {G : xG} {S : List xSh} {Rf : Nat → Nat → Option Nat} (hT : xTM S Rf) {l1 : Int32} {I : Nat → Nat → Int32} {L : Nat → Nat → Int64} {q : ((Nat → Nat → Int32) × (Nat → Nat → Int64))} (hf : f_Md_splitDay_L47 l1 I L = some q) : X G 3 m_Md_splitDay 47 [(0, .ref (xP G 34)), (1, .int l1)] [] (S, I, L, Rf) (none, (S, q.1, q.2, Rf)) := by
  replace hf := (f_Md_splitDay_L47.eq_1 _ _ _).symm.trans hf
  refine X_iload_n (pc := 47) (i := 1) 1 dX12_splitDay_47 rfl rfl ?_
  refine X_aload_n (pc := 48) (i := 0) 0 dX12_splitDay_48 rfl rfl ?_
  refine X_get (pc := 49) (a := 34) (ci := 11) (j := 47) (.int (I 34 47)) (sh_34 hT) (by decide) k_1275 rfl dX12_splitDay_49 ?_
  refine X_invS_i (pc := 52) (c_Md_daysBefore hT rfl) ok_Md_daysBefore k_1219 k_1220 nd_8 (by decide) rfl (Nat.le_of_ble_eq_true rfl) dX12_splitDay_52 ?_
  refine X_isub (pc := 55) dX12_splitDay_55 ?_
  obtain ⟨x3, ex3, hf⟩ := bnd_e hf
  refine X_tope ex3 ?_
  refine X_istore_n (pc := 56) (i := 2) [(2, .int x3), (0, .ref (xP G 34)), (1, .int l1)] dX12_splitDay_56 rfl (by decide) rfl ?_
  refine X_aload_n (pc := 57) (i := 0) 1 dX12_splitDay_57 rfl rfl ?_
  refine X_iconst (pc := 58) (1 : Int32) dX12_splitDay_58 (by decide) ?_
  refine X_puti (pc := 59) (a := 34) (ci := 11) (j := 46) 46 rfl false (sh_34 hT) (by decide) k_1274 rfl (fun h => by cases h) rfl dX12_splitDay_59 ?_
  exact X_lvs [1, 0] rfl (x_Md_splitDay_L62 hT xF hf)
theorem u_Md_splitDay_L47 {S : List xSh} {l1 : Int32} {I : Nat → Nat → Int32} {L : Nat → Nat → Int64} {q : ((Nat → Nat → Int32) × (Nat → Nat → Int64))} (hf : f_Md_splitDay_L47 l1 I L = some q) : FR S [4445, 4446, 4447] [] I q.1 L q.2 := by
  replace hf := (f_Md_splitDay_L47.eq_1 _ _ _).symm.trans hf
  obtain ⟨x3, ex3, hf⟩ := bnd_e hf
  exact FR.tr (FR.fi FR.rf (by decide)) (u_Md_splitDay_L62 xF hf) (by decide) (by decide)
def f_Md_splitDay_L11 : Nat → Int32 → (Nat → Nat → Int32) → (Nat → Nat → Int64) → Option ((Nat → Nat → Int32) × (Nat → Nat → Int64))
  | 0, _, _, _ => none
  | n + 1, l1, I, L => (if (9999 : Int32) ≤ (I 34 47) then (f_Md_splitDay_L47 l1 I L) else (bnd (f_Md_daysBefore ((I 34 47) + (1 : Int32))) fun x8 => (if l1 < x8 then (f_Md_splitDay_L47 l1 I L) else (bnd ((I 34 47) + (1 : Int32)) fun x10 => (f_Md_splitDay_L11 n l1 (uI I 34 47 x10) L)))))
set_option maxRecDepth 100000 in
set_option maxHeartbeats 4000000 in
theorem x_Md_splitDay_L11 {G : xG} {S : List xSh} {Rf : Nat → Nat → Option Nat} (hT : xTM S Rf) : ∀ (n : Nat) {l1 : Int32} {I : Nat → Nat → Int32} {L : Nat → Nat → Int64} {q : ((Nat → Nat → Int32) × (Nat → Nat → Int64))}, f_Md_splitDay_L11 n l1 I L = some q → X G 3 m_Md_splitDay 11 [(0, .ref (xP G 34)), (1, .int l1)] [] (S, I, L, Rf) (none, (S, q.1, q.2, Rf)) := by
  intro n
  induction n with
  | zero =>
    intro l1 I L q hf
    exact absurd (show none = some q from hf) (by simp)
  | succ n ih =>
    intro l1 I L q hf
    replace hf := (f_Md_splitDay_L11.eq_2 _ _ _ _).symm.trans hf
    refine X_aload_n (pc := 11) (i := 0) 0 dX12_splitDay_11 rfl rfl ?_
    refine X_get (pc := 12) (a := 34) (ci := 11) (j := 47) (.int (I 34 47)) (sh_34 hT) (by decide) k_1275 rfl dX12_splitDay_12 ?_
    refine X_sipush (pc := 15) (9999 : Int32) dX12_splitDay_15 (by decide) ?_
    by_cases c2 : (9999 : Int32) ≤ (I 34 47)
    · replace hf := (if_pos c2).symm.trans hf
      refine X_icmp_ge_t (pc := 18) 47 dX12_splitDay_18 (by decide) c2 ?_
      exact X_lvs [0, 1] rfl (x_Md_splitDay_L47 hT hf)
    · replace hf := (if_neg c2).symm.trans hf
      refine X_icmp_ge_f (pc := 18) 47 dX12_splitDay_18 (by decide) c2 ?_
      refine X_aload_n (pc := 21) (i := 0) 0 dX12_splitDay_21 rfl rfl ?_
      refine X_get (pc := 22) (a := 34) (ci := 11) (j := 47) (.int (I 34 47)) (sh_34 hT) (by decide) k_1275 rfl dX12_splitDay_22 ?_
      refine X_iconst (pc := 25) (1 : Int32) dX12_splitDay_25 (by decide) ?_
      refine X_iadd (pc := 26) dX12_splitDay_26 ?_
      refine X_invS_i (pc := 27) (c_Md_daysBefore hT rfl) ok_Md_daysBefore k_1219 k_1220 nd_8 (by decide) rfl (Nat.le_of_ble_eq_true rfl) dX12_splitDay_27 ?_
      obtain ⟨x8, ex8, hf⟩ := bnd_e hf
      refine X_tope ex8 ?_
      refine X_iload_n (pc := 30) (i := 1) 1 dX12_splitDay_30 rfl rfl ?_
      by_cases c9 : l1 < x8
      · replace hf := (if_pos c9).symm.trans hf
        refine X_icmp_gt_t (pc := 31) 47 dX12_splitDay_31 (by decide) c9 ?_
        exact X_lvs [0, 1] rfl (x_Md_splitDay_L47 hT hf)
      · replace hf := (if_neg c9).symm.trans hf
        refine X_icmp_gt_f (pc := 31) 47 dX12_splitDay_31 (by decide) c9 ?_
        refine X_aload_n (pc := 34) (i := 0) 0 dX12_splitDay_34 rfl rfl ?_
        refine X_dup (pc := 35) dX12_splitDay_35 rfl ?_
        refine X_get (pc := 36) (a := 34) (ci := 11) (j := 47) (.int (I 34 47)) (sh_34 hT) (by decide) k_1275 rfl dX12_splitDay_36 ?_
        refine X_iconst (pc := 39) (1 : Int32) dX12_splitDay_39 (by decide) ?_
        refine X_iadd (pc := 40) dX12_splitDay_40 ?_
        obtain ⟨x10, ex10, hf⟩ := bnd_e hf
        refine X_tope ex10 ?_
        refine X_puti (pc := 41) (a := 34) (ci := 11) (j := 47) 47 rfl false (sh_34 hT) (by decide) k_1275 rfl (fun h => by cases h) rfl dX12_splitDay_41 ?_
        refine X_goto (pc := 44) 11 dX12_splitDay_44 (by decide) ?_
        exact X_lvs [0, 1] rfl (ih hf)
theorem u_Md_splitDay_L11 {S : List xSh} : ∀ (n : Nat) {l1 : Int32} {I : Nat → Nat → Int32} {L : Nat → Nat → Int64} {q : ((Nat → Nat → Int32) × (Nat → Nat → Int64))}, f_Md_splitDay_L11 n l1 I L = some q → FR S [4445, 4446, 4447] [] I q.1 L q.2 := by
  intro n
  induction n with
  | zero =>
    intro l1 I L q hf
    exact absurd (show none = some q from hf) (by simp)
  | succ n ih =>
    intro l1 I L q hf
    replace hf := (f_Md_splitDay_L11.eq_2 _ _ _ _).symm.trans hf
    by_cases c2 : (9999 : Int32) ≤ (I 34 47)
    · replace hf := (if_pos c2).symm.trans hf
      exact FR.tr FR.rf (u_Md_splitDay_L47 hf) (by decide) (by decide)
    · replace hf := (if_neg c2).symm.trans hf
      obtain ⟨x8, ex8, hf⟩ := bnd_e hf
      by_cases c9 : l1 < x8
      · replace hf := (if_pos c9).symm.trans hf
        exact FR.tr FR.rf (u_Md_splitDay_L47 hf) (by decide) (by decide)
      · replace hf := (if_neg c9).symm.trans hf
        obtain ⟨x10, ex10, hf⟩ := bnd_e hf
        exact FR.tr (FR.fi FR.rf (by decide)) (ih hf) (by decide) (by decide)
def f_Md_splitDay (a0 : Int32) (I : Nat → Nat → Int32) (L : Nat → Nat → Int64) : Option ((Nat → Nat → Int32) × (Nat → Nat → Int64)) := (bnd ((1 : Int32) + (a0 / (366 : Int32))) fun x1 => (f_Md_splitDay_L11 xF a0 (uI I 34 47 x1) L))
set_option maxRecDepth 100000 in
set_option maxHeartbeats 4000000 in
theorem c_Md_splitDay {G : xG} {S : List xSh} {Rf : Nat → Nat → Option Nat} (hT : xTM S Rf) {a0 : Int32} {I : Nat → Nat → Int32} {L : Nat → Nat → Int64} {q : ((Nat → Nat → Int32) × (Nat → Nat → Int64))} (hf : f_Md_splitDay a0 I L = some q) : CT G 3 m_Md_splitDay [.ref (xP G 34), .int a0] (S, I, L, Rf) (none, (S, q.1, q.2, Rf)) := by
  refine CT.of (by decide +kernel) (Nat.le_of_ble_eq_true rfl) ?_
  show X G 3 m_Md_splitDay 0 [(0, .ref (xP G 34)), (1, .int a0)] [] (S, I, L, Rf) (none, (S, q.1, q.2, Rf))
  replace hf := (f_Md_splitDay.eq_1 _ _ _).symm.trans hf
  refine X_aload_n (pc := 0) (i := 0) 0 dX12_splitDay_0 rfl rfl ?_
  refine X_iconst (pc := 1) (1 : Int32) dX12_splitDay_1 (by decide) ?_
  refine X_iload_n (pc := 2) (i := 1) 1 dX12_splitDay_2 rfl rfl ?_
  refine X_sipush (pc := 3) (366 : Int32) dX12_splitDay_3 (by decide) ?_
  refine X_idiv (pc := 6) dX12_splitDay_6 (by decide) ?_
  refine X_iadd (pc := 7) dX12_splitDay_7 ?_
  obtain ⟨x1, ex1, hf⟩ := bnd_e hf
  refine X_tope ex1 ?_
  refine X_puti (pc := 8) (a := 34) (ci := 11) (j := 47) 47 rfl false (sh_34 hT) (by decide) k_1275 rfl (fun h => by cases h) rfl dX12_splitDay_8 ?_
  exact X_lvs [0, 1] rfl (x_Md_splitDay_L11 hT xF hf)
theorem u_Md_splitDay {S : List xSh} {a0 : Int32} {I : Nat → Nat → Int32} {L : Nat → Nat → Int64} {q : ((Nat → Nat → Int32) × (Nat → Nat → Int64))} (hf : f_Md_splitDay a0 I L = some q) : FR S [4445, 4446, 4447] [] I q.1 L q.2 := by
  replace hf := (f_Md_splitDay.eq_1 _ _ _).symm.trans hf
  obtain ⟨x1, ex1, hf⟩ := bnd_e hf
  exact FR.tr (FR.fi FR.rf (by decide)) (u_Md_splitDay_L11 xF hf) (by decide) (by decide)
theorem dX12_first_0 : decode cX12_first 0 = .ok (.bipush 10, 2) := by decide +kernel
theorem dX12_first_2 : decode cX12_first 2 = .ok (.iload_n 1, 1) := by decide +kernel
theorem dX12_first_3 : decode cX12_first 3 = .ok (.imul, 1) := by decide +kernel
theorem dX12_first_4 : decode cX12_first 4 = .ok (.istore_n 2, 1) := by decide +kernel
theorem dX12_first_5 : decode cX12_first 5 = .ok (.iconst 0, 1) := by decide +kernel
theorem dX12_first_6 : decode cX12_first 6 = .ok (.istore_n 3, 1) := by decide +kernel
theorem dX12_first_7 : decode cX12_first 7 = .ok (.iload_n 3, 1) := by decide +kernel
theorem dX12_first_8 : decode cX12_first 8 = .ok (.bipush 10, 2) := by decide +kernel
theorem dX12_first_10 : decode cX12_first 10 = .ok (.if_icmp .ge 18, 3) := by decide +kernel
theorem dX12_first_13 : decode cX12_first 13 = .ok (.aload_n 0, 1) := by decide +kernel
theorem dX12_first_14 : decode cX12_first 14 = .ok (.getfield 49, 3) := by decide +kernel
theorem dX12_first_17 : decode cX12_first 17 = .ok (.iload_n 2, 1) := by decide +kernel
theorem dX12_first_18 : decode cX12_first 18 = .ok (.iload_n 3, 1) := by decide +kernel
theorem dX12_first_19 : decode cX12_first 19 = .ok (.iadd, 1) := by decide +kernel
theorem dX12_first_20 : decode cX12_first 20 = .ok (.iconst 0, 1) := by decide +kernel
theorem dX12_first_21 : decode cX12_first 21 = .ok (.iastore, 1) := by decide +kernel
theorem dX12_first_22 : decode cX12_first 22 = .ok (.iinc 3 1, 3) := by decide +kernel
theorem dX12_first_25 : decode cX12_first 25 = .ok (.goto (-18), 3) := by decide +kernel
theorem dX12_first_28 : decode cX12_first 28 = .ok (.aload_n 0, 1) := by decide +kernel
theorem dX12_first_29 : decode cX12_first 29 = .ok (.getfield 31, 3) := by decide +kernel
theorem dX12_first_32 : decode cX12_first 32 = .ok (.iload_n 1, 1) := by decide +kernel
theorem dX12_first_33 : decode cX12_first 33 = .ok (.iaload, 1) := by decide +kernel
theorem dX12_first_34 : decode cX12_first 34 = .ok (.iconst 1, 1) := by decide +kernel
theorem dX12_first_35 : decode cX12_first 35 = .ok (.if_icmp .ne 81, 3) := by decide +kernel
theorem dX12_first_38 : decode cX12_first 38 = .ok (.aload_n 0, 1) := by decide +kernel
theorem dX12_first_39 : decode cX12_first 39 = .ok (.getfield 49, 3) := by decide +kernel
theorem dX12_first_42 : decode cX12_first 42 = .ok (.iload_n 2, 1) := by decide +kernel
theorem dX12_first_43 : decode cX12_first 43 = .ok (.iconst 4, 1) := by decide +kernel
theorem dX12_first_44 : decode cX12_first 44 = .ok (.iadd, 1) := by decide +kernel
theorem dX12_first_45 : decode cX12_first 45 = .ok (.aload_n 0, 1) := by decide +kernel
theorem dX12_first_46 : decode cX12_first 46 = .ok (.getfield 43, 3) := by decide +kernel
theorem dX12_first_49 : decode cX12_first 49 = .ok (.iload_n 1, 1) := by decide +kernel
theorem dX12_first_50 : decode cX12_first 50 = .ok (.iaload, 1) := by decide +kernel
theorem dX12_first_51 : decode cX12_first 51 = .ok (.iastore, 1) := by decide +kernel
theorem dX12_first_52 : decode cX12_first 52 = .ok (.aload_n 0, 1) := by decide +kernel
theorem dX12_first_53 : decode cX12_first 53 = .ok (.aload_n 0, 1) := by decide +kernel
theorem dX12_first_54 : decode cX12_first 54 = .ok (.getfield 43, 3) := by decide +kernel
theorem dX12_first_57 : decode cX12_first 57 = .ok (.iload_n 1, 1) := by decide +kernel
theorem dX12_first_58 : decode cX12_first 58 = .ok (.iaload, 1) := by decide +kernel
theorem dX12_first_59 : decode cX12_first 59 = .ok (.invokevirtual 217, 3) := by decide +kernel
theorem dX12_first_62 : decode cX12_first 62 = .ok (.aload_n 0, 1) := by decide +kernel
theorem dX12_first_63 : decode cX12_first 63 = .ok (.getfield 49, 3) := by decide +kernel
theorem dX12_first_66 : decode cX12_first 66 = .ok (.iload_n 2, 1) := by decide +kernel
theorem dX12_first_67 : decode cX12_first 67 = .ok (.aload_n 0, 1) := by decide +kernel
theorem dX12_first_68 : decode cX12_first 68 = .ok (.getfield 220, 3) := by decide +kernel
theorem dX12_first_71 : decode cX12_first 71 = .ok (.iastore, 1) := by decide +kernel
theorem dX12_first_72 : decode cX12_first 72 = .ok (.aload_n 0, 1) := by decide +kernel
theorem dX12_first_73 : decode cX12_first 73 = .ok (.getfield 49, 3) := by decide +kernel
theorem dX12_first_76 : decode cX12_first 76 = .ok (.iload_n 2, 1) := by decide +kernel
theorem dX12_first_77 : decode cX12_first 77 = .ok (.iconst 1, 1) := by decide +kernel
theorem dX12_first_78 : decode cX12_first 78 = .ok (.iadd, 1) := by decide +kernel
theorem dX12_first_79 : decode cX12_first 79 = .ok (.aload_n 0, 1) := by decide +kernel
theorem dX12_first_80 : decode cX12_first 80 = .ok (.getfield 223, 3) := by decide +kernel
theorem dX12_first_83 : decode cX12_first 83 = .ok (.iastore, 1) := by decide +kernel
theorem dX12_first_84 : decode cX12_first 84 = .ok (.aload_n 0, 1) := by decide +kernel
theorem dX12_first_85 : decode cX12_first 85 = .ok (.getfield 49, 3) := by decide +kernel
theorem dX12_first_88 : decode cX12_first 88 = .ok (.iload_n 2, 1) := by decide +kernel
theorem dX12_first_89 : decode cX12_first 89 = .ok (.iconst 2, 1) := by decide +kernel
theorem dX12_first_90 : decode cX12_first 90 = .ok (.iadd, 1) := by decide +kernel
theorem dX12_first_91 : decode cX12_first 91 = .ok (.aload_n 0, 1) := by decide +kernel
theorem dX12_first_92 : decode cX12_first 92 = .ok (.getfield 226, 3) := by decide +kernel
theorem dX12_first_95 : decode cX12_first 95 = .ok (.iastore, 1) := by decide +kernel
theorem dX12_first_96 : decode cX12_first 96 = .ok (.aload_n 0, 1) := by decide +kernel
theorem dX12_first_97 : decode cX12_first 97 = .ok (.getfield 49, 3) := by decide +kernel
theorem dX12_first_100 : decode cX12_first 100 = .ok (.iload_n 2, 1) := by decide +kernel
theorem dX12_first_101 : decode cX12_first 101 = .ok (.iconst 3, 1) := by decide +kernel
theorem dX12_first_102 : decode cX12_first 102 = .ok (.iadd, 1) := by decide +kernel
theorem dX12_first_103 : decode cX12_first 103 = .ok (.aload_n 0, 1) := by decide +kernel
theorem dX12_first_104 : decode cX12_first 104 = .ok (.getfield 43, 3) := by decide +kernel
theorem dX12_first_107 : decode cX12_first 107 = .ok (.iload_n 1, 1) := by decide +kernel
theorem dX12_first_108 : decode cX12_first 108 = .ok (.iaload, 1) := by decide +kernel
theorem dX12_first_109 : decode cX12_first 109 = .ok (.bipush 7, 2) := by decide +kernel
theorem dX12_first_111 : decode cX12_first 111 = .ok (.irem, 1) := by decide +kernel
theorem dX12_first_112 : decode cX12_first 112 = .ok (.iastore, 1) := by decide +kernel
theorem dX12_first_113 : decode cX12_first 113 = .ok (.goto 30, 3) := by decide +kernel
theorem dX12_first_116 : decode cX12_first 116 = .ok (.aload_n 0, 1) := by decide +kernel
theorem dX12_first_117 : decode cX12_first 117 = .ok (.getfield 31, 3) := by decide +kernel
theorem dX12_first_120 : decode cX12_first 120 = .ok (.iload_n 1, 1) := by decide +kernel
theorem dX12_first_121 : decode cX12_first 121 = .ok (.iaload, 1) := by decide +kernel
theorem dX12_first_122 : decode cX12_first 122 = .ok (.iconst 2, 1) := by decide +kernel
theorem dX12_first_123 : decode cX12_first 123 = .ok (.if_icmp .ne 20, 3) := by decide +kernel
theorem dX12_first_126 : decode cX12_first 126 = .ok (.aload_n 0, 1) := by decide +kernel
theorem dX12_first_127 : decode cX12_first 127 = .ok (.getfield 49, 3) := by decide +kernel
theorem dX12_first_130 : decode cX12_first 130 = .ok (.iload_n 2, 1) := by decide +kernel
theorem dX12_first_131 : decode cX12_first 131 = .ok (.bipush 12, 2) := by decide +kernel
theorem dX12_first_133 : decode cX12_first 133 = .ok (.iastore, 1) := by decide +kernel
theorem dX12_first_134 : decode cX12_first 134 = .ok (.aload_n 0, 1) := by decide +kernel
theorem dX12_first_135 : decode cX12_first 135 = .ok (.getfield 49, 3) := by decide +kernel
theorem dX12_first_138 : decode cX12_first 138 = .ok (.iload_n 2, 1) := by decide +kernel
theorem dX12_first_139 : decode cX12_first 139 = .ok (.iconst 1, 1) := by decide +kernel
theorem dX12_first_140 : decode cX12_first 140 = .ok (.iadd, 1) := by decide +kernel
theorem dX12_first_141 : decode cX12_first 141 = .ok (.iconst 1, 1) := by decide +kernel
theorem dX12_first_142 : decode cX12_first 142 = .ok (.iastore, 1) := by decide +kernel
theorem dX12_first_143 : decode cX12_first 143 = .ok (.return_, 1) := by decide +kernel
def f_Md_first_L7 : Nat → Int32 → Int32 → Int32 → (Nat → Nat → Int32) → (Nat → Nat → Int64) → Option ((Nat → Nat → Int32) × (Nat → Nat → Int64))
  | 0, _, _, _, _, _ => none
  | n + 1, l1, l2, l3, I, L => (if (10 : Int32) ≤ l3 then (if (0 ≤ l1 ∧ l1 < (8 : Int32)) then (if (I 42 (l1.toNatClampNeg)) = (1 : Int32) then (if (0 ≤ l1 ∧ l1 < (8 : Int32)) then (bnd (I 46 (l1.toNatClampNeg)) fun x6 => (if (0 ≤ (l2 + (4 : Int32)) ∧ (l2 + (4 : Int32)) < (80 : Int32)) then (if (0 ≤ l1 ∧ l1 < (8 : Int32)) then ((f_Md_splitDay (I 46 (l1.toNatClampNeg)) (uI I 48 ((l2 + (4 : Int32)).toNatClampNeg) x6) L).bind fun q9 => (bnd (q9.1 34 45) fun x11 => (if (0 ≤ l2 ∧ l2 < (80 : Int32)) then (bnd (q9.1 34 46) fun x13 => (if (0 ≤ (l2 + (1 : Int32)) ∧ (l2 + (1 : Int32)) < (80 : Int32)) then (bnd (q9.1 34 47) fun x15 => (if (0 ≤ (l2 + (2 : Int32)) ∧ (l2 + (2 : Int32)) < (80 : Int32)) then (if (0 ≤ l1 ∧ l1 < (8 : Int32)) then (bnd (irem (q9.1 46 (l1.toNatClampNeg)) (7 : Int32)) fun x18 => (if (0 ≤ (l2 + (3 : Int32)) ∧ (l2 + (3 : Int32)) < (80 : Int32)) then (some ((uI (uI (uI (uI q9.1 48 (l2.toNatClampNeg) x11) 48 ((l2 + (1 : Int32)).toNatClampNeg) x13) 48 ((l2 + (2 : Int32)).toNatClampNeg) x15) 48 ((l2 + (3 : Int32)).toNatClampNeg) x18), q9.2)) else none)) else none) else none)) else none)) else none))) else none) else none)) else none) else (if (0 ≤ l1 ∧ l1 < (8 : Int32)) then (if (I 42 (l1.toNatClampNeg)) = (2 : Int32) then (if (0 ≤ l2 ∧ l2 < (80 : Int32)) then (if (0 ≤ (l2 + (1 : Int32)) ∧ (l2 + (1 : Int32)) < (80 : Int32)) then (some ((uI (uI I 48 (l2.toNatClampNeg) (12 : Int32)) 48 ((l2 + (1 : Int32)).toNatClampNeg) (1 : Int32)), L)) else none) else none) else (some (I, L))) else none)) else none) else (if (0 ≤ (l2 + l3) ∧ (l2 + l3) < (80 : Int32)) then (f_Md_first_L7 n l1 l2 (l3 + (1 : Int32)) (uI I 48 ((l2 + l3).toNatClampNeg) (0 : Int32)) L) else none))
set_option maxRecDepth 100000 in
set_option maxHeartbeats 4000000 in
theorem x_Md_first_L7 {G : xG} {S : List xSh} {Rf : Nat → Nat → Option Nat} (hT : xTM S Rf) : ∀ (n : Nat) {l1 : Int32} {l2 : Int32} {l3 : Int32} {I : Nat → Nat → Int32} {L : Nat → Nat → Int64} {q : ((Nat → Nat → Int32) × (Nat → Nat → Int64))}, f_Md_first_L7 n l1 l2 l3 I L = some q → X G 4 m_Md_first 7 [(0, .ref (xP G 34)), (1, .int l1), (2, .int l2), (3, .int l3)] [] (S, I, L, Rf) (none, (S, q.1, q.2, Rf)) := by
  intro n
  induction n with
  | zero =>
    intro l1 l2 l3 I L q hf
    exact absurd (show none = some q from hf) (by simp)
  | succ n ih =>
    intro l1 l2 l3 I L q hf
    replace hf := (f_Md_first_L7.eq_2 _ _ _ _ _ _).symm.trans hf
    refine X_iload_n (pc := 7) (i := 3) 3 dX12_first_7 rfl rfl ?_
    refine X_bipush (pc := 8) (10 : Int32) dX12_first_8 (by decide) ?_
    by_cases c2 : (10 : Int32) ≤ l3
    · replace hf := (if_pos c2).symm.trans hf
      refine X_icmp_ge_t (pc := 10) 28 dX12_first_10 (by decide) c2 ?_
      refine X_aload_n (pc := 28) (i := 0) 0 dX12_first_28 rfl rfl ?_
      refine X_getr (pc := 29) (a := 34) (ci := 11) (j := 17) (c := 42) (sh_34 hT) (by decide) k_1245 (rf_34_17 hT) (fun _ h => h) dX12_first_29 ?_
      refine X_iload_n (pc := 32) (i := 1) 1 dX12_first_32 rfl rfl ?_
      obtain ⟨c3, hf⟩ := gd_some hf
      refine X_ialdj (pc := 33) (j := l1.toNatClampNeg) (I 42 (l1.toNatClampNeg)) (sh_42 hT) (vp_in_lit (N := 8) c3 (by decide)) rfl rfl dX12_first_33 ?_
      refine X_iconst (pc := 34) (1 : Int32) dX12_first_34 (by decide) ?_
      by_cases c4 : (I 42 (l1.toNatClampNeg)) = (1 : Int32)
      · replace hf := (if_pos c4).symm.trans hf
        refine X_icmp_ne_f (pc := 35) 116 dX12_first_35 (by decide) c4 ?_
        refine X_aload_n (pc := 38) (i := 0) 0 dX12_first_38 rfl rfl ?_
        refine X_getr (pc := 39) (a := 34) (ci := 11) (j := 33) (c := 48) (sh_34 hT) (by decide) k_1261 (rf_34_33 hT) (fun _ h => h) dX12_first_39 ?_
        refine X_iload_n (pc := 42) (i := 2) 2 dX12_first_42 rfl rfl ?_
        refine X_iconst (pc := 43) (4 : Int32) dX12_first_43 (by decide) ?_
        refine X_iadd (pc := 44) dX12_first_44 ?_
        refine X_aload_n (pc := 45) (i := 0) 0 dX12_first_45 rfl rfl ?_
        refine X_getr (pc := 46) (a := 34) (ci := 11) (j := 21) (c := 46) (sh_34 hT) (by decide) k_1249 (rf_34_21 hT) (fun _ h => h) dX12_first_46 ?_
        refine X_iload_n (pc := 49) (i := 1) 1 dX12_first_49 rfl rfl ?_
        obtain ⟨c5, hf⟩ := gd_some hf
        refine X_ialdj (pc := 50) (j := l1.toNatClampNeg) (I 46 (l1.toNatClampNeg)) (sh_46 hT) (vp_in_lit (N := 8) c5 (by decide)) rfl rfl dX12_first_50 ?_
        obtain ⟨x6, ex6, hf⟩ := bnd_e hf
        refine X_tope ex6 ?_
        obtain ⟨c7, hf⟩ := gd_some hf
        refine X_iastj (pc := 51) (j := ((l2 + (4 : Int32)).toNatClampNeg)) (sh_48 hT) (vp_in_lit (N := 80) c7 (by decide)) rfl dX12_first_51 ?_
        refine X_aload_n (pc := 52) (i := 0) 0 dX12_first_52 rfl rfl ?_
        refine X_aload_n (pc := 53) (i := 0) 0 dX12_first_53 rfl rfl ?_
        refine X_getr (pc := 54) (a := 34) (ci := 11) (j := 21) (c := 46) (sh_34 hT) (by decide) k_1249 (rf_34_21 hT) (fun _ h => h) dX12_first_54 ?_
        refine X_iload_n (pc := 57) (i := 1) 1 dX12_first_57 rfl rfl ?_
        obtain ⟨c8, hf⟩ := gd_some hf
        refine X_ialdj (pc := 58) (j := l1.toNatClampNeg) (I 46 (l1.toNatClampNeg)) (sh_46 hT) (vp_in_lit (N := 8) c8 (by decide)) rfl rfl dX12_first_58 ?_
        obtain ⟨q9, c10, hf⟩ := bd_some hf
        refine X_invV_v (pc := 59) (c_Md_splitDay hT c10) ok_Md_splitDay (ci := 11) (sh_34 hT) k_1215 k_1217 k_42 nd_13 (by decide) rfl (Nat.le_of_ble_eq_true rfl) dX12_first_59 ?_
        refine X_aload_n (pc := 62) (i := 0) 0 dX12_first_62 rfl rfl ?_
        refine X_getr (pc := 63) (a := 34) (ci := 11) (j := 33) (c := 48) (sh_34 hT) (by decide) k_1261 (rf_34_33 hT) (fun _ h => h) dX12_first_63 ?_
        refine X_iload_n (pc := 66) (i := 2) 2 dX12_first_66 rfl rfl ?_
        refine X_aload_n (pc := 67) (i := 0) 0 dX12_first_67 rfl rfl ?_
        refine X_get (pc := 68) (a := 34) (ci := 11) (j := 45) (.int (q9.1 34 45)) (sh_34 hT) (by decide) k_1273 rfl dX12_first_68 ?_
        obtain ⟨x11, ex11, hf⟩ := bnd_e hf
        refine X_tope ex11 ?_
        obtain ⟨c12, hf⟩ := gd_some hf
        refine X_iastj (pc := 71) (j := (l2.toNatClampNeg)) (sh_48 hT) (vp_in_lit (N := 80) c12 (by decide)) rfl dX12_first_71 ?_
        refine X_aload_n (pc := 72) (i := 0) 0 dX12_first_72 rfl rfl ?_
        refine X_getr (pc := 73) (a := 34) (ci := 11) (j := 33) (c := 48) (sh_34 hT) (by decide) k_1261 (rf_34_33 hT) (fun _ h => h) dX12_first_73 ?_
        refine X_iload_n (pc := 76) (i := 2) 2 dX12_first_76 rfl rfl ?_
        refine X_iconst (pc := 77) (1 : Int32) dX12_first_77 (by decide) ?_
        refine X_iadd (pc := 78) dX12_first_78 ?_
        refine X_aload_n (pc := 79) (i := 0) 0 dX12_first_79 rfl rfl ?_
        refine X_get (pc := 80) (a := 34) (ci := 11) (j := 46) (.int (q9.1 34 46)) (sh_34 hT) (by decide) k_1274 rfl dX12_first_80 ?_
        obtain ⟨x13, ex13, hf⟩ := bnd_e hf
        refine X_tope ex13 ?_
        obtain ⟨c14, hf⟩ := gd_some hf
        refine X_iastj (pc := 83) (j := ((l2 + (1 : Int32)).toNatClampNeg)) (sh_48 hT) (vp_in_lit (N := 80) c14 (by decide)) rfl dX12_first_83 ?_
        refine X_aload_n (pc := 84) (i := 0) 0 dX12_first_84 rfl rfl ?_
        refine X_getr (pc := 85) (a := 34) (ci := 11) (j := 33) (c := 48) (sh_34 hT) (by decide) k_1261 (rf_34_33 hT) (fun _ h => h) dX12_first_85 ?_
        refine X_iload_n (pc := 88) (i := 2) 2 dX12_first_88 rfl rfl ?_
        refine X_iconst (pc := 89) (2 : Int32) dX12_first_89 (by decide) ?_
        refine X_iadd (pc := 90) dX12_first_90 ?_
        refine X_aload_n (pc := 91) (i := 0) 0 dX12_first_91 rfl rfl ?_
        refine X_get (pc := 92) (a := 34) (ci := 11) (j := 47) (.int (q9.1 34 47)) (sh_34 hT) (by decide) k_1275 rfl dX12_first_92 ?_
        obtain ⟨x15, ex15, hf⟩ := bnd_e hf
        refine X_tope ex15 ?_
        obtain ⟨c16, hf⟩ := gd_some hf
        refine X_iastj (pc := 95) (j := ((l2 + (2 : Int32)).toNatClampNeg)) (sh_48 hT) (vp_in_lit (N := 80) c16 (by decide)) rfl dX12_first_95 ?_
        refine X_aload_n (pc := 96) (i := 0) 0 dX12_first_96 rfl rfl ?_
        refine X_getr (pc := 97) (a := 34) (ci := 11) (j := 33) (c := 48) (sh_34 hT) (by decide) k_1261 (rf_34_33 hT) (fun _ h => h) dX12_first_97 ?_
        refine X_iload_n (pc := 100) (i := 2) 2 dX12_first_100 rfl rfl ?_
        refine X_iconst (pc := 101) (3 : Int32) dX12_first_101 (by decide) ?_
        refine X_iadd (pc := 102) dX12_first_102 ?_
        refine X_aload_n (pc := 103) (i := 0) 0 dX12_first_103 rfl rfl ?_
        refine X_getr (pc := 104) (a := 34) (ci := 11) (j := 21) (c := 46) (sh_34 hT) (by decide) k_1249 (rf_34_21 hT) (fun _ h => h) dX12_first_104 ?_
        refine X_iload_n (pc := 107) (i := 1) 1 dX12_first_107 rfl rfl ?_
        obtain ⟨c17, hf⟩ := gd_some hf
        refine X_ialdj (pc := 108) (j := l1.toNatClampNeg) (q9.1 46 (l1.toNatClampNeg)) (sh_46 hT) (vp_in_lit (N := 8) c17 (by decide)) rfl rfl dX12_first_108 ?_
        refine X_bipush (pc := 109) (7 : Int32) dX12_first_109 (by decide) ?_
        refine X_irem (pc := 111) dX12_first_111 (by decide) ?_
        obtain ⟨x18, ex18, hf⟩ := bnd_e hf
        refine X_tope ex18 ?_
        obtain ⟨c19, hf⟩ := gd_some hf
        refine X_iastj (pc := 112) (j := ((l2 + (3 : Int32)).toNatClampNeg)) (sh_48 hT) (vp_in_lit (N := 80) c19 (by decide)) rfl dX12_first_112 ?_
        refine X_goto (pc := 113) 143 dX12_first_113 (by decide) ?_
        cases hf
        exact X_return (pc := 143) rfl dX12_first_143
      · replace hf := (if_neg c4).symm.trans hf
        refine X_icmp_ne_t (pc := 35) 116 dX12_first_35 (by decide) c4 ?_
        refine X_aload_n (pc := 116) (i := 0) 0 dX12_first_116 rfl rfl ?_
        refine X_getr (pc := 117) (a := 34) (ci := 11) (j := 17) (c := 42) (sh_34 hT) (by decide) k_1245 (rf_34_17 hT) (fun _ h => h) dX12_first_117 ?_
        refine X_iload_n (pc := 120) (i := 1) 1 dX12_first_120 rfl rfl ?_
        obtain ⟨c20, hf⟩ := gd_some hf
        refine X_ialdj (pc := 121) (j := l1.toNatClampNeg) (I 42 (l1.toNatClampNeg)) (sh_42 hT) (vp_in_lit (N := 8) c20 (by decide)) rfl rfl dX12_first_121 ?_
        refine X_iconst (pc := 122) (2 : Int32) dX12_first_122 (by decide) ?_
        by_cases c21 : (I 42 (l1.toNatClampNeg)) = (2 : Int32)
        · replace hf := (if_pos c21).symm.trans hf
          refine X_icmp_ne_f (pc := 123) 143 dX12_first_123 (by decide) c21 ?_
          refine X_aload_n (pc := 126) (i := 0) 0 dX12_first_126 rfl rfl ?_
          refine X_getr (pc := 127) (a := 34) (ci := 11) (j := 33) (c := 48) (sh_34 hT) (by decide) k_1261 (rf_34_33 hT) (fun _ h => h) dX12_first_127 ?_
          refine X_iload_n (pc := 130) (i := 2) 2 dX12_first_130 rfl rfl ?_
          refine X_bipush (pc := 131) (12 : Int32) dX12_first_131 (by decide) ?_
          obtain ⟨c22, hf⟩ := gd_some hf
          refine X_iastj (pc := 133) (j := (l2.toNatClampNeg)) (sh_48 hT) (vp_in_lit (N := 80) c22 (by decide)) rfl dX12_first_133 ?_
          refine X_aload_n (pc := 134) (i := 0) 0 dX12_first_134 rfl rfl ?_
          refine X_getr (pc := 135) (a := 34) (ci := 11) (j := 33) (c := 48) (sh_34 hT) (by decide) k_1261 (rf_34_33 hT) (fun _ h => h) dX12_first_135 ?_
          refine X_iload_n (pc := 138) (i := 2) 2 dX12_first_138 rfl rfl ?_
          refine X_iconst (pc := 139) (1 : Int32) dX12_first_139 (by decide) ?_
          refine X_iadd (pc := 140) dX12_first_140 ?_
          refine X_iconst (pc := 141) (1 : Int32) dX12_first_141 (by decide) ?_
          obtain ⟨c23, hf⟩ := gd_some hf
          refine X_iastj (pc := 142) (j := ((l2 + (1 : Int32)).toNatClampNeg)) (sh_48 hT) (vp_in_lit (N := 80) c23 (by decide)) rfl dX12_first_142 ?_
          cases hf
          exact X_return (pc := 143) rfl dX12_first_143
        · replace hf := (if_neg c21).symm.trans hf
          refine X_icmp_ne_t (pc := 123) 143 dX12_first_123 (by decide) c21 ?_
          cases hf
          exact X_return (pc := 143) rfl dX12_first_143
    · replace hf := (if_neg c2).symm.trans hf
      refine X_icmp_ge_f (pc := 10) 28 dX12_first_10 (by decide) c2 ?_
      refine X_aload_n (pc := 13) (i := 0) 0 dX12_first_13 rfl rfl ?_
      refine X_getr (pc := 14) (a := 34) (ci := 11) (j := 33) (c := 48) (sh_34 hT) (by decide) k_1261 (rf_34_33 hT) (fun _ h => h) dX12_first_14 ?_
      refine X_iload_n (pc := 17) (i := 2) 2 dX12_first_17 rfl rfl ?_
      refine X_iload_n (pc := 18) (i := 3) 3 dX12_first_18 rfl rfl ?_
      refine X_iadd (pc := 19) dX12_first_19 ?_
      refine X_iconst (pc := 20) (0 : Int32) dX12_first_20 (by decide) ?_
      obtain ⟨c24, hf⟩ := gd_some hf
      refine X_iastj (pc := 21) (j := ((l2 + l3).toNatClampNeg)) (sh_48 hT) (vp_in_lit (N := 80) c24 (by decide)) rfl dX12_first_21 ?_
      refine X_iinc (pc := 22) (i := 3) (q := 3) (v := (l3 + (1 : Int32))) [(3, .int (l3 + (1 : Int32))), (0, .ref (xP G 34)), (1, .int l1), (2, .int l2)] dX12_first_22 rfl rfl (by decide) rfl ?_
      refine X_goto (pc := 25) 7 dX12_first_25 (by decide) ?_
      exact X_lvs [1, 2, 3, 0] rfl (ih hf)
theorem u_Md_first_L7 {S : List xSh} : ∀ (n : Nat) {l1 : Int32} {l2 : Int32} {l3 : Int32} {I : Nat → Nat → Int32} {L : Nat → Nat → Int64} {q : ((Nat → Nat → Int32) × (Nat → Nat → Int64))}, f_Md_first_L7 n l1 l2 l3 I L = some q → FR S [48, 4445, 4446, 4447] [] I q.1 L q.2 := by
  intro n
  induction n with
  | zero =>
    intro l1 l2 l3 I L q hf
    exact absurd (show none = some q from hf) (by simp)
  | succ n ih =>
    intro l1 l2 l3 I L q hf
    replace hf := (f_Md_first_L7.eq_2 _ _ _ _ _ _).symm.trans hf
    by_cases c2 : (10 : Int32) ≤ l3
    · replace hf := (if_pos c2).symm.trans hf
      obtain ⟨c3, hf⟩ := gd_some hf
      by_cases c4 : (I 42 (l1.toNatClampNeg)) = (1 : Int32)
      · replace hf := (if_pos c4).symm.trans hf
        obtain ⟨c5, hf⟩ := gd_some hf
        obtain ⟨x6, ex6, hf⟩ := bnd_e hf
        obtain ⟨c7, hf⟩ := gd_some hf
        obtain ⟨c8, hf⟩ := gd_some hf
        obtain ⟨q9, c10, hf⟩ := bd_some hf
        obtain ⟨x11, ex11, hf⟩ := bnd_e hf
        obtain ⟨c12, hf⟩ := gd_some hf
        obtain ⟨x13, ex13, hf⟩ := bnd_e hf
        obtain ⟨c14, hf⟩ := gd_some hf
        obtain ⟨x15, ex15, hf⟩ := bnd_e hf
        obtain ⟨c16, hf⟩ := gd_some hf
        obtain ⟨c17, hf⟩ := gd_some hf
        obtain ⟨x18, ex18, hf⟩ := bnd_e hf
        obtain ⟨c19, hf⟩ := gd_some hf
        cases hf
        exact (FR.ai (FR.ai (FR.ai (FR.ai (FR.tr (FR.ai FR.rf (by decide)) (u_Md_splitDay (q := q9) c10) (by decide) (by decide)) (by decide)) (by decide)) (by decide)) (by decide))
      · replace hf := (if_neg c4).symm.trans hf
        obtain ⟨c20, hf⟩ := gd_some hf
        by_cases c21 : (I 42 (l1.toNatClampNeg)) = (2 : Int32)
        · replace hf := (if_pos c21).symm.trans hf
          obtain ⟨c22, hf⟩ := gd_some hf
          obtain ⟨c23, hf⟩ := gd_some hf
          cases hf
          exact (FR.ai (FR.ai FR.rf (by decide)) (by decide))
        · replace hf := (if_neg c21).symm.trans hf
          cases hf
          exact FR.rf
    · replace hf := (if_neg c2).symm.trans hf
      obtain ⟨c24, hf⟩ := gd_some hf
      exact FR.tr (FR.ai FR.rf (by decide)) (ih hf) (by decide) (by decide)
def f_Md_first (a0 : Int32) (I : Nat → Nat → Int32) (L : Nat → Nat → Int64) : Option ((Nat → Nat → Int32) × (Nat → Nat → Int64)) := (bnd ((10 : Int32) * a0) fun x1 => (f_Md_first_L7 xF a0 x1 (0 : Int32) I L))
set_option maxRecDepth 100000 in
set_option maxHeartbeats 4000000 in
theorem c_Md_first {G : xG} {S : List xSh} {Rf : Nat → Nat → Option Nat} (hT : xTM S Rf) {a0 : Int32} {I : Nat → Nat → Int32} {L : Nat → Nat → Int64} {q : ((Nat → Nat → Int32) × (Nat → Nat → Int64))} (hf : f_Md_first a0 I L = some q) : CT G 4 m_Md_first [.ref (xP G 34), .int a0] (S, I, L, Rf) (none, (S, q.1, q.2, Rf)) := by
  refine CT.of (by decide +kernel) (Nat.le_of_ble_eq_true rfl) ?_
  show X G 4 m_Md_first 0 [(0, .ref (xP G 34)), (1, .int a0)] [] (S, I, L, Rf) (none, (S, q.1, q.2, Rf))
  replace hf := (f_Md_first.eq_1 _ _ _).symm.trans hf
  refine X_bipush (pc := 0) (10 : Int32) dX12_first_0 (by decide) ?_
  refine X_iload_n (pc := 2) (i := 1) 1 dX12_first_2 rfl rfl ?_
  refine X_imul (pc := 3) dX12_first_3 ?_
  obtain ⟨x1, ex1, hf⟩ := bnd_e hf
  refine X_tope ex1 ?_
  refine X_istore_n (pc := 4) (i := 2) [(2, .int x1), (0, .ref (xP G 34)), (1, .int a0)] dX12_first_4 rfl (by decide) rfl ?_
  refine X_iconst (pc := 5) (0 : Int32) dX12_first_5 (by decide) ?_
  refine X_istore_n (pc := 6) (i := 3) [(3, .int (0 : Int32)), (2, .int x1), (0, .ref (xP G 34)), (1, .int a0)] dX12_first_6 rfl (by decide) rfl ?_
  exact X_lvs [2, 3, 1, 0] rfl (x_Md_first_L7 hT xF hf)
theorem u_Md_first {S : List xSh} {a0 : Int32} {I : Nat → Nat → Int32} {L : Nat → Nat → Int64} {q : ((Nat → Nat → Int32) × (Nat → Nat → Int64))} (hf : f_Md_first a0 I L = some q) : FR S [48, 4445, 4446, 4447] [] I q.1 L q.2 := by
  replace hf := (f_Md_first.eq_1 _ _ _).symm.trans hf
  obtain ⟨x1, ex1, hf⟩ := bnd_e hf
  exact FR.tr FR.rf (u_Md_first_L7 xF hf) (by decide) (by decide)
theorem dX12_renew_0 : decode cX12_renew 0 = .ok (.aload_n 0, 1) := by decide +kernel
theorem dX12_renew_1 : decode cX12_renew 1 = .ok (.iconst 0, 1) := by decide +kernel
theorem dX12_renew_2 : decode cX12_renew 2 = .ok (.putfield 185, 3) := by decide +kernel
theorem dX12_renew_5 : decode cX12_renew 5 = .ok (.aload_n 0, 1) := by decide +kernel
theorem dX12_renew_6 : decode cX12_renew 6 = .ok (.iconst 0, 1) := by decide +kernel
theorem dX12_renew_7 : decode cX12_renew 7 = .ok (.putfield 188, 3) := by decide +kernel
theorem dX12_renew_10 : decode cX12_renew 10 = .ok (.aload_n 0, 1) := by decide +kernel
theorem dX12_renew_11 : decode cX12_renew 11 = .ok (.iconst 0, 1) := by decide +kernel
theorem dX12_renew_12 : decode cX12_renew 12 = .ok (.putfield 191, 3) := by decide +kernel
theorem dX12_renew_15 : decode cX12_renew 15 = .ok (.aload_n 0, 1) := by decide +kernel
theorem dX12_renew_16 : decode cX12_renew 16 = .ok (.iconst 0, 1) := by decide +kernel
theorem dX12_renew_17 : decode cX12_renew 17 = .ok (.putfield 194, 3) := by decide +kernel
theorem dX12_renew_20 : decode cX12_renew 20 = .ok (.aload_n 0, 1) := by decide +kernel
theorem dX12_renew_21 : decode cX12_renew 21 = .ok (.iconst (-1), 1) := by decide +kernel
theorem dX12_renew_22 : decode cX12_renew 22 = .ok (.putfield 197, 3) := by decide +kernel
theorem dX12_renew_25 : decode cX12_renew 25 = .ok (.aload_n 0, 1) := by decide +kernel
theorem dX12_renew_26 : decode cX12_renew 26 = .ok (.iconst 0, 1) := by decide +kernel
theorem dX12_renew_27 : decode cX12_renew 27 = .ok (.putfield 200, 3) := by decide +kernel
theorem dX12_renew_30 : decode cX12_renew 30 = .ok (.aload_n 0, 1) := by decide +kernel
theorem dX12_renew_31 : decode cX12_renew 31 = .ok (.iconst 0, 1) := by decide +kernel
theorem dX12_renew_32 : decode cX12_renew 32 = .ok (.putfield 203, 3) := by decide +kernel
theorem dX12_renew_35 : decode cX12_renew 35 = .ok (.aload_n 0, 1) := by decide +kernel
theorem dX12_renew_36 : decode cX12_renew 36 = .ok (.lconst 0, 1) := by decide +kernel
theorem dX12_renew_37 : decode cX12_renew 37 = .ok (.putfield 206, 3) := by decide +kernel
theorem dX12_renew_40 : decode cX12_renew 40 = .ok (.aload_n 0, 1) := by decide +kernel
theorem dX12_renew_41 : decode cX12_renew 41 = .ok (.iconst 0, 1) := by decide +kernel
theorem dX12_renew_42 : decode cX12_renew 42 = .ok (.putfield 210, 3) := by decide +kernel
theorem dX12_renew_45 : decode cX12_renew 45 = .ok (.iconst 0, 1) := by decide +kernel
theorem dX12_renew_46 : decode cX12_renew 46 = .ok (.istore_n 1, 1) := by decide +kernel
theorem dX12_renew_47 : decode cX12_renew 47 = .ok (.iload_n 1, 1) := by decide +kernel
theorem dX12_renew_48 : decode cX12_renew 48 = .ok (.aload_n 0, 1) := by decide +kernel
theorem dX12_renew_49 : decode cX12_renew 49 = .ok (.getfield 172, 3) := by decide +kernel
theorem dX12_renew_52 : decode cX12_renew 52 = .ok (.if_icmp .ge 14, 3) := by decide +kernel
theorem dX12_renew_55 : decode cX12_renew 55 = .ok (.aload_n 0, 1) := by decide +kernel
theorem dX12_renew_56 : decode cX12_renew 56 = .ok (.iload_n 1, 1) := by decide +kernel
theorem dX12_renew_57 : decode cX12_renew 57 = .ok (.invokevirtual 213, 3) := by decide +kernel
theorem dX12_renew_60 : decode cX12_renew 60 = .ok (.iinc 1 1, 3) := by decide +kernel
theorem dX12_renew_63 : decode cX12_renew 63 = .ok (.goto (-16), 3) := by decide +kernel
theorem dX12_renew_66 : decode cX12_renew 66 = .ok (.iconst 0, 1) := by decide +kernel
theorem dX12_renew_67 : decode cX12_renew 67 = .ok (.istore_n 1, 1) := by decide +kernel
theorem dX12_renew_68 : decode cX12_renew 68 = .ok (.iload_n 1, 1) := by decide +kernel
theorem dX12_renew_69 : decode cX12_renew 69 = .ok (.aload_n 0, 1) := by decide +kernel
theorem dX12_renew_70 : decode cX12_renew 70 = .ok (.getfield 175, 3) := by decide +kernel
theorem dX12_renew_73 : decode cX12_renew 73 = .ok (.if_icmp .ge 37, 3) := by decide +kernel
theorem dX12_renew_76 : decode cX12_renew 76 = .ok (.aload_n 0, 1) := by decide +kernel
theorem dX12_renew_77 : decode cX12_renew 77 = .ok (.getfield 52, 3) := by decide +kernel
theorem dX12_renew_80 : decode cX12_renew 80 = .ok (.iload_n 1, 1) := by decide +kernel
theorem dX12_renew_81 : decode cX12_renew 81 = .ok (.iconst 0, 1) := by decide +kernel
theorem dX12_renew_82 : decode cX12_renew 82 = .ok (.iastore, 1) := by decide +kernel
theorem dX12_renew_83 : decode cX12_renew 83 = .ok (.aload_n 0, 1) := by decide +kernel
theorem dX12_renew_84 : decode cX12_renew 84 = .ok (.getfield 55, 3) := by decide +kernel
theorem dX12_renew_87 : decode cX12_renew 87 = .ok (.iload_n 1, 1) := by decide +kernel
theorem dX12_renew_88 : decode cX12_renew 88 = .ok (.iconst 0, 1) := by decide +kernel
theorem dX12_renew_89 : decode cX12_renew 89 = .ok (.iastore, 1) := by decide +kernel
theorem dX12_renew_90 : decode cX12_renew 90 = .ok (.aload_n 0, 1) := by decide +kernel
theorem dX12_renew_91 : decode cX12_renew 91 = .ok (.getfield 58, 3) := by decide +kernel
theorem dX12_renew_94 : decode cX12_renew 94 = .ok (.iload_n 1, 1) := by decide +kernel
theorem dX12_renew_95 : decode cX12_renew 95 = .ok (.iconst 0, 1) := by decide +kernel
theorem dX12_renew_96 : decode cX12_renew 96 = .ok (.iastore, 1) := by decide +kernel
theorem dX12_renew_97 : decode cX12_renew 97 = .ok (.aload_n 0, 1) := by decide +kernel
theorem dX12_renew_98 : decode cX12_renew 98 = .ok (.getfield 61, 3) := by decide +kernel
theorem dX12_renew_101 : decode cX12_renew 101 = .ok (.iload_n 1, 1) := by decide +kernel
theorem dX12_renew_102 : decode cX12_renew 102 = .ok (.iconst 0, 1) := by decide +kernel
theorem dX12_renew_103 : decode cX12_renew 103 = .ok (.bastore, 1) := by decide +kernel
theorem dX12_renew_104 : decode cX12_renew 104 = .ok (.iinc 1 1, 3) := by decide +kernel
theorem dX12_renew_107 : decode cX12_renew 107 = .ok (.goto (-39), 3) := by decide +kernel
theorem dX12_renew_110 : decode cX12_renew 110 = .ok (.return_, 1) := by decide +kernel
def f_Md_renew_L68 : Nat → Int32 → (Nat → Nat → Int32) → (Nat → Nat → Int64) → Option ((Nat → Nat → Int32) × (Nat → Nat → Int64))
  | 0, _, _, _ => none
  | n + 1, l1, I, L => (if (I 34 22) ≤ l1 then (some (I, L)) else (if (0 ≤ l1 ∧ l1 < (4 : Int32)) then (if (0 ≤ l1 ∧ l1 < (4 : Int32)) then (if (0 ≤ l1 ∧ l1 < (4 : Int32)) then (if (0 ≤ l1 ∧ l1 < (4 : Int32)) then (f_Md_renew_L68 n (l1 + (1 : Int32)) (uI (uI (uI (uI I 49 (l1.toNatClampNeg) (0 : Int32)) 50 (l1.toNatClampNeg) (0 : Int32)) 51 (l1.toNatClampNeg) (0 : Int32)) 52 (l1.toNatClampNeg) (0 : Int32)) L) else none) else none) else none) else none))
set_option maxRecDepth 100000 in
set_option maxHeartbeats 4000000 in
theorem x_Md_renew_L68 {G : xG} {S : List xSh} {Rf : Nat → Nat → Option Nat} (hT : xTM S Rf) : ∀ (n : Nat) {l1 : Int32} {I : Nat → Nat → Int32} {L : Nat → Nat → Int64} {q : ((Nat → Nat → Int32) × (Nat → Nat → Int64))}, f_Md_renew_L68 n l1 I L = some q → X G 5 m_Md_renew 68 [(0, .ref (xP G 34)), (1, .int l1)] [] (S, I, L, Rf) (none, (S, q.1, q.2, Rf)) := by
  intro n
  induction n with
  | zero =>
    intro l1 I L q hf
    exact absurd (show none = some q from hf) (by simp)
  | succ n ih =>
    intro l1 I L q hf
    replace hf := (f_Md_renew_L68.eq_2 _ _ _ _).symm.trans hf
    refine X_iload_n (pc := 68) (i := 1) 1 dX12_renew_68 rfl rfl ?_
    refine X_aload_n (pc := 69) (i := 0) 0 dX12_renew_69 rfl rfl ?_
    refine X_get (pc := 70) (a := 34) (ci := 11) (j := 22) (.int (I 34 22)) (sh_34 hT) (by decide) k_1250 rfl dX12_renew_70 ?_
    by_cases c2 : (I 34 22) ≤ l1
    · replace hf := (if_pos c2).symm.trans hf
      refine X_icmp_ge_t (pc := 73) 110 dX12_renew_73 (by decide) c2 ?_
      cases hf
      exact X_return (pc := 110) rfl dX12_renew_110
    · replace hf := (if_neg c2).symm.trans hf
      refine X_icmp_ge_f (pc := 73) 110 dX12_renew_73 (by decide) c2 ?_
      refine X_aload_n (pc := 76) (i := 0) 0 dX12_renew_76 rfl rfl ?_
      refine X_getr (pc := 77) (a := 34) (ci := 11) (j := 34) (c := 49) (sh_34 hT) (by decide) k_1262 (rf_34_34 hT) (fun _ h => h) dX12_renew_77 ?_
      refine X_iload_n (pc := 80) (i := 1) 1 dX12_renew_80 rfl rfl ?_
      refine X_iconst (pc := 81) (0 : Int32) dX12_renew_81 (by decide) ?_
      obtain ⟨c3, hf⟩ := gd_some hf
      refine X_iastj (pc := 82) (j := (l1.toNatClampNeg)) (sh_49 hT) (vp_in_lit (N := 4) c3 (by decide)) rfl dX12_renew_82 ?_
      refine X_aload_n (pc := 83) (i := 0) 0 dX12_renew_83 rfl rfl ?_
      refine X_getr (pc := 84) (a := 34) (ci := 11) (j := 35) (c := 50) (sh_34 hT) (by decide) k_1263 (rf_34_35 hT) (fun _ h => h) dX12_renew_84 ?_
      refine X_iload_n (pc := 87) (i := 1) 1 dX12_renew_87 rfl rfl ?_
      refine X_iconst (pc := 88) (0 : Int32) dX12_renew_88 (by decide) ?_
      obtain ⟨c4, hf⟩ := gd_some hf
      refine X_iastj (pc := 89) (j := (l1.toNatClampNeg)) (sh_50 hT) (vp_in_lit (N := 4) c4 (by decide)) rfl dX12_renew_89 ?_
      refine X_aload_n (pc := 90) (i := 0) 0 dX12_renew_90 rfl rfl ?_
      refine X_getr (pc := 91) (a := 34) (ci := 11) (j := 36) (c := 51) (sh_34 hT) (by decide) k_1264 (rf_34_36 hT) (fun _ h => h) dX12_renew_91 ?_
      refine X_iload_n (pc := 94) (i := 1) 1 dX12_renew_94 rfl rfl ?_
      refine X_iconst (pc := 95) (0 : Int32) dX12_renew_95 (by decide) ?_
      obtain ⟨c5, hf⟩ := gd_some hf
      refine X_iastj (pc := 96) (j := (l1.toNatClampNeg)) (sh_51 hT) (vp_in_lit (N := 4) c5 (by decide)) rfl dX12_renew_96 ?_
      refine X_aload_n (pc := 97) (i := 0) 0 dX12_renew_97 rfl rfl ?_
      refine X_getr (pc := 98) (a := 34) (ci := 11) (j := 37) (c := 52) (sh_34 hT) (by decide) k_1265 (rf_34_37 hT) (fun _ h => h) dX12_renew_98 ?_
      refine X_iload_n (pc := 101) (i := 1) 1 dX12_renew_101 rfl rfl ?_
      refine X_iconst (pc := 102) (0 : Int32) dX12_renew_102 (by decide) ?_
      obtain ⟨c6, hf⟩ := gd_some hf
      refine X_zastj (pc := 103) (j := (l1.toNatClampNeg)) (by decide) (sh_52 hT) (vp_in_lit (N := 4) c6 (by decide)) rfl dX12_renew_103 ?_
      refine X_iinc (pc := 104) (i := 1) (q := 1) (v := (l1 + (1 : Int32))) [(1, .int (l1 + (1 : Int32))), (0, .ref (xP G 34))] dX12_renew_104 rfl rfl (by decide) rfl ?_
      refine X_goto (pc := 107) 68 dX12_renew_107 (by decide) ?_
      exact X_lvs [1, 0] rfl (ih hf)
theorem u_Md_renew_L68 {S : List xSh} : ∀ (n : Nat) {l1 : Int32} {I : Nat → Nat → Int32} {L : Nat → Nat → Int64} {q : ((Nat → Nat → Int32) × (Nat → Nat → Int64))}, f_Md_renew_L68 n l1 I L = some q → FR S [48, 49, 50, 51, 52, 4425, 4426, 4427, 4428, 4429, 4430, 4431, 4440, 4445, 4446, 4447] [4432] I q.1 L q.2 := by
  intro n
  induction n with
  | zero =>
    intro l1 I L q hf
    exact absurd (show none = some q from hf) (by simp)
  | succ n ih =>
    intro l1 I L q hf
    replace hf := (f_Md_renew_L68.eq_2 _ _ _ _).symm.trans hf
    by_cases c2 : (I 34 22) ≤ l1
    · replace hf := (if_pos c2).symm.trans hf
      cases hf
      exact FR.rf
    · replace hf := (if_neg c2).symm.trans hf
      obtain ⟨c3, hf⟩ := gd_some hf
      obtain ⟨c4, hf⟩ := gd_some hf
      obtain ⟨c5, hf⟩ := gd_some hf
      obtain ⟨c6, hf⟩ := gd_some hf
      exact FR.tr (FR.ai (FR.ai (FR.ai (FR.ai FR.rf (by decide)) (by decide)) (by decide)) (by decide)) (ih hf) (by decide) (by decide)
def f_Md_renew_L47 : Nat → Int32 → (Nat → Nat → Int32) → (Nat → Nat → Int64) → Option ((Nat → Nat → Int32) × (Nat → Nat → Int64))
  | 0, _, _, _ => none
  | n + 1, l1, I, L => (if (I 34 16) ≤ l1 then (f_Md_renew_L68 xF (0 : Int32) I L) else ((f_Md_first l1 I L).bind fun q7 => (f_Md_renew_L47 n (l1 + (1 : Int32)) q7.1 q7.2)))
set_option maxRecDepth 100000 in
set_option maxHeartbeats 4000000 in
theorem x_Md_renew_L47 {G : xG} {S : List xSh} {Rf : Nat → Nat → Option Nat} (hT : xTM S Rf) : ∀ (n : Nat) {l1 : Int32} {I : Nat → Nat → Int32} {L : Nat → Nat → Int64} {q : ((Nat → Nat → Int32) × (Nat → Nat → Int64))}, f_Md_renew_L47 n l1 I L = some q → X G 5 m_Md_renew 47 [(0, .ref (xP G 34)), (1, .int l1)] [] (S, I, L, Rf) (none, (S, q.1, q.2, Rf)) := by
  intro n
  induction n with
  | zero =>
    intro l1 I L q hf
    exact absurd (show none = some q from hf) (by simp)
  | succ n ih =>
    intro l1 I L q hf
    replace hf := (f_Md_renew_L47.eq_2 _ _ _ _).symm.trans hf
    refine X_iload_n (pc := 47) (i := 1) 1 dX12_renew_47 rfl rfl ?_
    refine X_aload_n (pc := 48) (i := 0) 0 dX12_renew_48 rfl rfl ?_
    refine X_get (pc := 49) (a := 34) (ci := 11) (j := 16) (.int (I 34 16)) (sh_34 hT) (by decide) k_1244 rfl dX12_renew_49 ?_
    by_cases c1 : (I 34 16) ≤ l1
    · replace hf := (if_pos c1).symm.trans hf
      refine X_icmp_ge_t (pc := 52) 66 dX12_renew_52 (by decide) c1 ?_
      refine X_iconst (pc := 66) (0 : Int32) dX12_renew_66 (by decide) ?_
      refine X_istore_n (pc := 67) (i := 1) [(1, .int (0 : Int32)), (0, .ref (xP G 34))] dX12_renew_67 rfl (by decide) rfl ?_
      exact X_lvs [1, 0] rfl (x_Md_renew_L68 hT xF hf)
    · replace hf := (if_neg c1).symm.trans hf
      refine X_icmp_ge_f (pc := 52) 66 dX12_renew_52 (by decide) c1 ?_
      refine X_aload_n (pc := 55) (i := 0) 0 dX12_renew_55 rfl rfl ?_
      refine X_iload_n (pc := 56) (i := 1) 1 dX12_renew_56 rfl rfl ?_
      obtain ⟨q7, c8, hf⟩ := bd_some hf
      refine X_invV_v (pc := 57) (c_Md_first hT c8) ok_Md_first (ci := 11) (sh_34 hT) k_1211 k_1213 k_41 nd_13 (by decide) rfl (Nat.le_of_ble_eq_true rfl) dX12_renew_57 ?_
      refine X_iinc (pc := 60) (i := 1) (q := 1) (v := (l1 + (1 : Int32))) [(1, .int (l1 + (1 : Int32))), (0, .ref (xP G 34))] dX12_renew_60 rfl rfl (by decide) rfl ?_
      refine X_goto (pc := 63) 47 dX12_renew_63 (by decide) ?_
      exact X_lvs [1, 0] rfl (ih hf)
theorem u_Md_renew_L47 {S : List xSh} : ∀ (n : Nat) {l1 : Int32} {I : Nat → Nat → Int32} {L : Nat → Nat → Int64} {q : ((Nat → Nat → Int32) × (Nat → Nat → Int64))}, f_Md_renew_L47 n l1 I L = some q → FR S [48, 49, 50, 51, 52, 4425, 4426, 4427, 4428, 4429, 4430, 4431, 4440, 4445, 4446, 4447] [4432] I q.1 L q.2 := by
  intro n
  induction n with
  | zero =>
    intro l1 I L q hf
    exact absurd (show none = some q from hf) (by simp)
  | succ n ih =>
    intro l1 I L q hf
    replace hf := (f_Md_renew_L47.eq_2 _ _ _ _).symm.trans hf
    by_cases c1 : (I 34 16) ≤ l1
    · replace hf := (if_pos c1).symm.trans hf
      exact FR.tr FR.rf (u_Md_renew_L68 xF hf) (by decide) (by decide)
    · replace hf := (if_neg c1).symm.trans hf
      obtain ⟨q7, c8, hf⟩ := bd_some hf
      exact FR.tr (FR.tr FR.rf (u_Md_first (q := q7) c8) (by decide) (by decide)) (ih hf) (by decide) (by decide)
def f_Md_renew (I : Nat → Nat → Int32) (L : Nat → Nat → Int64) : Option ((Nat → Nat → Int32) × (Nat → Nat → Int64)) := (f_Md_renew_L47 xF (0 : Int32) (uI (uI (uI (uI (uI (uI (uI (uI I 34 25 (0 : Int32)) 34 26 (0 : Int32)) 34 27 (0 : Int32)) 34 28 (0 : Int32)) 34 29 (-1 : Int32)) 34 30 (0 : Int32)) 34 31 (0 : Int32)) 34 40 (0 : Int32)) (uL L 34 32 (0 : Int64)))
set_option maxRecDepth 100000 in
set_option maxHeartbeats 4000000 in
theorem c_Md_renew {G : xG} {S : List xSh} {Rf : Nat → Nat → Option Nat} (hT : xTM S Rf) {I : Nat → Nat → Int32} {L : Nat → Nat → Int64} {q : ((Nat → Nat → Int32) × (Nat → Nat → Int64))} (hf : f_Md_renew I L = some q) : CT G 5 m_Md_renew [.ref (xP G 34)] (S, I, L, Rf) (none, (S, q.1, q.2, Rf)) := by
  refine CT.of (by decide +kernel) (Nat.le_of_ble_eq_true rfl) ?_
  show X G 5 m_Md_renew 0 [(0, .ref (xP G 34))] [] (S, I, L, Rf) (none, (S, q.1, q.2, Rf))
  replace hf := (f_Md_renew.eq_1 _ _).symm.trans hf
  refine X_aload_n (pc := 0) (i := 0) 0 dX12_renew_0 rfl rfl ?_
  refine X_iconst (pc := 1) (0 : Int32) dX12_renew_1 (by decide) ?_
  refine X_puti (pc := 2) (a := 34) (ci := 11) (j := 25) 25 rfl false (sh_34 hT) (by decide) k_1253 rfl (fun h => by cases h) rfl dX12_renew_2 ?_
  refine X_aload_n (pc := 5) (i := 0) 0 dX12_renew_5 rfl rfl ?_
  refine X_iconst (pc := 6) (0 : Int32) dX12_renew_6 (by decide) ?_
  refine X_puti (pc := 7) (a := 34) (ci := 11) (j := 26) 26 rfl false (sh_34 hT) (by decide) k_1254 rfl (fun h => by cases h) rfl dX12_renew_7 ?_
  refine X_aload_n (pc := 10) (i := 0) 0 dX12_renew_10 rfl rfl ?_
  refine X_iconst (pc := 11) (0 : Int32) dX12_renew_11 (by decide) ?_
  refine X_puti (pc := 12) (a := 34) (ci := 11) (j := 27) 27 rfl false (sh_34 hT) (by decide) k_1255 rfl (fun h => by cases h) rfl dX12_renew_12 ?_
  refine X_aload_n (pc := 15) (i := 0) 0 dX12_renew_15 rfl rfl ?_
  refine X_iconst (pc := 16) (0 : Int32) dX12_renew_16 (by decide) ?_
  refine X_puti (pc := 17) (a := 34) (ci := 11) (j := 28) 28 rfl false (sh_34 hT) (by decide) k_1256 rfl (fun h => by cases h) rfl dX12_renew_17 ?_
  refine X_aload_n (pc := 20) (i := 0) 0 dX12_renew_20 rfl rfl ?_
  refine X_iconst (pc := 21) (-1 : Int32) dX12_renew_21 (by decide) ?_
  refine X_puti (pc := 22) (a := 34) (ci := 11) (j := 29) 29 rfl false (sh_34 hT) (by decide) k_1257 rfl (fun h => by cases h) rfl dX12_renew_22 ?_
  refine X_aload_n (pc := 25) (i := 0) 0 dX12_renew_25 rfl rfl ?_
  refine X_iconst (pc := 26) (0 : Int32) dX12_renew_26 (by decide) ?_
  refine X_puti (pc := 27) (a := 34) (ci := 11) (j := 30) 30 rfl false (sh_34 hT) (by decide) k_1258 rfl (fun h => by cases h) rfl dX12_renew_27 ?_
  refine X_aload_n (pc := 30) (i := 0) 0 dX12_renew_30 rfl rfl ?_
  refine X_iconst (pc := 31) (0 : Int32) dX12_renew_31 (by decide) ?_
  refine X_puti (pc := 32) (a := 34) (ci := 11) (j := 31) 31 rfl false (sh_34 hT) (by decide) k_1259 rfl (fun h => by cases h) rfl dX12_renew_32 ?_
  refine X_aload_n (pc := 35) (i := 0) 0 dX12_renew_35 rfl rfl ?_
  refine X_lconst (pc := 36) (0 : Int64) dX12_renew_36 (by decide) ?_
  refine X_putl (pc := 37) (a := 34) (ci := 11) (j := 32) 32 rfl false (sh_34 hT) (by decide) k_1260 rfl (fun h => by cases h) rfl dX12_renew_37 ?_
  refine X_aload_n (pc := 40) (i := 0) 0 dX12_renew_40 rfl rfl ?_
  refine X_iconst (pc := 41) (0 : Int32) dX12_renew_41 (by decide) ?_
  refine X_puti (pc := 42) (a := 34) (ci := 11) (j := 40) 40 rfl false (sh_34 hT) (by decide) k_1268 rfl (fun h => by cases h) rfl dX12_renew_42 ?_
  refine X_iconst (pc := 45) (0 : Int32) dX12_renew_45 (by decide) ?_
  refine X_istore_n (pc := 46) (i := 1) [(1, .int (0 : Int32)), (0, .ref (xP G 34))] dX12_renew_46 rfl (by decide) rfl ?_
  exact X_lvs [1, 0] rfl (x_Md_renew_L47 hT xF hf)
theorem u_Md_renew {S : List xSh} {I : Nat → Nat → Int32} {L : Nat → Nat → Int64} {q : ((Nat → Nat → Int32) × (Nat → Nat → Int64))} (hf : f_Md_renew I L = some q) : FR S [48, 49, 50, 51, 52, 4425, 4426, 4427, 4428, 4429, 4430, 4431, 4440, 4445, 4446, 4447] [4432] I q.1 L q.2 := by
  replace hf := (f_Md_renew.eq_1 _ _).symm.trans hf
  exact FR.tr (FR.fi (FR.fl (FR.fi (FR.fi (FR.fi (FR.fi (FR.fi (FR.fi (FR.fi FR.rf (by decide)) (by decide)) (by decide)) (by decide)) (by decide)) (by decide)) (by decide)) (by decide)) (by decide)) (u_Md_renew_L47 xF hf) (by decide) (by decide)
theorem dX12_build_0 : decode cX12_build 0 = .ok (.aload_n 0, 1) := by decide +kernel
theorem dX12_build_1 : decode cX12_build 1 = .ok (.getfield 144, 3) := by decide +kernel
theorem dX12_build_4 : decode cX12_build 4 = .ok (.istore_n 1, 1) := by decide +kernel
theorem dX12_build_5 : decode cX12_build 5 = .ok (.aload_n 0, 1) := by decide +kernel
theorem dX12_build_6 : decode cX12_build 6 = .ok (.iconst 0, 1) := by decide +kernel
theorem dX12_build_7 : decode cX12_build 7 = .ok (.putfield 136, 3) := by decide +kernel
theorem dX12_build_10 : decode cX12_build 10 = .ok (.aload_n 0, 1) := by decide +kernel
theorem dX12_build_11 : decode cX12_build 11 = .ok (.iconst 0, 1) := by decide +kernel
theorem dX12_build_12 : decode cX12_build 12 = .ok (.putfield 147, 3) := by decide +kernel
theorem dX12_build_15 : decode cX12_build 15 = .ok (.aload_n 0, 1) := by decide +kernel
theorem dX12_build_16 : decode cX12_build 16 = .ok (.iconst (-1), 1) := by decide +kernel
theorem dX12_build_17 : decode cX12_build 17 = .ok (.putfield 150, 3) := by decide +kernel
theorem dX12_build_20 : decode cX12_build 20 = .ok (.aload_n 0, 1) := by decide +kernel
theorem dX12_build_21 : decode cX12_build 21 = .ok (.iconst 0, 1) := by decide +kernel
theorem dX12_build_22 : decode cX12_build 22 = .ok (.putfield 153, 3) := by decide +kernel
theorem dX12_build_25 : decode cX12_build 25 = .ok (.aload_n 0, 1) := by decide +kernel
theorem dX12_build_26 : decode cX12_build 26 = .ok (.iconst 1, 1) := by decide +kernel
theorem dX12_build_27 : decode cX12_build 27 = .ok (.putfield 156, 3) := by decide +kernel
theorem dX12_build_30 : decode cX12_build 30 = .ok (.aload_n 0, 1) := by decide +kernel
theorem dX12_build_31 : decode cX12_build 31 = .ok (.iconst 0, 1) := by decide +kernel
theorem dX12_build_32 : decode cX12_build 32 = .ok (.putfield 159, 3) := by decide +kernel
theorem dX12_build_35 : decode cX12_build 35 = .ok (.aload_n 0, 1) := by decide +kernel
theorem dX12_build_36 : decode cX12_build 36 = .ok (.iconst 0, 1) := by decide +kernel
theorem dX12_build_37 : decode cX12_build 37 = .ok (.putfield 162, 3) := by decide +kernel
theorem dX12_build_40 : decode cX12_build 40 = .ok (.aload_n 0, 1) := by decide +kernel
theorem dX12_build_41 : decode cX12_build 41 = .ok (.ldc 165, 2) := by decide +kernel
theorem dX12_build_43 : decode cX12_build 43 = .ok (.putfield 166, 3) := by decide +kernel
theorem dX12_build_46 : decode cX12_build 46 = .ok (.aload_n 0, 1) := by decide +kernel
theorem dX12_build_47 : decode cX12_build 47 = .ok (.iconst (-1), 1) := by decide +kernel
theorem dX12_build_48 : decode cX12_build 48 = .ok (.putfield 169, 3) := by decide +kernel
theorem dX12_build_51 : decode cX12_build 51 = .ok (.iconst 0, 1) := by decide +kernel
theorem dX12_build_52 : decode cX12_build 52 = .ok (.istore_n 2, 1) := by decide +kernel
theorem dX12_build_53 : decode cX12_build 53 = .ok (.iload_n 2, 1) := by decide +kernel
theorem dX12_build_54 : decode cX12_build 54 = .ok (.bipush 9, 2) := by decide +kernel
theorem dX12_build_56 : decode cX12_build 56 = .ok (.if_icmp .ge 16, 3) := by decide +kernel
theorem dX12_build_59 : decode cX12_build 59 = .ok (.aload_n 0, 1) := by decide +kernel
theorem dX12_build_60 : decode cX12_build 60 = .ok (.getfield 28, 3) := by decide +kernel
theorem dX12_build_63 : decode cX12_build 63 = .ok (.iload_n 2, 1) := by decide +kernel
theorem dX12_build_64 : decode cX12_build 64 = .ok (.iconst 0, 1) := by decide +kernel
theorem dX12_build_65 : decode cX12_build 65 = .ok (.iastore, 1) := by decide +kernel
theorem dX12_build_66 : decode cX12_build 66 = .ok (.iinc 2 1, 3) := by decide +kernel
theorem dX12_build_69 : decode cX12_build 69 = .ok (.goto (-16), 3) := by decide +kernel
theorem dX12_build_72 : decode cX12_build 72 = .ok (.aload_n 0, 1) := by decide +kernel
theorem dX12_build_73 : decode cX12_build 73 = .ok (.iconst 0, 1) := by decide +kernel
theorem dX12_build_74 : decode cX12_build 74 = .ok (.putfield 172, 3) := by decide +kernel
theorem dX12_build_77 : decode cX12_build 77 = .ok (.aload_n 0, 1) := by decide +kernel
theorem dX12_build_78 : decode cX12_build 78 = .ok (.iconst 0, 1) := by decide +kernel
theorem dX12_build_79 : decode cX12_build 79 = .ok (.putfield 175, 3) := by decide +kernel
theorem dX12_build_82 : decode cX12_build 82 = .ok (.aload_n 0, 1) := by decide +kernel
theorem dX12_build_83 : decode cX12_build 83 = .ok (.iconst 0, 1) := by decide +kernel
theorem dX12_build_84 : decode cX12_build 84 = .ok (.putfield 178, 3) := by decide +kernel
theorem dX12_build_87 : decode cX12_build 87 = .ok (.aload_n 0, 1) := by decide +kernel
theorem dX12_build_88 : decode cX12_build 88 = .ok (.iconst 0, 1) := by decide +kernel
theorem dX12_build_89 : decode cX12_build 89 = .ok (.putfield 144, 3) := by decide +kernel
theorem dX12_build_92 : decode cX12_build 92 = .ok (.aload_n 0, 1) := by decide +kernel
theorem dX12_build_93 : decode cX12_build 93 = .ok (.invokevirtual 182, 3) := by decide +kernel
theorem dX12_build_96 : decode cX12_build 96 = .ok (.iload_n 1, 1) := by decide +kernel
theorem dX12_build_97 : decode cX12_build 97 = .ok (.ireturn, 1) := by decide +kernel
def f_Md_build_L53 : Nat → Int32 → Int32 → (Nat → Nat → Int32) → (Nat → Nat → Int64) → Option (Int32 × (Nat → Nat → Int32) × (Nat → Nat → Int64))
  | 0, _, _, _, _ => none
  | n + 1, l1, l2, I, L => (if (9 : Int32) ≤ l2 then ((f_Md_renew (uI (uI (uI (uI I 34 16 (0 : Int32)) 34 22 (0 : Int32)) 34 24 (0 : Int32)) 34 42 (0 : Int32)) L).bind fun q3 => (some (l1, q3.1, q3.2))) else (if (0 ≤ l2 ∧ l2 < (9 : Int32)) then (f_Md_build_L53 n l1 (l2 + (1 : Int32)) (uI I 41 (l2.toNatClampNeg) (0 : Int32)) L) else none))
set_option maxRecDepth 100000 in
set_option maxHeartbeats 4000000 in
theorem x_Md_build_L53 {G : xG} {S : List xSh} {Rf : Nat → Nat → Option Nat} (hT : xTM S Rf) : ∀ (n : Nat) {l1 : Int32} {l2 : Int32} {I : Nat → Nat → Int32} {L : Nat → Nat → Int64} {q : (Int32 × (Nat → Nat → Int32) × (Nat → Nat → Int64))}, f_Md_build_L53 n l1 l2 I L = some q → X G 6 m_Md_build 53 [(0, .ref (xP G 34)), (1, .int l1), (2, .int l2)] [] (S, I, L, Rf) (some (.int q.1), (S, q.2.1, q.2.2, Rf)) := by
  intro n
  induction n with
  | zero =>
    intro l1 l2 I L q hf
    exact absurd (show none = some q from hf) (by simp)
  | succ n ih =>
    intro l1 l2 I L q hf
    replace hf := (f_Md_build_L53.eq_2 _ _ _ _ _).symm.trans hf
    refine X_iload_n (pc := 53) (i := 2) 2 dX12_build_53 rfl rfl ?_
    refine X_bipush (pc := 54) (9 : Int32) dX12_build_54 (by decide) ?_
    by_cases c2 : (9 : Int32) ≤ l2
    · replace hf := (if_pos c2).symm.trans hf
      refine X_icmp_ge_t (pc := 56) 72 dX12_build_56 (by decide) c2 ?_
      refine X_aload_n (pc := 72) (i := 0) 0 dX12_build_72 rfl rfl ?_
      refine X_iconst (pc := 73) (0 : Int32) dX12_build_73 (by decide) ?_
      refine X_puti (pc := 74) (a := 34) (ci := 11) (j := 16) 16 rfl false (sh_34 hT) (by decide) k_1244 rfl (fun h => by cases h) rfl dX12_build_74 ?_
      refine X_aload_n (pc := 77) (i := 0) 0 dX12_build_77 rfl rfl ?_
      refine X_iconst (pc := 78) (0 : Int32) dX12_build_78 (by decide) ?_
      refine X_puti (pc := 79) (a := 34) (ci := 11) (j := 22) 22 rfl false (sh_34 hT) (by decide) k_1250 rfl (fun h => by cases h) rfl dX12_build_79 ?_
      refine X_aload_n (pc := 82) (i := 0) 0 dX12_build_82 rfl rfl ?_
      refine X_iconst (pc := 83) (0 : Int32) dX12_build_83 (by decide) ?_
      refine X_putz (pc := 84) (a := 34) (ci := 11) (j := 24) 24 rfl false (sh_34 hT) (by decide) k_1252 rfl (fun h => by cases h) rfl (by decide) dX12_build_84 ?_
      refine X_aload_n (pc := 87) (i := 0) 0 dX12_build_87 rfl rfl ?_
      refine X_iconst (pc := 88) (0 : Int32) dX12_build_88 (by decide) ?_
      refine X_puti (pc := 89) (a := 34) (ci := 11) (j := 42) 42 rfl false (sh_34 hT) (by decide) k_1270 rfl (fun h => by cases h) rfl dX12_build_89 ?_
      refine X_aload_n (pc := 92) (i := 0) 0 dX12_build_92 rfl rfl ?_
      obtain ⟨q3, c4, hf⟩ := bd_some hf
      refine X_invV_v (pc := 93) (c_Md_renew hT c4) ok_Md_renew (ci := 11) (sh_34 hT) k_1207 k_1209 k_40 nd_1 (by decide) rfl (Nat.le_of_ble_eq_true rfl) dX12_build_93 ?_
      refine X_iload_n (pc := 96) (i := 1) 1 dX12_build_96 rfl rfl ?_
      cases hf
      exact X_ireturn (pc := 97) rfl dX12_build_97
    · replace hf := (if_neg c2).symm.trans hf
      refine X_icmp_ge_f (pc := 56) 72 dX12_build_56 (by decide) c2 ?_
      refine X_aload_n (pc := 59) (i := 0) 0 dX12_build_59 rfl rfl ?_
      refine X_getr (pc := 60) (a := 34) (ci := 11) (j := 15) (c := 41) (sh_34 hT) (by decide) k_1243 (rf_34_15 hT) (fun _ h => h) dX12_build_60 ?_
      refine X_iload_n (pc := 63) (i := 2) 2 dX12_build_63 rfl rfl ?_
      refine X_iconst (pc := 64) (0 : Int32) dX12_build_64 (by decide) ?_
      obtain ⟨c5, hf⟩ := gd_some hf
      refine X_iastj (pc := 65) (j := (l2.toNatClampNeg)) (sh_41 hT) (vp_in_lit (N := 9) c5 (by decide)) rfl dX12_build_65 ?_
      refine X_iinc (pc := 66) (i := 2) (q := 2) (v := (l2 + (1 : Int32))) [(2, .int (l2 + (1 : Int32))), (0, .ref (xP G 34)), (1, .int l1)] dX12_build_66 rfl rfl (by decide) rfl ?_
      refine X_goto (pc := 69) 53 dX12_build_69 (by decide) ?_
      exact X_lvs [1, 2, 0] rfl (ih hf)
theorem u_Md_build_L53 {S : List xSh} : ∀ (n : Nat) {l1 : Int32} {l2 : Int32} {I : Nat → Nat → Int32} {L : Nat → Nat → Int64} {q : (Int32 × (Nat → Nat → Int32) × (Nat → Nat → Int64))}, f_Md_build_L53 n l1 l2 I L = some q → FR S [41, 48, 49, 50, 51, 52, 4400, 4401, 4408, 4409, 4410, 4411, 4412, 4413, 4414, 4416, 4422, 4424, 4425, 4426, 4427, 4428, 4429, 4430, 4431, 4440, 4442, 4445, 4446, 4447] [4432] I q.2.1 L q.2.2 := by
  intro n
  induction n with
  | zero =>
    intro l1 l2 I L q hf
    exact absurd (show none = some q from hf) (by simp)
  | succ n ih =>
    intro l1 l2 I L q hf
    replace hf := (f_Md_build_L53.eq_2 _ _ _ _ _).symm.trans hf
    by_cases c2 : (9 : Int32) ≤ l2
    · replace hf := (if_pos c2).symm.trans hf
      obtain ⟨q3, c4, hf⟩ := bd_some hf
      cases hf
      exact (FR.tr (FR.fi (FR.fi (FR.fi (FR.fi FR.rf (by decide)) (by decide)) (by decide)) (by decide)) (u_Md_renew (q := q3) c4) (by decide) (by decide))
    · replace hf := (if_neg c2).symm.trans hf
      obtain ⟨c5, hf⟩ := gd_some hf
      exact FR.tr (FR.ai FR.rf (by decide)) (ih hf) (by decide) (by decide)
def f_Md_build (I : Nat → Nat → Int32) (L : Nat → Nat → Int64) : Option (Int32 × (Nat → Nat → Int32) × (Nat → Nat → Int64)) := (bnd (I 34 42) fun x1 => (f_Md_build_L53 xF x1 (0 : Int32) (uI (uI (uI (uI (uI (uI (uI (uI (uI I 34 0 (0 : Int32)) 34 1 (0 : Int32)) 34 8 (-1 : Int32)) 34 9 (0 : Int32)) 34 10 (1 : Int32)) 34 11 (0 : Int32)) 34 12 (0 : Int32)) 34 13 (10000000 : Int32)) 34 14 (-1 : Int32)) L))
set_option maxRecDepth 100000 in
set_option maxHeartbeats 4000000 in
theorem c_Md_build {G : xG} {S : List xSh} {Rf : Nat → Nat → Option Nat} (hT : xTM S Rf) {I : Nat → Nat → Int32} {L : Nat → Nat → Int64} {q : (Int32 × (Nat → Nat → Int32) × (Nat → Nat → Int64))} (hf : f_Md_build I L = some q) : CT G 6 m_Md_build [.ref (xP G 34)] (S, I, L, Rf) (some (.int q.1), (S, q.2.1, q.2.2, Rf)) := by
  refine CT.of (by decide +kernel) (Nat.le_of_ble_eq_true rfl) ?_
  show X G 6 m_Md_build 0 [(0, .ref (xP G 34))] [] (S, I, L, Rf) (some (.int q.1), (S, q.2.1, q.2.2, Rf))
  replace hf := (f_Md_build.eq_1 _ _).symm.trans hf
  refine X_aload_n (pc := 0) (i := 0) 0 dX12_build_0 rfl rfl ?_
  refine X_get (pc := 1) (a := 34) (ci := 11) (j := 42) (.int (I 34 42)) (sh_34 hT) (by decide) k_1270 rfl dX12_build_1 ?_
  obtain ⟨x1, ex1, hf⟩ := bnd_e hf
  refine X_tope ex1 ?_
  refine X_istore_n (pc := 4) (i := 1) [(1, .int x1), (0, .ref (xP G 34))] dX12_build_4 rfl (by decide) rfl ?_
  refine X_aload_n (pc := 5) (i := 0) 1 dX12_build_5 rfl rfl ?_
  refine X_iconst (pc := 6) (0 : Int32) dX12_build_6 (by decide) ?_
  refine X_puti (pc := 7) (a := 34) (ci := 11) (j := 0) 0 rfl false (sh_34 hT) (by decide) k_1228 rfl (fun h => by cases h) rfl dX12_build_7 ?_
  refine X_aload_n (pc := 10) (i := 0) 1 dX12_build_10 rfl rfl ?_
  refine X_iconst (pc := 11) (0 : Int32) dX12_build_11 (by decide) ?_
  refine X_puti (pc := 12) (a := 34) (ci := 11) (j := 1) 1 rfl false (sh_34 hT) (by decide) k_1229 rfl (fun h => by cases h) rfl dX12_build_12 ?_
  refine X_aload_n (pc := 15) (i := 0) 1 dX12_build_15 rfl rfl ?_
  refine X_iconst (pc := 16) (-1 : Int32) dX12_build_16 (by decide) ?_
  refine X_puti (pc := 17) (a := 34) (ci := 11) (j := 8) 8 rfl false (sh_34 hT) (by decide) k_1236 rfl (fun h => by cases h) rfl dX12_build_17 ?_
  refine X_aload_n (pc := 20) (i := 0) 1 dX12_build_20 rfl rfl ?_
  refine X_iconst (pc := 21) (0 : Int32) dX12_build_21 (by decide) ?_
  refine X_puti (pc := 22) (a := 34) (ci := 11) (j := 9) 9 rfl false (sh_34 hT) (by decide) k_1237 rfl (fun h => by cases h) rfl dX12_build_22 ?_
  refine X_aload_n (pc := 25) (i := 0) 1 dX12_build_25 rfl rfl ?_
  refine X_iconst (pc := 26) (1 : Int32) dX12_build_26 (by decide) ?_
  refine X_puti (pc := 27) (a := 34) (ci := 11) (j := 10) 10 rfl false (sh_34 hT) (by decide) k_1238 rfl (fun h => by cases h) rfl dX12_build_27 ?_
  refine X_aload_n (pc := 30) (i := 0) 1 dX12_build_30 rfl rfl ?_
  refine X_iconst (pc := 31) (0 : Int32) dX12_build_31 (by decide) ?_
  refine X_puti (pc := 32) (a := 34) (ci := 11) (j := 11) 11 rfl false (sh_34 hT) (by decide) k_1239 rfl (fun h => by cases h) rfl dX12_build_32 ?_
  refine X_aload_n (pc := 35) (i := 0) 1 dX12_build_35 rfl rfl ?_
  refine X_iconst (pc := 36) (0 : Int32) dX12_build_36 (by decide) ?_
  refine X_puti (pc := 37) (a := 34) (ci := 11) (j := 12) 12 rfl false (sh_34 hT) (by decide) k_1240 rfl (fun h => by cases h) rfl dX12_build_37 ?_
  refine X_aload_n (pc := 40) (i := 0) 1 dX12_build_40 rfl rfl ?_
  refine X_ldc (pc := 41) (10000000 : Int32) k_1206 dX12_build_41 ?_
  refine X_puti (pc := 43) (a := 34) (ci := 11) (j := 13) 13 rfl false (sh_34 hT) (by decide) k_1241 rfl (fun h => by cases h) rfl dX12_build_43 ?_
  refine X_aload_n (pc := 46) (i := 0) 1 dX12_build_46 rfl rfl ?_
  refine X_iconst (pc := 47) (-1 : Int32) dX12_build_47 (by decide) ?_
  refine X_puti (pc := 48) (a := 34) (ci := 11) (j := 14) 14 rfl false (sh_34 hT) (by decide) k_1242 rfl (fun h => by cases h) rfl dX12_build_48 ?_
  refine X_iconst (pc := 51) (0 : Int32) dX12_build_51 (by decide) ?_
  refine X_istore_n (pc := 52) (i := 2) [(2, .int (0 : Int32)), (1, .int x1), (0, .ref (xP G 34))] dX12_build_52 rfl (by decide) rfl ?_
  exact X_lvs [2, 1, 0] rfl (x_Md_build_L53 hT xF hf)
theorem u_Md_build {S : List xSh} {I : Nat → Nat → Int32} {L : Nat → Nat → Int64} {q : (Int32 × (Nat → Nat → Int32) × (Nat → Nat → Int64))} (hf : f_Md_build I L = some q) : FR S [41, 48, 49, 50, 51, 52, 4400, 4401, 4408, 4409, 4410, 4411, 4412, 4413, 4414, 4416, 4422, 4424, 4425, 4426, 4427, 4428, 4429, 4430, 4431, 4440, 4442, 4445, 4446, 4447] [4432] I q.2.1 L q.2.2 := by
  replace hf := (f_Md_build.eq_1 _ _).symm.trans hf
  obtain ⟨x1, ex1, hf⟩ := bnd_e hf
  exact FR.tr (FR.fi (FR.fi (FR.fi (FR.fi (FR.fi (FR.fi (FR.fi (FR.fi (FR.fi FR.rf (by decide)) (by decide)) (by decide)) (by decide)) (by decide)) (by decide)) (by decide)) (by decide)) (by decide)) (u_Md_build_L53 xF hf) (by decide) (by decide)
theorem dX12_arbor_0 : decode cX12_arbor 0 = .ok (.aload_n 0, 1) := by decide +kernel
theorem dX12_arbor_1 : decode cX12_arbor 1 = .ok (.getfield 178, 3) := by decide +kernel
theorem dX12_arbor_4 : decode cX12_arbor 4 = .ok (.ifCond .eq 6, 3) := by decide +kernel
theorem dX12_arbor_7 : decode cX12_arbor 7 = .ok (.bipush (-2), 2) := by decide +kernel
theorem dX12_arbor_9 : decode cX12_arbor 9 = .ok (.ireturn, 1) := by decide +kernel
theorem dX12_arbor_10 : decode cX12_arbor 10 = .ok (.aload_n 0, 1) := by decide +kernel
theorem dX12_arbor_11 : decode cX12_arbor 11 = .ok (.getfield 136, 3) := by decide +kernel
theorem dX12_arbor_14 : decode cX12_arbor 14 = .ok (.bipush 24, 2) := by decide +kernel
theorem dX12_arbor_16 : decode cX12_arbor 16 = .ok (.if_icmp .ne 6, 3) := by decide +kernel
theorem dX12_arbor_19 : decode cX12_arbor 19 = .ok (.bipush (-3), 2) := by decide +kernel
theorem dX12_arbor_21 : decode cX12_arbor 21 = .ok (.ireturn, 1) := by decide +kernel
theorem dX12_arbor_22 : decode cX12_arbor 22 = .ok (.aload_n 0, 1) := by decide +kernel
theorem dX12_arbor_23 : decode cX12_arbor 23 = .ok (.dup, 1) := by decide +kernel
theorem dX12_arbor_24 : decode cX12_arbor 24 = .ok (.getfield 136, 3) := by decide +kernel
theorem dX12_arbor_27 : decode cX12_arbor 27 = .ok (.iconst 1, 1) := by decide +kernel
theorem dX12_arbor_28 : decode cX12_arbor 28 = .ok (.iadd, 1) := by decide +kernel
theorem dX12_arbor_29 : decode cX12_arbor 29 = .ok (.putfield 136, 3) := by decide +kernel
theorem dX12_arbor_32 : decode cX12_arbor 32 = .ok (.aload_n 0, 1) := by decide +kernel
theorem dX12_arbor_33 : decode cX12_arbor 33 = .ok (.getfield 136, 3) := by decide +kernel
theorem dX12_arbor_36 : decode cX12_arbor 36 = .ok (.iconst 1, 1) := by decide +kernel
theorem dX12_arbor_37 : decode cX12_arbor 37 = .ok (.isub, 1) := by decide +kernel
theorem dX12_arbor_38 : decode cX12_arbor 38 = .ok (.ireturn, 1) := by decide +kernel
def f_Md_arbor (I : Nat → Nat → Int32) (L : Nat → Nat → Int64) : Option (Int32 × (Nat → Nat → Int32) × (Nat → Nat → Int64)) := (if (I 34 24) = (0 : Int32) then (if (I 34 0) = (24 : Int32) then (some ((-3 : Int32), I, L)) else (bnd ((I 34 0) + (1 : Int32)) fun x3 => (some ((x3 - (1 : Int32)), (uI I 34 0 x3), L)))) else (some ((-2 : Int32), I, L)))
set_option maxRecDepth 100000 in
set_option maxHeartbeats 4000000 in
theorem c_Md_arbor {G : xG} {S : List xSh} {Rf : Nat → Nat → Option Nat} (hT : xTM S Rf) {I : Nat → Nat → Int32} {L : Nat → Nat → Int64} {q : (Int32 × (Nat → Nat → Int32) × (Nat → Nat → Int64))} (hf : f_Md_arbor I L = some q) : CT G 1 m_Md_arbor [.ref (xP G 34)] (S, I, L, Rf) (some (.int q.1), (S, q.2.1, q.2.2, Rf)) := by
  refine CT.of (by decide +kernel) (Nat.le_of_ble_eq_true rfl) ?_
  show X G 1 m_Md_arbor 0 [(0, .ref (xP G 34))] [] (S, I, L, Rf) (some (.int q.1), (S, q.2.1, q.2.2, Rf))
  replace hf := (f_Md_arbor.eq_1 _ _).symm.trans hf
  refine X_aload_n (pc := 0) (i := 0) 0 dX12_arbor_0 rfl rfl ?_
  refine X_get (pc := 1) (a := 34) (ci := 11) (j := 24) (.int (I 34 24)) (sh_34 hT) (by decide) k_1252 rfl dX12_arbor_1 ?_
  by_cases c1 : (I 34 24) = (0 : Int32)
  · replace hf := (if_pos c1).symm.trans hf
    refine X_if_eq_t (pc := 4) 10 dX12_arbor_4 (by decide) c1 ?_
    refine X_aload_n (pc := 10) (i := 0) 0 dX12_arbor_10 rfl rfl ?_
    refine X_get (pc := 11) (a := 34) (ci := 11) (j := 0) (.int (I 34 0)) (sh_34 hT) (by decide) k_1228 rfl dX12_arbor_11 ?_
    refine X_bipush (pc := 14) (24 : Int32) dX12_arbor_14 (by decide) ?_
    by_cases c2 : (I 34 0) = (24 : Int32)
    · replace hf := (if_pos c2).symm.trans hf
      refine X_icmp_ne_f (pc := 16) 22 dX12_arbor_16 (by decide) c2 ?_
      refine X_bipush (pc := 19) (-3 : Int32) dX12_arbor_19 (by decide) ?_
      cases hf
      exact X_ireturn (pc := 21) rfl dX12_arbor_21
    · replace hf := (if_neg c2).symm.trans hf
      refine X_icmp_ne_t (pc := 16) 22 dX12_arbor_16 (by decide) c2 ?_
      refine X_aload_n (pc := 22) (i := 0) 0 dX12_arbor_22 rfl rfl ?_
      refine X_dup (pc := 23) dX12_arbor_23 rfl ?_
      refine X_get (pc := 24) (a := 34) (ci := 11) (j := 0) (.int (I 34 0)) (sh_34 hT) (by decide) k_1228 rfl dX12_arbor_24 ?_
      refine X_iconst (pc := 27) (1 : Int32) dX12_arbor_27 (by decide) ?_
      refine X_iadd (pc := 28) dX12_arbor_28 ?_
      obtain ⟨x3, ex3, hf⟩ := bnd_e hf
      refine X_tope ex3 ?_
      refine X_puti (pc := 29) (a := 34) (ci := 11) (j := 0) 0 rfl false (sh_34 hT) (by decide) k_1228 rfl (fun h => by cases h) rfl dX12_arbor_29 ?_
      refine X_aload_n (pc := 32) (i := 0) 0 dX12_arbor_32 rfl rfl ?_
      refine X_get (pc := 33) (a := 34) (ci := 11) (j := 0) (.int x3) (sh_34 hT) (by decide) k_1228 rfl dX12_arbor_33 ?_
      refine X_iconst (pc := 36) (1 : Int32) dX12_arbor_36 (by decide) ?_
      refine X_isub (pc := 37) dX12_arbor_37 ?_
      cases hf
      exact X_ireturn (pc := 38) rfl dX12_arbor_38
  · replace hf := (if_neg c1).symm.trans hf
    refine X_if_eq_f (pc := 4) 10 dX12_arbor_4 (by decide) c1 ?_
    refine X_bipush (pc := 7) (-2 : Int32) dX12_arbor_7 (by decide) ?_
    cases hf
    exact X_ireturn (pc := 9) rfl dX12_arbor_9
theorem u_Md_arbor {S : List xSh} {I : Nat → Nat → Int32} {L : Nat → Nat → Int64} {q : (Int32 × (Nat → Nat → Int32) × (Nat → Nat → Int64))} (hf : f_Md_arbor I L = some q) : FR S [4400] [] I q.2.1 L q.2.2 := by
  replace hf := (f_Md_arbor.eq_1 _ _).symm.trans hf
  by_cases c1 : (I 34 24) = (0 : Int32)
  · replace hf := (if_pos c1).symm.trans hf
    by_cases c2 : (I 34 0) = (24 : Int32)
    · replace hf := (if_pos c2).symm.trans hf
      cases hf
      exact FR.rf
    · replace hf := (if_neg c2).symm.trans hf
      obtain ⟨x3, ex3, hf⟩ := bnd_e hf
      cases hf
      exact (FR.fi FR.rf (by decide))
  · replace hf := (if_neg c1).symm.trans hf
    cases hf
    exact FR.rf

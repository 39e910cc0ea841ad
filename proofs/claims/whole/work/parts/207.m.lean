def f_H_isBarred_S (a0 : Nat) : Int32 := (0 : Int32)
set_option maxRecDepth 100000 in
set_option maxHeartbeats 4000000 in
theorem c_H_isBarred_S {G : xG} {S : List xSh} {Rf : Nat → Nat → Option Nat} (hT : xT S Rf) {a0 : Nat} (ha0 : S[a0]? = some (.inl 8)) {I : Nat → Nat → Int32} {L : Nat → Nat → Int64} {q : Int32} (hf : f_H_isBarred_S a0 = q) : CT G 1 m_H_isBarred [.ref (xB G + 0), .ref (xB G + a0)] (S, I, L, Rf) (some (.int q), (S, I, L, Rf)) := by
  refine CT.of (by decide +kernel) (Nat.le_of_ble_eq_true rfl) ?_
  show X G 1 m_H_isBarred 0 [(0, .ref (xB G + 0)), (1, .ref (xB G + a0))] [] (S, I, L, Rf) (some (.int q), (S, I, L, Rf))
  replace hf := (f_H_isBarred_S.eq_1 _).symm.trans hf
  refine X_aload_n (pc := 0) (i := 1) 1 dX11_isBarred_0 rfl rfl ?_
  refine X_instNo (pc := 1) (ci := 8) ha0 k_568 (by decide) dX11_isBarred_1 ?_
  refine X_if_eq_t (pc := 4) 32 dX11_isBarred_4 (by decide) (by decide) ?_
  refine X_iconst (pc := 32) (0 : Int32) dX11_isBarred_32 (by decide) ?_
  subst hf
  exact X_zreturn (pc := 33) rfl (nar_b (by decide)) dX11_isBarred_33
theorem dX11_correct_0 : decode cX11_correct 0 = .ok (.aload_n 0, 1) := by decide +kernel
theorem dX11_correct_1 : decode cX11_correct 1 = .ok (.iload_n 1, 1) := by decide +kernel
theorem dX11_correct_2 : decode cX11_correct 2 = .ok (.invokevirtual 184, 3) := by decide +kernel
theorem dX11_correct_5 : decode cX11_correct 5 = .ok (.astore 4, 2) := by decide +kernel
theorem dX11_correct_7 : decode cX11_correct 7 = .ok (.aload 4, 2) := by decide +kernel
theorem dX11_correct_9 : decode cX11_correct 9 = .ok (.ifnull 13, 3) := by decide +kernel
theorem dX11_correct_12 : decode cX11_correct 12 = .ok (.aload 4, 2) := by decide +kernel
theorem dX11_correct_14 : decode cX11_correct 14 = .ok (.iload_n 2, 1) := by decide +kernel
theorem dX11_correct_15 : decode cX11_correct 15 = .ok (.iload_n 3, 1) := by decide +kernel
theorem dX11_correct_16 : decode cX11_correct 16 = .ok (.invokevirtual 188, 3) := by decide +kernel
theorem dX11_correct_19 : decode cX11_correct 19 = .ok (.ifCond .ne 5, 3) := by decide +kernel
theorem dX11_correct_22 : decode cX11_correct 22 = .ok (.iconst (-1), 1) := by decide +kernel
theorem dX11_correct_23 : decode cX11_correct 23 = .ok (.ireturn, 1) := by decide +kernel
theorem dX11_correct_24 : decode cX11_correct 24 = .ok (.aload_n 0, 1) := by decide +kernel
theorem dX11_correct_25 : decode cX11_correct 25 = .ok (.getfield 77, 3) := by decide +kernel
theorem dX11_correct_28 : decode cX11_correct 28 = .ok (.ifCond .eq 12, 3) := by decide +kernel
theorem dX11_correct_31 : decode cX11_correct 31 = .ok (.aload_n 0, 1) := by decide +kernel
theorem dX11_correct_32 : decode cX11_correct 32 = .ok (.aload 4, 2) := by decide +kernel
theorem dX11_correct_34 : decode cX11_correct 34 = .ok (.invokevirtual 192, 3) := by decide +kernel
theorem dX11_correct_37 : decode cX11_correct 37 = .ok (.ifCond .eq 6, 3) := by decide +kernel
theorem dX11_correct_40 : decode cX11_correct 40 = .ok (.bipush (-2), 2) := by decide +kernel
theorem dX11_correct_42 : decode cX11_correct 42 = .ok (.ireturn, 1) := by decide +kernel
theorem dX11_correct_43 : decode cX11_correct 43 = .ok (.aload_n 0, 1) := by decide +kernel
theorem dX11_correct_44 : decode cX11_correct 44 = .ok (.iconst 4, 1) := by decide +kernel
theorem dX11_correct_45 : decode cX11_correct 45 = .ok (.iload_n 1, 1) := by decide +kernel
theorem dX11_correct_46 : decode cX11_correct 46 = .ok (.iload_n 2, 1) := by decide +kernel
theorem dX11_correct_47 : decode cX11_correct 47 = .ok (.iload_n 3, 1) := by decide +kernel
theorem dX11_correct_48 : decode cX11_correct 48 = .ok (.invokevirtual 157, 3) := by decide +kernel
theorem dX11_correct_51 : decode cX11_correct 51 = .ok (.ifCond .eq 13, 3) := by decide +kernel
theorem dX11_correct_54 : decode cX11_correct 54 = .ok (.aload_n 0, 1) := by decide +kernel
theorem dX11_correct_55 : decode cX11_correct 55 = .ok (.iload_n 1, 1) := by decide +kernel
theorem dX11_correct_56 : decode cX11_correct 56 = .ok (.iload_n 2, 1) := by decide +kernel
theorem dX11_correct_57 : decode cX11_correct 57 = .ok (.iload_n 3, 1) := by decide +kernel
theorem dX11_correct_58 : decode cX11_correct 58 = .ok (.invokevirtual 196, 3) := by decide +kernel
theorem dX11_correct_61 : decode cX11_correct 61 = .ok (.goto 5, 3) := by decide +kernel
theorem dX11_correct_64 : decode cX11_correct 64 = .ok (.bipush (-3), 2) := by decide +kernel
theorem dX11_correct_66 : decode cX11_correct 66 = .ok (.ireturn, 1) := by decide +kernel
def f_H_correct (S : List xSh) (Rf : Nat → Nat → Option Nat) (a0 : Int32) (a1 : Int32) (a2 : Int32) (I : Nat → Nat → Int32) (L : Nat → Nat → Int64) : Option (Int32 × (Nat → Nat → Int32) × (Nat → Nat → Int64)) := ((f_H_workAt S Rf a0 I L).bind fun q1 => (oc q1 (some ((-1 : Int32), I, L)) fun w3 => (if S[w3]? = some (.inl 4) then (if (f_Di_takes w3 a1 a2 I L) = (0 : Int32) then (some ((-1 : Int32), I, L)) else (if (I 0 8) = (0 : Int32) then (some ((-2 : Int32), I, L)) else (if (f_H_isBarred_D w3) = (0 : Int32) then ((f_H_enter (4 : Int32) a0 a1 a2 I L).bind fun q9 => (if q9.1 = (0 : Int32) then (some ((-3 : Int32), q9.2.1, q9.2.2)) else ((f_H_putRight S Rf a0 a1 a2 q9.2.1 q9.2.2).bind fun q12 => (some (q12.1, q12.2.1, q12.2.2))))) else (some ((-2 : Int32), I, L))))) else (if S[w3]? = some (.inl 1) then ((f_Ca_takes w3 a1 a2).bind fun q15 => (if q15 = (0 : Int32) then (some ((-1 : Int32), I, L)) else (if (I 0 8) = (0 : Int32) then (some ((-2 : Int32), I, L)) else ((f_H_isBarred_C w3 I L).bind fun q19 => (if q19 = (0 : Int32) then ((f_H_enter (4 : Int32) a0 a1 a2 I L).bind fun q22 => (if q22.1 = (0 : Int32) then (some ((-3 : Int32), q22.2.1, q22.2.2)) else ((f_H_putRight S Rf a0 a1 a2 q22.2.1 q22.2.2).bind fun q25 => (some (q25.1, q25.2.1, q25.2.2))))) else (some ((-2 : Int32), I, L))))))) else (if S[w3]? = some (.inl 8) then ((f_St_takes w3 a1 a2).bind fun q28 => (if q28 = (0 : Int32) then (some ((-1 : Int32), I, L)) else (if (I 0 8) = (0 : Int32) then (some ((-2 : Int32), I, L)) else (if (f_H_isBarred_S w3) = (0 : Int32) then ((f_H_enter (4 : Int32) a0 a1 a2 I L).bind fun q33 => (if q33.1 = (0 : Int32) then (some ((-3 : Int32), q33.2.1, q33.2.2)) else ((f_H_putRight S Rf a0 a1 a2 q33.2.1 q33.2.2).bind fun q36 => (some (q36.1, q36.2.1, q36.2.2))))) else (some ((-2 : Int32), I, L)))))) else none)))))
set_option maxRecDepth 100000 in
set_option maxHeartbeats 4000000 in
theorem c_H_correct {G : xG} {S : List xSh} {Rf : Nat → Nat → Option Nat} (hT : xT S Rf) {a0 : Int32} {a1 : Int32} {a2 : Int32} {I : Nat → Nat → Int32} {L : Nat → Nat → Int64} {q : (Int32 × (Nat → Nat → Int32) × (Nat → Nat → Int64))} (hf : f_H_correct S Rf a0 a1 a2 I L = some q) : CT G 4 m_H_correct [.ref (xB G + 0), .int a0, .int a1, .int a2] (S, I, L, Rf) (some (.int q.1), (S, q.2.1, q.2.2, Rf)) := by
  refine CT.of (by decide +kernel) (Nat.le_of_ble_eq_true rfl) ?_
  show X G 4 m_H_correct 0 [(0, .ref (xB G + 0)), (1, .int a0), (2, .int a1), (3, .int a2)] [] (S, I, L, Rf) (some (.int q.1), (S, q.2.1, q.2.2, Rf))
  replace hf := (f_H_correct.eq_1 _ _ _ _ _ _ _).symm.trans hf
  refine X_aload_n (pc := 0) (i := 0) 0 dX11_correct_0 rfl rfl ?_
  refine X_iload_n (pc := 1) (i := 1) 1 dX11_correct_1 rfl rfl ?_
  obtain ⟨q1, c2, hf⟩ := bd_some hf
  rcases oc_cases hf with ⟨hr4, hf⟩ | ⟨w3, hr4, hf⟩
  · rw [hr4] at c2
    refine X_invV_aN (pc := 2) (c_H_workAt hT c2) ok_H_workAt (ci := 10) (sh_0 hT) k_837 k_839 k_18 nd_24 (by decide) rfl (Nat.le_of_ble_eq_true rfl) dX11_correct_2 ?_
    refine X_astoreN (pc := 5) [(4, .null), (0, .ref (xB G + 0)), (1, .int a0), (2, .int a1), (3, .int a2)] dX11_correct_5 (by decide) rfl ?_
    refine X_aloadN (pc := 7) (i := 4) 0 dX11_correct_7 rfl ?_
    refine X_ifnull_t (pc := 9) 22 dX11_correct_9 (by decide) ?_
    refine X_iconst (pc := 22) (-1 : Int32) dX11_correct_22 (by decide) ?_
    cases hf
    exact X_ireturn (pc := 23) rfl dX11_correct_23
  · rw [hr4] at c2
    refine X_invV_aS (pc := 2) (c_H_workAt hT c2) ok_H_workAt (ci := 10) (sh_0 hT) k_837 k_839 k_18 nd_24 (by decide) rfl (Nat.le_of_ble_eq_true rfl) dX11_correct_2 ?_
    refine X_astore (pc := 5) [(4, .ref (xB G + w3)), (0, .ref (xB G + 0)), (1, .int a0), (2, .int a1), (3, .int a2)] dX11_correct_5 (by decide) rfl ?_
    refine X_aload (pc := 7) 0 dX11_correct_7 rfl ?_
    refine X_ifnull_f (pc := 9) dX11_correct_9 ?_
    refine X_aload (pc := 12) 0 dX11_correct_12 rfl ?_
    refine X_iload_n (pc := 14) (i := 2) 3 dX11_correct_14 rfl rfl ?_
    refine X_iload_n (pc := 15) (i := 3) 4 dX11_correct_15 rfl rfl ?_
    by_cases hs5 : S[w3]? = some (.inl 4)
    · replace hf := (if_pos hs5).symm.trans hf
      refine X_invU_i (pc := 16) (c_Di_takes hT hs5 rfl) ok_Di_takes (ci := 4) hs5 k_841 k_843 k_842 (by decide +kernel) k_848 k_847 nd_25 (by decide) rfl (Nat.le_of_ble_eq_true rfl) dX11_correct_16 ?_
      by_cases c6 : (f_Di_takes w3 a1 a2 I L) = (0 : Int32)
      · replace hf := (if_pos c6).symm.trans hf
        refine X_if_ne_f (pc := 19) 24 dX11_correct_19 (by decide) c6 ?_
        refine X_iconst (pc := 22) (-1 : Int32) dX11_correct_22 (by decide) ?_
        cases hf
        exact X_ireturn (pc := 23) rfl dX11_correct_23
      · replace hf := (if_neg c6).symm.trans hf
        refine X_if_ne_t (pc := 19) 24 dX11_correct_19 (by decide) c6 ?_
        refine X_aload_n (pc := 24) (i := 0) 1 dX11_correct_24 rfl rfl ?_
        refine X_get (pc := 25) (a := 0) (ci := 10) (j := 8) (.int (I 0 8)) (sh_0 hT) (by decide) k_385 rfl dX11_correct_25 ?_
        by_cases c7 : (I 0 8) = (0 : Int32)
        · replace hf := (if_pos c7).symm.trans hf
          refine X_if_eq_t (pc := 28) 40 dX11_correct_28 (by decide) c7 ?_
          refine X_bipush (pc := 40) (-2 : Int32) dX11_correct_40 (by decide) ?_
          cases hf
          exact X_ireturn (pc := 42) rfl dX11_correct_42
        · replace hf := (if_neg c7).symm.trans hf
          refine X_if_eq_f (pc := 28) 40 dX11_correct_28 (by decide) c7 ?_
          refine X_aload_n (pc := 31) (i := 0) 1 dX11_correct_31 rfl rfl ?_
          refine X_aload (pc := 32) 0 dX11_correct_32 rfl ?_
          refine X_invV_i (pc := 34) (c_H_isBarred_D hT hs5 rfl) ok_H_isBarred (ci := 10) (sh_0 hT) k_855 k_857 k_19 nd_26 (by decide) rfl (Nat.le_of_ble_eq_true rfl) dX11_correct_34 ?_
          by_cases c8 : (f_H_isBarred_D w3) = (0 : Int32)
          · replace hf := (if_pos c8).symm.trans hf
            refine X_if_eq_t (pc := 37) 43 dX11_correct_37 (by decide) c8 ?_
            refine X_aload_n (pc := 43) (i := 0) 1 dX11_correct_43 rfl rfl ?_
            refine X_iconst (pc := 44) (4 : Int32) dX11_correct_44 (by decide) ?_
            refine X_iload_n (pc := 45) (i := 1) 2 dX11_correct_45 rfl rfl ?_
            refine X_iload_n (pc := 46) (i := 2) 3 dX11_correct_46 rfl rfl ?_
            refine X_iload_n (pc := 47) (i := 3) 4 dX11_correct_47 rfl rfl ?_
            obtain ⟨q9, c10, hf⟩ := bd_some hf
            refine X_invV_i (pc := 48) (c_H_enter hT c10) ok_H_enter (ci := 10) (sh_0 hT) k_690 k_692 k_10 nd_18 (by decide) rfl (Nat.le_of_ble_eq_true rfl) dX11_correct_48 ?_
            by_cases c11 : q9.1 = (0 : Int32)
            · replace hf := (if_pos c11).symm.trans hf
              refine X_if_eq_t (pc := 51) 64 dX11_correct_51 (by decide) c11 ?_
              refine X_bipush (pc := 64) (-3 : Int32) dX11_correct_64 (by decide) ?_
              cases hf
              exact X_ireturn (pc := 66) rfl dX11_correct_66
            · replace hf := (if_neg c11).symm.trans hf
              refine X_if_eq_f (pc := 51) 64 dX11_correct_51 (by decide) c11 ?_
              refine X_aload_n (pc := 54) (i := 0) 1 dX11_correct_54 rfl rfl ?_
              refine X_iload_n (pc := 55) (i := 1) 2 dX11_correct_55 rfl rfl ?_
              refine X_iload_n (pc := 56) (i := 2) 3 dX11_correct_56 rfl rfl ?_
              refine X_iload_n (pc := 57) (i := 3) 4 dX11_correct_57 rfl rfl ?_
              obtain ⟨q12, c13, hf⟩ := bd_some hf
              refine X_invV_i (pc := 58) (c_H_putRight hT c13) ok_H_putRight (ci := 10) (sh_0 hT) k_865 k_867 k_20 nd_15 (by decide) rfl (Nat.le_of_ble_eq_true rfl) dX11_correct_58 ?_
              refine X_goto (pc := 61) 66 dX11_correct_61 (by decide) ?_
              cases hf
              exact X_ireturn (pc := 66) rfl dX11_correct_66
          · replace hf := (if_neg c8).symm.trans hf
            refine X_if_eq_f (pc := 37) 43 dX11_correct_37 (by decide) c8 ?_
            refine X_bipush (pc := 40) (-2 : Int32) dX11_correct_40 (by decide) ?_
            cases hf
            exact X_ireturn (pc := 42) rfl dX11_correct_42
    · replace hf := (if_neg hs5).symm.trans hf
      by_cases hs14 : S[w3]? = some (.inl 1)
      · replace hf := (if_pos hs14).symm.trans hf
        obtain ⟨q15, c16, hf⟩ := bd_some hf
        refine X_invU_i (pc := 16) (c_Ca_takes hT hs14 c16) ok_Ca_takes (ci := 1) hs14 k_841 k_843 k_842 (by decide +kernel) k_845 k_844 nd_25 (by decide) rfl (Nat.le_of_ble_eq_true rfl) dX11_correct_16 ?_
        by_cases c17 : q15 = (0 : Int32)
        · replace hf := (if_pos c17).symm.trans hf
          refine X_if_ne_f (pc := 19) 24 dX11_correct_19 (by decide) c17 ?_
          refine X_iconst (pc := 22) (-1 : Int32) dX11_correct_22 (by decide) ?_
          cases hf
          exact X_ireturn (pc := 23) rfl dX11_correct_23
        · replace hf := (if_neg c17).symm.trans hf
          refine X_if_ne_t (pc := 19) 24 dX11_correct_19 (by decide) c17 ?_
          refine X_aload_n (pc := 24) (i := 0) 1 dX11_correct_24 rfl rfl ?_
          refine X_get (pc := 25) (a := 0) (ci := 10) (j := 8) (.int (I 0 8)) (sh_0 hT) (by decide) k_385 rfl dX11_correct_25 ?_
          by_cases c18 : (I 0 8) = (0 : Int32)
          · replace hf := (if_pos c18).symm.trans hf
            refine X_if_eq_t (pc := 28) 40 dX11_correct_28 (by decide) c18 ?_
            refine X_bipush (pc := 40) (-2 : Int32) dX11_correct_40 (by decide) ?_
            cases hf
            exact X_ireturn (pc := 42) rfl dX11_correct_42
          · replace hf := (if_neg c18).symm.trans hf
            refine X_if_eq_f (pc := 28) 40 dX11_correct_28 (by decide) c18 ?_
            refine X_aload_n (pc := 31) (i := 0) 1 dX11_correct_31 rfl rfl ?_
            refine X_aload (pc := 32) 0 dX11_correct_32 rfl ?_
            obtain ⟨q19, c20, hf⟩ := bd_some hf
            refine X_invV_i (pc := 34) (c_H_isBarred_C hT hs14 c20) ok_H_isBarred (ci := 10) (sh_0 hT) k_855 k_857 k_19 nd_26 (by decide) rfl (Nat.le_of_ble_eq_true rfl) dX11_correct_34 ?_
            by_cases c21 : q19 = (0 : Int32)
            · replace hf := (if_pos c21).symm.trans hf
              refine X_if_eq_t (pc := 37) 43 dX11_correct_37 (by decide) c21 ?_
              refine X_aload_n (pc := 43) (i := 0) 1 dX11_correct_43 rfl rfl ?_
              refine X_iconst (pc := 44) (4 : Int32) dX11_correct_44 (by decide) ?_
              refine X_iload_n (pc := 45) (i := 1) 2 dX11_correct_45 rfl rfl ?_
              refine X_iload_n (pc := 46) (i := 2) 3 dX11_correct_46 rfl rfl ?_
              refine X_iload_n (pc := 47) (i := 3) 4 dX11_correct_47 rfl rfl ?_
              obtain ⟨q22, c23, hf⟩ := bd_some hf
              refine X_invV_i (pc := 48) (c_H_enter hT c23) ok_H_enter (ci := 10) (sh_0 hT) k_690 k_692 k_10 nd_18 (by decide) rfl (Nat.le_of_ble_eq_true rfl) dX11_correct_48 ?_
              by_cases c24 : q22.1 = (0 : Int32)
              · replace hf := (if_pos c24).symm.trans hf
                refine X_if_eq_t (pc := 51) 64 dX11_correct_51 (by decide) c24 ?_
                refine X_bipush (pc := 64) (-3 : Int32) dX11_correct_64 (by decide) ?_
                cases hf
                exact X_ireturn (pc := 66) rfl dX11_correct_66
              · replace hf := (if_neg c24).symm.trans hf
                refine X_if_eq_f (pc := 51) 64 dX11_correct_51 (by decide) c24 ?_
                refine X_aload_n (pc := 54) (i := 0) 1 dX11_correct_54 rfl rfl ?_
                refine X_iload_n (pc := 55) (i := 1) 2 dX11_correct_55 rfl rfl ?_
                refine X_iload_n (pc := 56) (i := 2) 3 dX11_correct_56 rfl rfl ?_
                refine X_iload_n (pc := 57) (i := 3) 4 dX11_correct_57 rfl rfl ?_
                obtain ⟨q25, c26, hf⟩ := bd_some hf
                refine X_invV_i (pc := 58) (c_H_putRight hT c26) ok_H_putRight (ci := 10) (sh_0 hT) k_865 k_867 k_20 nd_15 (by decide) rfl (Nat.le_of_ble_eq_true rfl) dX11_correct_58 ?_
                refine X_goto (pc := 61) 66 dX11_correct_61 (by decide) ?_
                cases hf
                exact X_ireturn (pc := 66) rfl dX11_correct_66
            · replace hf := (if_neg c21).symm.trans hf
              refine X_if_eq_f (pc := 37) 43 dX11_correct_37 (by decide) c21 ?_
              refine X_bipush (pc := 40) (-2 : Int32) dX11_correct_40 (by decide) ?_
              cases hf
              exact X_ireturn (pc := 42) rfl dX11_correct_42
      · replace hf := (if_neg hs14).symm.trans hf
        obtain ⟨hs27, hf⟩ := gd_some hf
        obtain ⟨q28, c29, hf⟩ := bd_some hf
        refine X_invU_i (pc := 16) (c_St_takes hT hs27 c29) ok_St_takes (ci := 8) hs27 k_841 k_843 k_842 (by decide +kernel) k_852 k_851 nd_25 (by decide) rfl (Nat.le_of_ble_eq_true rfl) dX11_correct_16 ?_
        by_cases c30 : q28 = (0 : Int32)
        · replace hf := (if_pos c30).symm.trans hf
          refine X_if_ne_f (pc := 19) 24 dX11_correct_19 (by decide) c30 ?_
          refine X_iconst (pc := 22) (-1 : Int32) dX11_correct_22 (by decide) ?_
          cases hf
          exact X_ireturn (pc := 23) rfl dX11_correct_23
        · replace hf := (if_neg c30).symm.trans hf
          refine X_if_ne_t (pc := 19) 24 dX11_correct_19 (by decide) c30 ?_
          refine X_aload_n (pc := 24) (i := 0) 1 dX11_correct_24 rfl rfl ?_
          refine X_get (pc := 25) (a := 0) (ci := 10) (j := 8) (.int (I 0 8)) (sh_0 hT) (by decide) k_385 rfl dX11_correct_25 ?_
          by_cases c31 : (I 0 8) = (0 : Int32)
          · replace hf := (if_pos c31).symm.trans hf
            refine X_if_eq_t (pc := 28) 40 dX11_correct_28 (by decide) c31 ?_
            refine X_bipush (pc := 40) (-2 : Int32) dX11_correct_40 (by decide) ?_
            cases hf
            exact X_ireturn (pc := 42) rfl dX11_correct_42
          · replace hf := (if_neg c31).symm.trans hf
            refine X_if_eq_f (pc := 28) 40 dX11_correct_28 (by decide) c31 ?_
            refine X_aload_n (pc := 31) (i := 0) 1 dX11_correct_31 rfl rfl ?_
            refine X_aload (pc := 32) 0 dX11_correct_32 rfl ?_
            refine X_invV_i (pc := 34) (c_H_isBarred_S hT hs27 rfl) ok_H_isBarred (ci := 10) (sh_0 hT) k_855 k_857 k_19 nd_26 (by decide) rfl (Nat.le_of_ble_eq_true rfl) dX11_correct_34 ?_
            by_cases c32 : (f_H_isBarred_S w3) = (0 : Int32)
            · replace hf := (if_pos c32).symm.trans hf
              refine X_if_eq_t (pc := 37) 43 dX11_correct_37 (by decide) c32 ?_
              refine X_aload_n (pc := 43) (i := 0) 1 dX11_correct_43 rfl rfl ?_
              refine X_iconst (pc := 44) (4 : Int32) dX11_correct_44 (by decide) ?_
              refine X_iload_n (pc := 45) (i := 1) 2 dX11_correct_45 rfl rfl ?_
              refine X_iload_n (pc := 46) (i := 2) 3 dX11_correct_46 rfl rfl ?_
              refine X_iload_n (pc := 47) (i := 3) 4 dX11_correct_47 rfl rfl ?_
              obtain ⟨q33, c34, hf⟩ := bd_some hf
              refine X_invV_i (pc := 48) (c_H_enter hT c34) ok_H_enter (ci := 10) (sh_0 hT) k_690 k_692 k_10 nd_18 (by decide) rfl (Nat.le_of_ble_eq_true rfl) dX11_correct_48 ?_
              by_cases c35 : q33.1 = (0 : Int32)
              · replace hf := (if_pos c35).symm.trans hf
                refine X_if_eq_t (pc := 51) 64 dX11_correct_51 (by decide) c35 ?_
                refine X_bipush (pc := 64) (-3 : Int32) dX11_correct_64 (by decide) ?_
                cases hf
                exact X_ireturn (pc := 66) rfl dX11_correct_66
              · replace hf := (if_neg c35).symm.trans hf
                refine X_if_eq_f (pc := 51) 64 dX11_correct_51 (by decide) c35 ?_
                refine X_aload_n (pc := 54) (i := 0) 1 dX11_correct_54 rfl rfl ?_
                refine X_iload_n (pc := 55) (i := 1) 2 dX11_correct_55 rfl rfl ?_
                refine X_iload_n (pc := 56) (i := 2) 3 dX11_correct_56 rfl rfl ?_
                refine X_iload_n (pc := 57) (i := 3) 4 dX11_correct_57 rfl rfl ?_
                obtain ⟨q36, c37, hf⟩ := bd_some hf
                refine X_invV_i (pc := 58) (c_H_putRight hT c37) ok_H_putRight (ci := 10) (sh_0 hT) k_865 k_867 k_20 nd_15 (by decide) rfl (Nat.le_of_ble_eq_true rfl) dX11_correct_58 ?_
                refine X_goto (pc := 61) 66 dX11_correct_61 (by decide) ?_
                cases hf
                exact X_ireturn (pc := 66) rfl dX11_correct_66
            · replace hf := (if_neg c32).symm.trans hf
              refine X_if_eq_f (pc := 37) 43 dX11_correct_37 (by decide) c32 ?_
              refine X_bipush (pc := 40) (-2 : Int32) dX11_correct_40 (by decide) ?_
              cases hf
              exact X_ireturn (pc := 42) rfl dX11_correct_42
theorem dX11_strikeNow_0 : decode cX11_strikeNow 0 = .ok (.aload_n 0, 1) := by decide +kernel
theorem dX11_strikeNow_1 : decode cX11_strikeNow 1 = .ok (.iload_n 1, 1) := by decide +kernel
theorem dX11_strikeNow_2 : decode cX11_strikeNow 2 = .ok (.invokevirtual 184, 3) := by decide +kernel
theorem dX11_strikeNow_5 : decode cX11_strikeNow 5 = .ok (.astore_n 3, 1) := by decide +kernel
theorem dX11_strikeNow_6 : decode cX11_strikeNow 6 = .ok (.aload_n 3, 1) := by decide +kernel
theorem dX11_strikeNow_7 : decode cX11_strikeNow 7 = .ok (.instanceof 130, 3) := by decide +kernel
theorem dX11_strikeNow_10 : decode cX11_strikeNow 10 = .ok (.ifCond .eq 20, 3) := by decide +kernel
theorem dX11_strikeNow_13 : decode cX11_strikeNow 13 = .ok (.aload_n 3, 1) := by decide +kernel
theorem dX11_strikeNow_14 : decode cX11_strikeNow 14 = .ok (.checkcast 130, 3) := by decide +kernel
theorem dX11_strikeNow_17 : decode cX11_strikeNow 17 = .ok (.astore_n 2, 1) := by decide +kernel
theorem dX11_strikeNow_18 : decode cX11_strikeNow 18 = .ok (.aload_n 2, 1) := by decide +kernel
theorem dX11_strikeNow_19 : decode cX11_strikeNow 19 = .ok (.aload_n 0, 1) := by decide +kernel
theorem dX11_strikeNow_20 : decode cX11_strikeNow 20 = .ok (.getfield 10, 3) := by decide +kernel
theorem dX11_strikeNow_23 : decode cX11_strikeNow 23 = .ok (.getfield 218, 3) := by decide +kernel
theorem dX11_strikeNow_26 : decode cX11_strikeNow 26 = .ok (.invokevirtual 396, 3) := by decide +kernel
theorem dX11_strikeNow_29 : decode cX11_strikeNow 29 = .ok (.ireturn, 1) := by decide +kernel
theorem dX11_strikeNow_30 : decode cX11_strikeNow 30 = .ok (.iconst (-1), 1) := by decide +kernel
theorem dX11_strikeNow_31 : decode cX11_strikeNow 31 = .ok (.ireturn, 1) := by decide +kernel
def f_H_strikeNow (S : List xSh) (Rf : Nat → Nat → Option Nat) (a0 : Int32) (I : Nat → Nat → Int32) (L : Nat → Nat → Int64) : Option (Int32 × (Nat → Nat → Int32) × (Nat → Nat → Int64)) := ((f_H_workAt S Rf a0 I L).bind fun q1 => (oc q1 (some ((-1 : Int32), I, L)) fun w3 => (if S[w3]? = some (.inl 4) then (some ((-1 : Int32), I, L)) else (if S[w3]? = some (.inl 1) then (some ((-1 : Int32), I, L)) else (if S[w3]? = some (.inl 8) then ((f_St_sound S Rf w3 (I 1 12) I L).bind fun q8 => (some (q8.1, q8.2.1, q8.2.2))) else none)))))
set_option maxRecDepth 100000 in
set_option maxHeartbeats 4000000 in
theorem c_H_strikeNow {G : xG} {S : List xSh} {Rf : Nat → Nat → Option Nat} (hT : xT S Rf) {a0 : Int32} {I : Nat → Nat → Int32} {L : Nat → Nat → Int64} {q : (Int32 × (Nat → Nat → Int32) × (Nat → Nat → Int64))} (hf : f_H_strikeNow S Rf a0 I L = some q) : CT G 3 m_H_strikeNow [.ref (xB G + 0), .int a0] (S, I, L, Rf) (some (.int q.1), (S, q.2.1, q.2.2, Rf)) := by
  refine CT.of (by decide +kernel) (Nat.le_of_ble_eq_true rfl) ?_
  show X G 3 m_H_strikeNow 0 [(0, .ref (xB G + 0)), (1, .int a0)] [] (S, I, L, Rf) (some (.int q.1), (S, q.2.1, q.2.2, Rf))
  replace hf := (f_H_strikeNow.eq_1 _ _ _ _ _).symm.trans hf
  refine X_aload_n (pc := 0) (i := 0) 0 dX11_strikeNow_0 rfl rfl ?_
  refine X_iload_n (pc := 1) (i := 1) 1 dX11_strikeNow_1 rfl rfl ?_
  obtain ⟨q1, c2, hf⟩ := bd_some hf
  rcases oc_cases hf with ⟨hr4, hf⟩ | ⟨w3, hr4, hf⟩
  · rw [hr4] at c2
    refine X_invV_aN (pc := 2) (c_H_workAt hT c2) ok_H_workAt (ci := 10) (sh_0 hT) k_837 k_839 k_18 nd_24 (by decide) rfl (Nat.le_of_ble_eq_true rfl) dX11_strikeNow_2 ?_
    refine X_astore_nN (pc := 5) (i := 3) [(3, .null), (0, .ref (xB G + 0)), (1, .int a0)] dX11_strikeNow_5 rfl (by decide) rfl ?_
    refine X_aload_nN (pc := 6) (i := 3) 0 dX11_strikeNow_6 rfl rfl ?_
    refine X_instN (pc := 7) dX11_strikeNow_7 ?_
    refine X_if_eq_t (pc := 10) 30 dX11_strikeNow_10 (by decide) (by decide) ?_
    refine X_iconst (pc := 30) (-1 : Int32) dX11_strikeNow_30 (by decide) ?_
    cases hf
    exact X_ireturn (pc := 31) rfl dX11_strikeNow_31
  · rw [hr4] at c2
    refine X_invV_aS (pc := 2) (c_H_workAt hT c2) ok_H_workAt (ci := 10) (sh_0 hT) k_837 k_839 k_18 nd_24 (by decide) rfl (Nat.le_of_ble_eq_true rfl) dX11_strikeNow_2 ?_
    refine X_astore_n (pc := 5) (i := 3) [(3, .ref (xB G + w3)), (0, .ref (xB G + 0)), (1, .int a0)] dX11_strikeNow_5 rfl (by decide) rfl ?_
    refine X_aload_n (pc := 6) (i := 3) 0 dX11_strikeNow_6 rfl rfl ?_
    by_cases hs5 : S[w3]? = some (.inl 4)
    · replace hf := (if_pos hs5).symm.trans hf
      refine X_instNo (pc := 7) (ci := 4) hs5 k_617 (by decide) dX11_strikeNow_7 ?_
      refine X_if_eq_t (pc := 10) 30 dX11_strikeNow_10 (by decide) (by decide) ?_
      refine X_iconst (pc := 30) (-1 : Int32) dX11_strikeNow_30 (by decide) ?_
      cases hf
      exact X_ireturn (pc := 31) rfl dX11_strikeNow_31
    · replace hf := (if_neg hs5).symm.trans hf
      by_cases hs6 : S[w3]? = some (.inl 1)
      · replace hf := (if_pos hs6).symm.trans hf
        refine X_instNo (pc := 7) (ci := 1) hs6 k_617 (by decide) dX11_strikeNow_7 ?_
        refine X_if_eq_t (pc := 10) 30 dX11_strikeNow_10 (by decide) (by decide) ?_
        refine X_iconst (pc := 30) (-1 : Int32) dX11_strikeNow_30 (by decide) ?_
        cases hf
        exact X_ireturn (pc := 31) rfl dX11_strikeNow_31
      · replace hf := (if_neg hs6).symm.trans hf
        obtain ⟨hs7, hf⟩ := gd_some hf
        refine X_instYes (pc := 7) (ci := 8) hs7 k_617 dX11_strikeNow_7 ?_
        refine X_if_eq_f (pc := 10) 30 dX11_strikeNow_10 (by decide) (by decide) ?_
        refine X_aload_n (pc := 13) (i := 3) 0 dX11_strikeNow_13 rfl rfl ?_
        refine X_castYes (pc := 14) (ci := 8) hs7 k_617 dX11_strikeNow_14 ?_
        refine X_astore_n (pc := 17) (i := 2) [(2, .ref (xB G + w3)), (3, .ref (xB G + w3)), (0, .ref (xB G + 0)), (1, .int a0)] dX11_strikeNow_17 rfl (by decide) rfl ?_
        refine X_aload_n (pc := 18) (i := 2) 0 dX11_strikeNow_18 rfl rfl ?_
        refine X_aload_n (pc := 19) (i := 0) 2 dX11_strikeNow_19 rfl rfl ?_
        refine X_getr (pc := 20) (a := 0) (ci := 10) (j := 0) (c := 1) (sh_0 hT) (by decide) k_377 (rf_0_0 hT) (fun _ h => h) dX11_strikeNow_20 ?_
        refine X_get (pc := 23) (a := 1) (ci := 5) (j := 12) (.int (I 1 12)) (sh_1 hT) (by decide) k_192 rfl dX11_strikeNow_23 ?_
        obtain ⟨q8, c9, hf⟩ := bd_some hf
        refine X_invV_i (pc := 26) (c_St_sound hT hs7 c9) ok_St_sound (ci := 8) hs7 k_889 k_793 k_794 nd_8 (by decide) rfl (Nat.le_of_ble_eq_true rfl) dX11_strikeNow_26 ?_
        cases hf
        exact X_ireturn (pc := 29) rfl dX11_strikeNow_29
theorem dX11_trip_0 : decode cX11_trip 0 = .ok (.aload_n 0, 1) := by decide +kernel
theorem dX11_trip_1 : decode cX11_trip 1 = .ok (.iload_n 1, 1) := by decide +kernel
theorem dX11_trip_2 : decode cX11_trip 2 = .ok (.invokevirtual 184, 3) := by decide +kernel
theorem dX11_trip_5 : decode cX11_trip 5 = .ok (.instanceof 130, 3) := by decide +kernel
theorem dX11_trip_8 : decode cX11_trip 8 = .ok (.ifCond .ne 5, 3) := by decide +kernel
theorem dX11_trip_11 : decode cX11_trip 11 = .ok (.iconst (-1), 1) := by decide +kernel
theorem dX11_trip_12 : decode cX11_trip 12 = .ok (.ireturn, 1) := by decide +kernel
theorem dX11_trip_13 : decode cX11_trip 13 = .ok (.aload_n 0, 1) := by decide +kernel
theorem dX11_trip_14 : decode cX11_trip 14 = .ok (.getfield 77, 3) := by decide +kernel
theorem dX11_trip_17 : decode cX11_trip 17 = .ok (.ifCond .ne 6, 3) := by decide +kernel
theorem dX11_trip_20 : decode cX11_trip 20 = .ok (.bipush (-2), 2) := by decide +kernel
theorem dX11_trip_22 : decode cX11_trip 22 = .ok (.ireturn, 1) := by decide +kernel
theorem dX11_trip_23 : decode cX11_trip 23 = .ok (.aload_n 0, 1) := by decide +kernel
theorem dX11_trip_24 : decode cX11_trip 24 = .ok (.iconst 5, 1) := by decide +kernel
theorem dX11_trip_25 : decode cX11_trip 25 = .ok (.iload_n 1, 1) := by decide +kernel
theorem dX11_trip_26 : decode cX11_trip 26 = .ok (.iconst 0, 1) := by decide +kernel
theorem dX11_trip_27 : decode cX11_trip 27 = .ok (.iconst 0, 1) := by decide +kernel
theorem dX11_trip_28 : decode cX11_trip 28 = .ok (.invokevirtual 157, 3) := by decide +kernel
theorem dX11_trip_31 : decode cX11_trip 31 = .ok (.ifCond .eq 11, 3) := by decide +kernel
theorem dX11_trip_34 : decode cX11_trip 34 = .ok (.aload_n 0, 1) := by decide +kernel
theorem dX11_trip_35 : decode cX11_trip 35 = .ok (.iload_n 1, 1) := by decide +kernel
theorem dX11_trip_36 : decode cX11_trip 36 = .ok (.invokevirtual 200, 3) := by decide +kernel
theorem dX11_trip_39 : decode cX11_trip 39 = .ok (.goto 5, 3) := by decide +kernel
theorem dX11_trip_42 : decode cX11_trip 42 = .ok (.bipush (-3), 2) := by decide +kernel
theorem dX11_trip_44 : decode cX11_trip 44 = .ok (.ireturn, 1) := by decide +kernel
def f_H_trip (S : List xSh) (Rf : Nat → Nat → Option Nat) (a0 : Int32) (I : Nat → Nat → Int32) (L : Nat → Nat → Int64) : Option (Int32 × (Nat → Nat → Int32) × (Nat → Nat → Int64)) := ((f_H_workAt S Rf a0 I L).bind fun q1 => (oc q1 (some ((-1 : Int32), I, L)) fun w3 => (if S[w3]? = some (.inl 4) then (some ((-1 : Int32), I, L)) else (if S[w3]? = some (.inl 1) then (some ((-1 : Int32), I, L)) else (if S[w3]? = some (.inl 8) then (if (I 0 8) = (0 : Int32) then (some ((-2 : Int32), I, L)) else ((f_H_enter (5 : Int32) a0 (0 : Int32) (0 : Int32) I L).bind fun q9 => (if q9.1 = (0 : Int32) then (some ((-3 : Int32), q9.2.1, q9.2.2)) else ((f_H_strikeNow S Rf a0 q9.2.1 q9.2.2).bind fun q12 => (some (q12.1, q12.2.1, q12.2.2)))))) else none)))))
set_option maxRecDepth 100000 in
set_option maxHeartbeats 4000000 in
theorem c_H_trip {G : xG} {S : List xSh} {Rf : Nat → Nat → Option Nat} (hT : xT S Rf) {a0 : Int32} {I : Nat → Nat → Int32} {L : Nat → Nat → Int64} {q : (Int32 × (Nat → Nat → Int32) × (Nat → Nat → Int64))} (hf : f_H_trip S Rf a0 I L = some q) : CT G 4 m_H_trip [.ref (xB G + 0), .int a0] (S, I, L, Rf) (some (.int q.1), (S, q.2.1, q.2.2, Rf)) := by
  refine CT.of (by decide +kernel) (Nat.le_of_ble_eq_true rfl) ?_
  show X G 4 m_H_trip 0 [(0, .ref (xB G + 0)), (1, .int a0)] [] (S, I, L, Rf) (some (.int q.1), (S, q.2.1, q.2.2, Rf))
  replace hf := (f_H_trip.eq_1 _ _ _ _ _).symm.trans hf
  refine X_aload_n (pc := 0) (i := 0) 0 dX11_trip_0 rfl rfl ?_
  refine X_iload_n (pc := 1) (i := 1) 1 dX11_trip_1 rfl rfl ?_
  obtain ⟨q1, c2, hf⟩ := bd_some hf
  rcases oc_cases hf with ⟨hr4, hf⟩ | ⟨w3, hr4, hf⟩
  · rw [hr4] at c2
    refine X_invV_aN (pc := 2) (c_H_workAt hT c2) ok_H_workAt (ci := 10) (sh_0 hT) k_837 k_839 k_18 nd_24 (by decide) rfl (Nat.le_of_ble_eq_true rfl) dX11_trip_2 ?_
    refine X_instN (pc := 5) dX11_trip_5 ?_
    refine X_if_ne_f (pc := 8) 13 dX11_trip_8 (by decide) (by decide) ?_
    refine X_iconst (pc := 11) (-1 : Int32) dX11_trip_11 (by decide) ?_
    cases hf
    exact X_ireturn (pc := 12) rfl dX11_trip_12
  · rw [hr4] at c2
    refine X_invV_aS (pc := 2) (c_H_workAt hT c2) ok_H_workAt (ci := 10) (sh_0 hT) k_837 k_839 k_18 nd_24 (by decide) rfl (Nat.le_of_ble_eq_true rfl) dX11_trip_2 ?_
    by_cases hs5 : S[w3]? = some (.inl 4)
    · replace hf := (if_pos hs5).symm.trans hf
      refine X_instNo (pc := 5) (ci := 4) hs5 k_617 (by decide) dX11_trip_5 ?_
      refine X_if_ne_f (pc := 8) 13 dX11_trip_8 (by decide) (by decide) ?_
      refine X_iconst (pc := 11) (-1 : Int32) dX11_trip_11 (by decide) ?_
      cases hf
      exact X_ireturn (pc := 12) rfl dX11_trip_12
    · replace hf := (if_neg hs5).symm.trans hf
      by_cases hs6 : S[w3]? = some (.inl 1)
      · replace hf := (if_pos hs6).symm.trans hf
        refine X_instNo (pc := 5) (ci := 1) hs6 k_617 (by decide) dX11_trip_5 ?_
        refine X_if_ne_f (pc := 8) 13 dX11_trip_8 (by decide) (by decide) ?_
        refine X_iconst (pc := 11) (-1 : Int32) dX11_trip_11 (by decide) ?_
        cases hf
        exact X_ireturn (pc := 12) rfl dX11_trip_12
      · replace hf := (if_neg hs6).symm.trans hf
        obtain ⟨hs7, hf⟩ := gd_some hf
        refine X_instYes (pc := 5) (ci := 8) hs7 k_617 dX11_trip_5 ?_
        refine X_if_ne_t (pc := 8) 13 dX11_trip_8 (by decide) (by decide) ?_
        refine X_aload_n (pc := 13) (i := 0) 0 dX11_trip_13 rfl rfl ?_
        refine X_get (pc := 14) (a := 0) (ci := 10) (j := 8) (.int (I 0 8)) (sh_0 hT) (by decide) k_385 rfl dX11_trip_14 ?_
        by_cases c8 : (I 0 8) = (0 : Int32)
        · replace hf := (if_pos c8).symm.trans hf
          refine X_if_ne_f (pc := 17) 23 dX11_trip_17 (by decide) c8 ?_
          refine X_bipush (pc := 20) (-2 : Int32) dX11_trip_20 (by decide) ?_
          cases hf
          exact X_ireturn (pc := 22) rfl dX11_trip_22
        · replace hf := (if_neg c8).symm.trans hf
          refine X_if_ne_t (pc := 17) 23 dX11_trip_17 (by decide) c8 ?_
          refine X_aload_n (pc := 23) (i := 0) 0 dX11_trip_23 rfl rfl ?_
          refine X_iconst (pc := 24) (5 : Int32) dX11_trip_24 (by decide) ?_
          refine X_iload_n (pc := 25) (i := 1) 1 dX11_trip_25 rfl rfl ?_
          refine X_iconst (pc := 26) (0 : Int32) dX11_trip_26 (by decide) ?_
          refine X_iconst (pc := 27) (0 : Int32) dX11_trip_27 (by decide) ?_
          obtain ⟨q9, c10, hf⟩ := bd_some hf
          refine X_invV_i (pc := 28) (c_H_enter hT c10) ok_H_enter (ci := 10) (sh_0 hT) k_690 k_692 k_10 nd_18 (by decide) rfl (Nat.le_of_ble_eq_true rfl) dX11_trip_28 ?_
          by_cases c11 : q9.1 = (0 : Int32)
          · replace hf := (if_pos c11).symm.trans hf
            refine X_if_eq_t (pc := 31) 42 dX11_trip_31 (by decide) c11 ?_
            refine X_bipush (pc := 42) (-3 : Int32) dX11_trip_42 (by decide) ?_
            cases hf
            exact X_ireturn (pc := 44) rfl dX11_trip_44
          · replace hf := (if_neg c11).symm.trans hf
            refine X_if_eq_f (pc := 31) 42 dX11_trip_31 (by decide) c11 ?_
            refine X_aload_n (pc := 34) (i := 0) 0 dX11_trip_34 rfl rfl ?_
            refine X_iload_n (pc := 35) (i := 1) 1 dX11_trip_35 rfl rfl ?_
            obtain ⟨q12, c13, hf⟩ := bd_some hf
            refine X_invV_i (pc := 36) (c_H_strikeNow hT c13) ok_H_strikeNow (ci := 10) (sh_0 hT) k_885 k_887 k_21 nd_8 (by decide) rfl (Nat.le_of_ble_eq_true rfl) dX11_trip_36 ?_
            refine X_goto (pc := 39) 44 dX11_trip_39 (by decide) ?_
            cases hf
            exact X_ireturn (pc := 44) rfl dX11_trip_44
theorem dX3_restart_0 : decode cX3_restart 0 = .ok (.aload_n 0, 1) := by decide +kernel
theorem dX3_restart_1 : decode cX3_restart 1 = .ok (.iconst 0, 1) := by decide +kernel
theorem dX3_restart_2 : decode cX3_restart 2 = .ok (.putfield 13, 3) := by decide +kernel
theorem dX3_restart_5 : decode cX3_restart 5 = .ok (.aload_n 0, 1) := by decide +kernel
theorem dX3_restart_6 : decode cX3_restart 6 = .ok (.iconst 0, 1) := by decide +kernel
theorem dX3_restart_7 : decode cX3_restart 7 = .ok (.putfield 16, 3) := by decide +kernel
theorem dX3_restart_10 : decode cX3_restart 10 = .ok (.aload_n 0, 1) := by decide +kernel
theorem dX3_restart_11 : decode cX3_restart 11 = .ok (.iconst 0, 1) := by decide +kernel
theorem dX3_restart_12 : decode cX3_restart 12 = .ok (.invokevirtual 20, 3) := by decide +kernel
theorem dX3_restart_15 : decode cX3_restart 15 = .ok (.return_, 1) := by decide +kernel
def f_Cr_restart (w0 : Nat) (I : Nat → Nat → Int32) (L : Nat → Nat → Int64) : Option ((Nat → Nat → Int32) × (Nat → Nat → Int64)) := ((f_Cr_setCount w0 (0 : Int32) (uI (uI I w0 1 (0 : Int32)) w0 4 (0 : Int32)) L).bind fun q1 => (some (q1.1, q1.2)))
set_option maxRecDepth 100000 in
set_option maxHeartbeats 4000000 in
theorem c_Cr_restart {G : xG} {S : List xSh} {Rf : Nat → Nat → Option Nat} (hT : xT S Rf) {w0 : Nat} (hw0 : S[w0]? = some (.inl 3)) {I : Nat → Nat → Int32} {L : Nat → Nat → Int64} {q : ((Nat → Nat → Int32) × (Nat → Nat → Int64))} (hf : f_Cr_restart w0 I L = some q) : CT G 2 m_Cr_restart [.ref (xB G + w0)] (S, I, L, Rf) (none, (S, q.1, q.2, Rf)) := by
  refine CT.of (by decide +kernel) (Nat.le_of_ble_eq_true rfl) ?_
  show X G 2 m_Cr_restart 0 [(0, .ref (xB G + w0))] [] (S, I, L, Rf) (none, (S, q.1, q.2, Rf))
  replace hf := (f_Cr_restart.eq_1 _ _ _).symm.trans hf
  refine X_aload_n (pc := 0) (i := 0) 0 dX3_restart_0 rfl rfl ?_
  refine X_iconst (pc := 1) (0 : Int32) dX3_restart_1 (by decide) ?_
  refine X_puti (pc := 2) (a := w0) (ci := 3) (j := 1) false hw0 (by decide) k_654 rfl (fun h => by cases h) rfl dX3_restart_2 ?_
  refine X_aload_n (pc := 5) (i := 0) 0 dX3_restart_5 rfl rfl ?_
  refine X_iconst (pc := 6) (0 : Int32) dX3_restart_6 (by decide) ?_
  refine X_putz (pc := 7) (a := w0) (ci := 3) (j := 4) false hw0 (by decide) k_660 rfl (fun h => by cases h) rfl (by decide) dX3_restart_7 ?_
  refine X_aload_n (pc := 10) (i := 0) 0 dX3_restart_10 rfl rfl ?_
  refine X_iconst (pc := 11) (0 : Int32) dX3_restart_11 (by decide) ?_
  obtain ⟨q1, c2, hf⟩ := bd_some hf
  refine X_invV_v (pc := 12) (c_Cr_setCount hT hw0 c2) ok_Cr_setCount (ci := 3) hw0 k_758 k_760 k_14 nd_13 (by decide) rfl (Nat.le_of_ble_eq_true rfl) dX3_restart_12 ?_
  cases hf
  exact X_return (pc := 15) rfl dX3_restart_15
theorem dX11_restartMovement_0 : decode cX11_restartMovement 0 = .ok (.aload_n 0, 1) := by decide +kernel
theorem dX11_restartMovement_1 : decode cX11_restartMovement 1 = .ok (.getfield 10, 3) := by decide +kernel
theorem dX11_restartMovement_4 : decode cX11_restartMovement 4 = .ok (.invokevirtual 363, 3) := by decide +kernel
theorem dX11_restartMovement_7 : decode cX11_restartMovement 7 = .ok (.aload_n 0, 1) := by decide +kernel
theorem dX11_restartMovement_8 : decode cX11_restartMovement 8 = .ok (.getfield 38, 3) := by decide +kernel
theorem dX11_restartMovement_11 : decode cX11_restartMovement 11 = .ok (.iconst 0, 1) := by decide +kernel
theorem dX11_restartMovement_12 : decode cX11_restartMovement 12 = .ok (.putfield 73, 3) := by decide +kernel
theorem dX11_restartMovement_15 : decode cX11_restartMovement 15 = .ok (.iconst 0, 1) := by decide +kernel
theorem dX11_restartMovement_16 : decode cX11_restartMovement 16 = .ok (.istore_n 1, 1) := by decide +kernel
theorem dX11_restartMovement_17 : decode cX11_restartMovement 17 = .ok (.iload_n 1, 1) := by decide +kernel
theorem dX11_restartMovement_18 : decode cX11_restartMovement 18 = .ok (.aload_n 0, 1) := by decide +kernel
theorem dX11_restartMovement_19 : decode cX11_restartMovement 19 = .ok (.getfield 132, 3) := by decide +kernel
theorem dX11_restartMovement_22 : decode cX11_restartMovement 22 = .ok (.if_icmp .ge 28, 3) := by decide +kernel
theorem dX11_restartMovement_25 : decode cX11_restartMovement 25 = .ok (.aload_n 0, 1) := by decide +kernel
theorem dX11_restartMovement_26 : decode cX11_restartMovement 26 = .ok (.iload_n 1, 1) := by decide +kernel
theorem dX11_restartMovement_27 : decode cX11_restartMovement 27 = .ok (.invokevirtual 184, 3) := by decide +kernel
theorem dX11_restartMovement_30 : decode cX11_restartMovement 30 = .ok (.astore_n 2, 1) := by decide +kernel
theorem dX11_restartMovement_31 : decode cX11_restartMovement 31 = .ok (.aload_n 2, 1) := by decide +kernel
theorem dX11_restartMovement_32 : decode cX11_restartMovement 32 = .ok (.ifnull 12, 3) := by decide +kernel
theorem dX11_restartMovement_35 : decode cX11_restartMovement 35 = .ok (.aload_n 2, 1) := by decide +kernel
theorem dX11_restartMovement_36 : decode cX11_restartMovement 36 = .ok (.iconst 0, 1) := by decide +kernel
theorem dX11_restartMovement_37 : decode cX11_restartMovement 37 = .ok (.putfield 257, 3) := by decide +kernel
theorem dX11_restartMovement_40 : decode cX11_restartMovement 40 = .ok (.aload_n 2, 1) := by decide +kernel
theorem dX11_restartMovement_41 : decode cX11_restartMovement 41 = .ok (.invokevirtual 366, 3) := by decide +kernel
theorem dX11_restartMovement_44 : decode cX11_restartMovement 44 = .ok (.iinc 1 1, 3) := by decide +kernel
theorem dX11_restartMovement_47 : decode cX11_restartMovement 47 = .ok (.goto (-30), 3) := by decide +kernel
theorem dX11_restartMovement_50 : decode cX11_restartMovement 50 = .ok (.iconst 0, 1) := by decide +kernel
theorem dX11_restartMovement_51 : decode cX11_restartMovement 51 = .ok (.istore_n 1, 1) := by decide +kernel
theorem dX11_restartMovement_52 : decode cX11_restartMovement 52 = .ok (.iload_n 1, 1) := by decide +kernel
theorem dX11_restartMovement_53 : decode cX11_restartMovement 53 = .ok (.aload_n 0, 1) := by decide +kernel
theorem dX11_restartMovement_54 : decode cX11_restartMovement 54 = .ok (.getfield 138, 3) := by decide +kernel
theorem dX11_restartMovement_57 : decode cX11_restartMovement 57 = .ok (.if_icmp .ge 23, 3) := by decide +kernel
theorem dX11_restartMovement_60 : decode cX11_restartMovement 60 = .ok (.aload_n 0, 1) := by decide +kernel
theorem dX11_restartMovement_61 : decode cX11_restartMovement 61 = .ok (.iload_n 1, 1) := by decide +kernel
theorem dX11_restartMovement_62 : decode cX11_restartMovement 62 = .ok (.invokevirtual 176, 3) := by decide +kernel
theorem dX11_restartMovement_65 : decode cX11_restartMovement 65 = .ok (.astore_n 2, 1) := by decide +kernel
theorem dX11_restartMovement_66 : decode cX11_restartMovement 66 = .ok (.aload_n 2, 1) := by decide +kernel
theorem dX11_restartMovement_67 : decode cX11_restartMovement 67 = .ok (.ifnull 7, 3) := by decide +kernel
theorem dX11_restartMovement_70 : decode cX11_restartMovement 70 = .ok (.aload_n 2, 1) := by decide +kernel
theorem dX11_restartMovement_71 : decode cX11_restartMovement 71 = .ok (.invokevirtual 367, 3) := by decide +kernel
theorem dX11_restartMovement_74 : decode cX11_restartMovement 74 = .ok (.iinc 1 1, 3) := by decide +kernel
theorem dX11_restartMovement_77 : decode cX11_restartMovement 77 = .ok (.goto (-25), 3) := by decide +kernel
theorem dX11_restartMovement_80 : decode cX11_restartMovement 80 = .ok (.return_, 1) := by decide +kernel
def f_H_restartMovement_L52 (S : List xSh) (Rf : Nat → Nat → Option Nat) : Nat → Int32 → (Nat → Nat → Int32) → (Nat → Nat → Int64) → Option ((Nat → Nat → Int32) × (Nat → Nat → Int64))
  | 0, _, _, _ => none
  | n + 1, l1, I, L => (if (I 0 7) ≤ l1 then (some (I, L)) else ((f_H_chronographAt S Rf l1 I L).bind fun q5 => (oc q5 (f_H_restartMovement_L52 S Rf n (l1 + (1 : Int32)) I L) fun w7 => (if S[w7]? = some (.inl 3) then ((f_Cr_restart w7 I L).bind fun q10 => (f_H_restartMovement_L52 S Rf n (l1 + (1 : Int32)) q10.1 q10.2)) else none))))
set_option maxRecDepth 100000 in
set_option maxHeartbeats 4000000 in
theorem x_H_restartMovement_L52 {G : xG} {S : List xSh} {Rf : Nat → Nat → Option Nat} (hT : xT S Rf) : ∀ (n : Nat) {l1 : Int32} {I : Nat → Nat → Int32} {L : Nat → Nat → Int64} {q : ((Nat → Nat → Int32) × (Nat → Nat → Int64))}, f_H_restartMovement_L52 S Rf n l1 I L = some q → X G 4 m_H_restartMovement 52 [(0, .ref (xB G + 0)), (1, .int l1)] [] (S, I, L, Rf) (none, (S, q.1, q.2, Rf)) := by
  intro n
  induction n with
  | zero =>
    intro l1 I L q hf
    exact absurd (show none = some q from hf) (by simp)
  | succ n ih =>
    intro l1 I L q hf
    replace hf := (f_H_restartMovement_L52.eq_2 _ _ _ _ _ _).symm.trans hf
    refine X_iload_n (pc := 52) (i := 1) 1 dX11_restartMovement_52 rfl rfl ?_
    refine X_aload_n (pc := 53) (i := 0) 0 dX11_restartMovement_53 rfl rfl ?_
    refine X_get (pc := 54) (a := 0) (ci := 10) (j := 7) (.int (I 0 7)) (sh_0 hT) (by decide) k_384 rfl dX11_restartMovement_54 ?_
    by_cases c4 : (I 0 7) ≤ l1
    · replace hf := (if_pos c4).symm.trans hf
      refine X_icmp_ge_t (pc := 57) 80 dX11_restartMovement_57 (by decide) c4 ?_
      cases hf
      exact X_return (pc := 80) rfl dX11_restartMovement_80
    · replace hf := (if_neg c4).symm.trans hf
      refine X_icmp_ge_f (pc := 57) 80 dX11_restartMovement_57 (by decide) c4 ?_
      refine X_aload_n (pc := 60) (i := 0) 0 dX11_restartMovement_60 rfl rfl ?_
      refine X_iload_n (pc := 61) (i := 1) 1 dX11_restartMovement_61 rfl rfl ?_
      obtain ⟨q5, c6, hf⟩ := bd_some hf
      rcases oc_cases hf with ⟨hr8, hf⟩ | ⟨w7, hr8, hf⟩
      · rw [hr8] at c6
        refine X_invV_aN (pc := 62) (c_H_chronographAt hT c6) ok_H_chronographAt (ci := 10) (sh_0 hT) k_821 k_823 k_17 nd_23 (by decide) rfl (Nat.le_of_ble_eq_true rfl) dX11_restartMovement_62 ?_
        refine X_astore_nN (pc := 65) (i := 2) [(2, .null), (0, .ref (xB G + 0)), (1, .int l1)] dX11_restartMovement_65 rfl (by decide) rfl ?_
        refine X_aload_nN (pc := 66) (i := 2) 0 dX11_restartMovement_66 rfl rfl ?_
        refine X_ifnull_t (pc := 67) 74 dX11_restartMovement_67 (by decide) ?_
        refine X_iinc (pc := 74) (i := 1) (q := 2) (v := (l1 + (1 : Int32))) [(1, .int (l1 + (1 : Int32))), (2, .null), (0, .ref (xB G + 0))] dX11_restartMovement_74 rfl rfl (by decide) rfl ?_
        refine X_goto (pc := 77) 52 dX11_restartMovement_77 (by decide) ?_
        exact X_lvs [2, 0] rfl (ih hf)
      · obtain ⟨hs9, hf⟩ := gd_some hf
        rw [hr8] at c6
        refine X_invV_aS (pc := 62) (c_H_chronographAt hT c6) ok_H_chronographAt (ci := 10) (sh_0 hT) k_821 k_823 k_17 nd_23 (by decide) rfl (Nat.le_of_ble_eq_true rfl) dX11_restartMovement_62 ?_
        refine X_astore_n (pc := 65) (i := 2) [(2, .ref (xB G + w7)), (0, .ref (xB G + 0)), (1, .int l1)] dX11_restartMovement_65 rfl (by decide) rfl ?_
        refine X_aload_n (pc := 66) (i := 2) 0 dX11_restartMovement_66 rfl rfl ?_
        refine X_ifnull_f (pc := 67) dX11_restartMovement_67 ?_
        refine X_aload_n (pc := 70) (i := 2) 0 dX11_restartMovement_70 rfl rfl ?_
        obtain ⟨q10, c11, hf⟩ := bd_some hf
        refine X_invV_v (pc := 71) (c_Cr_restart hT hs9 c11) ok_Cr_restart (ci := 3) hs9 k_899 k_900 k_901 nd_1 (by decide) rfl (Nat.le_of_ble_eq_true rfl) dX11_restartMovement_71 ?_
        refine X_iinc (pc := 74) (i := 1) (q := 2) (v := (l1 + (1 : Int32))) [(1, .int (l1 + (1 : Int32))), (2, .ref (xB G + w7)), (0, .ref (xB G + 0))] dX11_restartMovement_74 rfl rfl (by decide) rfl ?_
        refine X_goto (pc := 77) 52 dX11_restartMovement_77 (by decide) ?_
        exact X_lvs [2, 0] rfl (ih hf)
def f_H_restartMovement_L17 (S : List xSh) (Rf : Nat → Nat → Option Nat) : Nat → Int32 → (Nat → Nat → Int32) → (Nat → Nat → Int64) → Option ((Nat → Nat → Int32) × (Nat → Nat → Int64))
  | 0, _, _, _ => none
  | n + 1, l1, I, L => (if (I 0 6) ≤ l1 then (f_H_restartMovement_L52 S Rf xF (0 : Int32) I L) else ((f_H_workAt S Rf l1 I L).bind fun q12 => (oc q12 (f_H_restartMovement_L17 S Rf n (l1 + (1 : Int32)) I L) fun w14 => (if S[w14]? = some (.inl 4) then ((f_Di_restart w14 (uI I w14 1 (0 : Int32)) L).bind fun q17 => (f_H_restartMovement_L17 S Rf n (l1 + (1 : Int32)) q17.1 q17.2)) else (if S[w14]? = some (.inl 1) then ((f_Ca_restart w14 (uI I w14 1 (0 : Int32)) L).bind fun q20 => (f_H_restartMovement_L17 S Rf n (l1 + (1 : Int32)) q20.1 q20.2)) else (if S[w14]? = some (.inl 8) then ((f_St_restart w14 (uI I w14 1 (0 : Int32)) L).bind fun q23 => (f_H_restartMovement_L17 S Rf n (l1 + (1 : Int32)) q23.1 q23.2)) else none))))))
set_option maxRecDepth 100000 in
set_option maxHeartbeats 4000000 in
theorem x_H_restartMovement_L17 {G : xG} {S : List xSh} {Rf : Nat → Nat → Option Nat} (hT : xT S Rf) : ∀ (n : Nat) {l1 : Int32} {I : Nat → Nat → Int32} {L : Nat → Nat → Int64} {q : ((Nat → Nat → Int32) × (Nat → Nat → Int64))}, f_H_restartMovement_L17 S Rf n l1 I L = some q → X G 4 m_H_restartMovement 17 [(0, .ref (xB G + 0)), (1, .int l1)] [] (S, I, L, Rf) (none, (S, q.1, q.2, Rf)) := by
  intro n
  induction n with
  | zero =>
    intro l1 I L q hf
    exact absurd (show none = some q from hf) (by simp)
  | succ n ih =>
    intro l1 I L q hf
    replace hf := (f_H_restartMovement_L17.eq_2 _ _ _ _ _ _).symm.trans hf
    refine X_iload_n (pc := 17) (i := 1) 1 dX11_restartMovement_17 rfl rfl ?_
    refine X_aload_n (pc := 18) (i := 0) 0 dX11_restartMovement_18 rfl rfl ?_
    refine X_get (pc := 19) (a := 0) (ci := 10) (j := 6) (.int (I 0 6)) (sh_0 hT) (by decide) k_383 rfl dX11_restartMovement_19 ?_
    by_cases c3 : (I 0 6) ≤ l1
    · replace hf := (if_pos c3).symm.trans hf
      refine X_icmp_ge_t (pc := 22) 50 dX11_restartMovement_22 (by decide) c3 ?_
      refine X_iconst (pc := 50) (0 : Int32) dX11_restartMovement_50 (by decide) ?_
      refine X_istore_n (pc := 51) (i := 1) [(1, .int (0 : Int32)), (0, .ref (xB G + 0))] dX11_restartMovement_51 rfl (by decide) rfl ?_
      exact X_lvs [1, 0] rfl (x_H_restartMovement_L52 hT xF hf)
    · replace hf := (if_neg c3).symm.trans hf
      refine X_icmp_ge_f (pc := 22) 50 dX11_restartMovement_22 (by decide) c3 ?_
      refine X_aload_n (pc := 25) (i := 0) 0 dX11_restartMovement_25 rfl rfl ?_
      refine X_iload_n (pc := 26) (i := 1) 1 dX11_restartMovement_26 rfl rfl ?_
      obtain ⟨q12, c13, hf⟩ := bd_some hf
      rcases oc_cases hf with ⟨hr15, hf⟩ | ⟨w14, hr15, hf⟩
      · rw [hr15] at c13
        refine X_invV_aN (pc := 27) (c_H_workAt hT c13) ok_H_workAt (ci := 10) (sh_0 hT) k_837 k_839 k_18 nd_24 (by decide) rfl (Nat.le_of_ble_eq_true rfl) dX11_restartMovement_27 ?_
        refine X_astore_nN (pc := 30) (i := 2) [(2, .null), (0, .ref (xB G + 0)), (1, .int l1)] dX11_restartMovement_30 rfl (by decide) rfl ?_
        refine X_aload_nN (pc := 31) (i := 2) 0 dX11_restartMovement_31 rfl rfl ?_
        refine X_ifnull_t (pc := 32) 44 dX11_restartMovement_32 (by decide) ?_
        refine X_iinc (pc := 44) (i := 1) (q := 2) (v := (l1 + (1 : Int32))) [(1, .int (l1 + (1 : Int32))), (2, .null), (0, .ref (xB G + 0))] dX11_restartMovement_44 rfl rfl (by decide) rfl ?_
        refine X_goto (pc := 47) 17 dX11_restartMovement_47 (by decide) ?_
        exact X_lvs [2, 0] rfl (ih hf)
      · rw [hr15] at c13
        refine X_invV_aS (pc := 27) (c_H_workAt hT c13) ok_H_workAt (ci := 10) (sh_0 hT) k_837 k_839 k_18 nd_24 (by decide) rfl (Nat.le_of_ble_eq_true rfl) dX11_restartMovement_27 ?_
        refine X_astore_n (pc := 30) (i := 2) [(2, .ref (xB G + w14)), (0, .ref (xB G + 0)), (1, .int l1)] dX11_restartMovement_30 rfl (by decide) rfl ?_
        refine X_aload_n (pc := 31) (i := 2) 0 dX11_restartMovement_31 rfl rfl ?_
        refine X_ifnull_f (pc := 32) dX11_restartMovement_32 ?_
        refine X_aload_n (pc := 35) (i := 2) 0 dX11_restartMovement_35 rfl rfl ?_
        refine X_iconst (pc := 36) (0 : Int32) dX11_restartMovement_36 (by decide) ?_
        by_cases hs16 : S[w14]? = some (.inl 4)
        · replace hf := (if_pos hs16).symm.trans hf
          refine X_puti (pc := 37) (a := w14) (ci := 4) (j := 1) false hs16 (by decide) k_528 rfl (fun h => by cases h) rfl dX11_restartMovement_37 ?_
          refine X_aload_n (pc := 40) (i := 2) 0 dX11_restartMovement_40 rfl rfl ?_
          obtain ⟨q17, c18, hf⟩ := bd_some hf
          refine X_invU_v (pc := 41) (c_Di_restart hT hs16 c18) ok_Di_restart (ci := 4) hs16 k_542 k_544 k_543 (by decide +kernel) k_555 k_554 nd_1 (by decide) rfl (Nat.le_of_ble_eq_true rfl) dX11_restartMovement_41 ?_
          refine X_iinc (pc := 44) (i := 1) (q := 2) (v := (l1 + (1 : Int32))) [(1, .int (l1 + (1 : Int32))), (2, .ref (xB G + w14)), (0, .ref (xB G + 0))] dX11_restartMovement_44 rfl rfl (by decide) rfl ?_
          refine X_goto (pc := 47) 17 dX11_restartMovement_47 (by decide) ?_
          exact X_lvs [2, 0] rfl (ih hf)
        · replace hf := (if_neg hs16).symm.trans hf
          by_cases hs19 : S[w14]? = some (.inl 1)
          · replace hf := (if_pos hs19).symm.trans hf
            refine X_puti (pc := 37) (a := w14) (ci := 1) (j := 1) false hs19 (by decide) k_528 rfl (fun h => by cases h) rfl dX11_restartMovement_37 ?_
            refine X_aload_n (pc := 40) (i := 2) 0 dX11_restartMovement_40 rfl rfl ?_
            obtain ⟨q20, c21, hf⟩ := bd_some hf
            refine X_invU_v (pc := 41) (c_Ca_restart hT hs19 c21) ok_Ca_restart (ci := 1) hs19 k_542 k_544 k_543 (by decide +kernel) k_546 k_545 nd_1 (by decide) rfl (Nat.le_of_ble_eq_true rfl) dX11_restartMovement_41 ?_
            refine X_iinc (pc := 44) (i := 1) (q := 2) (v := (l1 + (1 : Int32))) [(1, .int (l1 + (1 : Int32))), (2, .ref (xB G + w14)), (0, .ref (xB G + 0))] dX11_restartMovement_44 rfl rfl (by decide) rfl ?_
            refine X_goto (pc := 47) 17 dX11_restartMovement_47 (by decide) ?_
            exact X_lvs [2, 0] rfl (ih hf)
          · replace hf := (if_neg hs19).symm.trans hf
            obtain ⟨hs22, hf⟩ := gd_some hf
            refine X_puti (pc := 37) (a := w14) (ci := 8) (j := 1) false hs22 (by decide) k_528 rfl (fun h => by cases h) rfl dX11_restartMovement_37 ?_
            refine X_aload_n (pc := 40) (i := 2) 0 dX11_restartMovement_40 rfl rfl ?_
            obtain ⟨q23, c24, hf⟩ := bd_some hf
            refine X_invU_v (pc := 41) (c_St_restart hT hs22 c24) ok_St_restart (ci := 8) hs22 k_542 k_544 k_543 (by decide +kernel) k_558 k_557 nd_1 (by decide) rfl (Nat.le_of_ble_eq_true rfl) dX11_restartMovement_41 ?_
            refine X_iinc (pc := 44) (i := 1) (q := 2) (v := (l1 + (1 : Int32))) [(1, .int (l1 + (1 : Int32))), (2, .ref (xB G + w14)), (0, .ref (xB G + 0))] dX11_restartMovement_44 rfl rfl (by decide) rfl ?_
            refine X_goto (pc := 47) 17 dX11_restartMovement_47 (by decide) ?_
            exact X_lvs [2, 0] rfl (ih hf)
def f_H_restartMovement (S : List xSh) (Rf : Nat → Nat → Option Nat) (I : Nat → Nat → Int32) (L : Nat → Nat → Int64) : Option ((Nat → Nat → Int32) × (Nat → Nat → Int64)) := ((f_Es_restart I L).bind fun q1 => (f_H_restartMovement_L17 S Rf xF (0 : Int32) (uI q1.1 13 3 (0 : Int32)) q1.2))
set_option maxRecDepth 100000 in
set_option maxHeartbeats 4000000 in
theorem c_H_restartMovement {G : xG} {S : List xSh} {Rf : Nat → Nat → Option Nat} (hT : xT S Rf) {I : Nat → Nat → Int32} {L : Nat → Nat → Int64} {q : ((Nat → Nat → Int32) × (Nat → Nat → Int64))} (hf : f_H_restartMovement S Rf I L = some q) : CT G 4 m_H_restartMovement [.ref (xB G + 0)] (S, I, L, Rf) (none, (S, q.1, q.2, Rf)) := by
  refine CT.of (by decide +kernel) (Nat.le_of_ble_eq_true rfl) ?_
  show X G 4 m_H_restartMovement 0 [(0, .ref (xB G + 0))] [] (S, I, L, Rf) (none, (S, q.1, q.2, Rf))
  replace hf := (f_H_restartMovement.eq_1 _ _ _ _).symm.trans hf
  refine X_aload_n (pc := 0) (i := 0) 0 dX11_restartMovement_0 rfl rfl ?_
  refine X_getr (pc := 1) (a := 0) (ci := 10) (j := 0) (c := 1) (sh_0 hT) (by decide) k_377 (rf_0_0 hT) (fun _ h => h) dX11_restartMovement_1 ?_
  obtain ⟨q1, c2, hf⟩ := bd_some hf
  refine X_invV_v (pc := 4) (c_Es_restart hT c2) ok_Es_restart (ci := 5) (sh_1 hT) k_898 k_374 k_375 nd_1 (by decide) rfl (Nat.le_of_ble_eq_true rfl) dX11_restartMovement_4 ?_
  refine X_aload_n (pc := 7) (i := 0) 0 dX11_restartMovement_7 rfl rfl ?_
  refine X_getr (pc := 8) (a := 0) (ci := 10) (j := 4) (c := 13) (sh_0 hT) (by decide) k_381 (rf_0_4 hT) (fun _ h => h) dX11_restartMovement_8 ?_
  refine X_iconst (pc := 11) (0 : Int32) dX11_restartMovement_11 (by decide) ?_
  refine X_puti (pc := 12) (a := 13) (ci := 7) (j := 3) false (sh_13 hT) (by decide) k_161 rfl (fun h => by cases h) rfl dX11_restartMovement_12 ?_
  refine X_iconst (pc := 15) (0 : Int32) dX11_restartMovement_15 (by decide) ?_
  refine X_istore_n (pc := 16) (i := 1) [(1, .int (0 : Int32)), (0, .ref (xB G + 0))] dX11_restartMovement_16 rfl (by decide) rfl ?_
  exact X_lvs [1, 0] rfl (x_H_restartMovement_L17 hT xF hf)
theorem dX7_has_0 : decode cX7_has 0 = .ok (.iload_n 1, 1) := by decide +kernel
theorem dX7_has_1 : decode cX7_has 1 = .ok (.ifCond .lt 35, 3) := by decide +kernel
theorem dX7_has_4 : decode cX7_has 4 = .ok (.iload_n 1, 1) := by decide +kernel
theorem dX7_has_5 : decode cX7_has 5 = .ok (.aload_n 0, 1) := by decide +kernel
theorem dX7_has_6 : decode cX7_has 6 = .ok (.getfield 15, 3) := by decide +kernel
theorem dX7_has_9 : decode cX7_has 9 = .ok (.if_icmp .ge 27, 3) := by decide +kernel
theorem dX7_has_12 : decode cX7_has 12 = .ok (.iload_n 1, 1) := by decide +kernel
theorem dX7_has_13 : decode cX7_has 13 = .ok (.aload_n 0, 1) := by decide +kernel
theorem dX7_has_14 : decode cX7_has 14 = .ok (.getfield 22, 3) := by decide +kernel
theorem dX7_has_17 : decode cX7_has 17 = .ok (.if_icmp .ge 19, 3) := by decide +kernel
theorem dX7_has_20 : decode cX7_has 20 = .ok (.iload_n 2, 1) := by decide +kernel
theorem dX7_has_21 : decode cX7_has 21 = .ok (.ifCond .lt 15, 3) := by decide +kernel
theorem dX7_has_24 : decode cX7_has 24 = .ok (.iload_n 2, 1) := by decide +kernel
theorem dX7_has_25 : decode cX7_has 25 = .ok (.aload_n 0, 1) := by decide +kernel
theorem dX7_has_26 : decode cX7_has 26 = .ok (.getfield 9, 3) := by decide +kernel
theorem dX7_has_29 : decode cX7_has 29 = .ok (.if_icmp .ge 7, 3) := by decide +kernel
theorem dX7_has_32 : decode cX7_has 32 = .ok (.iconst 1, 1) := by decide +kernel
theorem dX7_has_33 : decode cX7_has 33 = .ok (.goto 4, 3) := by decide +kernel
theorem dX7_has_36 : decode cX7_has 36 = .ok (.iconst 0, 1) := by decide +kernel
theorem dX7_has_37 : decode cX7_has 37 = .ok (.ireturn, 1) := by decide +kernel
def f_Ro_has_15 (a0 : Int32) (a1 : Int32) (I : Nat → Nat → Int32) (L : Nat → Nat → Int64) : Int32 := (if a0 < (0 : Int32) then (0 : Int32) else (if (I 15 1) ≤ a0 then (0 : Int32) else (if (I 15 3) ≤ a0 then (0 : Int32) else (if a1 < (0 : Int32) then (0 : Int32) else (if (I 15 0) ≤ a1 then (0 : Int32) else (1 : Int32))))))
set_option maxRecDepth 100000 in
set_option maxHeartbeats 4000000 in
theorem c_Ro_has_15 {G : xG} {S : List xSh} {Rf : Nat → Nat → Option Nat} (hT : xT S Rf) {a0 : Int32} {a1 : Int32} {I : Nat → Nat → Int32} {L : Nat → Nat → Int64} {q : Int32} (hf : f_Ro_has_15 a0 a1 I L = q) : CT G 1 m_Ro_has [.ref (xB G + 15), .int a0, .int a1] (S, I, L, Rf) (some (.int q), (S, I, L, Rf)) := by
  refine CT.of (by decide +kernel) (Nat.le_of_ble_eq_true rfl) ?_
  show X G 1 m_Ro_has 0 [(0, .ref (xB G + 15)), (1, .int a0), (2, .int a1)] [] (S, I, L, Rf) (some (.int q), (S, I, L, Rf))
  replace hf := (f_Ro_has_15.eq_1 _ _ _ _).symm.trans hf
  refine X_iload_n (pc := 0) (i := 1) 1 dX7_has_0 rfl rfl ?_
  by_cases c1 : a0 < (0 : Int32)
  · replace hf := (if_pos c1).symm.trans hf
    refine X_if_lt_t (pc := 1) 36 dX7_has_1 (by decide) c1 ?_
    refine X_iconst (pc := 36) (0 : Int32) dX7_has_36 (by decide) ?_
    subst hf
    exact X_zreturn (pc := 37) rfl (nar_b (by decide)) dX7_has_37
  · replace hf := (if_neg c1).symm.trans hf
    refine X_if_lt_f (pc := 1) 36 dX7_has_1 (by decide) c1 ?_
    refine X_iload_n (pc := 4) (i := 1) 1 dX7_has_4 rfl rfl ?_
    refine X_aload_n (pc := 5) (i := 0) 0 dX7_has_5 rfl rfl ?_
    refine X_get (pc := 6) (a := 15) (ci := 7) (j := 1) (.int (I 15 1)) (sh_15 hT) (by decide) k_158 rfl dX7_has_6 ?_
    by_cases c2 : (I 15 1) ≤ a0
    · replace hf := (if_pos c2).symm.trans hf
      refine X_icmp_ge_t (pc := 9) 36 dX7_has_9 (by decide) c2 ?_
      refine X_iconst (pc := 36) (0 : Int32) dX7_has_36 (by decide) ?_
      subst hf
      exact X_zreturn (pc := 37) rfl (nar_b (by decide)) dX7_has_37
    · replace hf := (if_neg c2).symm.trans hf
      refine X_icmp_ge_f (pc := 9) 36 dX7_has_9 (by decide) c2 ?_
      refine X_iload_n (pc := 12) (i := 1) 1 dX7_has_12 rfl rfl ?_
      refine X_aload_n (pc := 13) (i := 0) 0 dX7_has_13 rfl rfl ?_
      refine X_get (pc := 14) (a := 15) (ci := 7) (j := 3) (.int (I 15 3)) (sh_15 hT) (by decide) k_160 rfl dX7_has_14 ?_
      by_cases c3 : (I 15 3) ≤ a0
      · replace hf := (if_pos c3).symm.trans hf
        refine X_icmp_ge_t (pc := 17) 36 dX7_has_17 (by decide) c3 ?_
        refine X_iconst (pc := 36) (0 : Int32) dX7_has_36 (by decide) ?_
        subst hf
        exact X_zreturn (pc := 37) rfl (nar_b (by decide)) dX7_has_37
      · replace hf := (if_neg c3).symm.trans hf
        refine X_icmp_ge_f (pc := 17) 36 dX7_has_17 (by decide) c3 ?_
        refine X_iload_n (pc := 20) (i := 2) 2 dX7_has_20 rfl rfl ?_
        by_cases c4 : a1 < (0 : Int32)
        · replace hf := (if_pos c4).symm.trans hf
          refine X_if_lt_t (pc := 21) 36 dX7_has_21 (by decide) c4 ?_
          refine X_iconst (pc := 36) (0 : Int32) dX7_has_36 (by decide) ?_
          subst hf
          exact X_zreturn (pc := 37) rfl (nar_b (by decide)) dX7_has_37
        · replace hf := (if_neg c4).symm.trans hf
          refine X_if_lt_f (pc := 21) 36 dX7_has_21 (by decide) c4 ?_
          refine X_iload_n (pc := 24) (i := 2) 2 dX7_has_24 rfl rfl ?_
          refine X_aload_n (pc := 25) (i := 0) 0 dX7_has_25 rfl rfl ?_
          refine X_get (pc := 26) (a := 15) (ci := 7) (j := 0) (.int (I 15 0)) (sh_15 hT) (by decide) k_157 rfl dX7_has_26 ?_
          by_cases c5 : (I 15 0) ≤ a1
          · replace hf := (if_pos c5).symm.trans hf
            refine X_icmp_ge_t (pc := 29) 36 dX7_has_29 (by decide) c5 ?_
            refine X_iconst (pc := 36) (0 : Int32) dX7_has_36 (by decide) ?_
            subst hf
            exact X_zreturn (pc := 37) rfl (nar_b (by decide)) dX7_has_37
          · replace hf := (if_neg c5).symm.trans hf
            refine X_icmp_ge_f (pc := 29) 36 dX7_has_29 (by decide) c5 ?_
            refine X_iconst (pc := 32) (1 : Int32) dX7_has_32 (by decide) ?_
            refine X_goto (pc := 33) 37 dX7_has_33 (by decide) ?_
            subst hf
            exact X_zreturn (pc := 37) rfl (nar_b (by decide)) dX7_has_37
theorem dX7_at_0 : decode cX7_at 0 = .ok (.aload_n 0, 1) := by decide +kernel
theorem dX7_at_1 : decode cX7_at 1 = .ok (.iload_n 1, 1) := by decide +kernel
theorem dX7_at_2 : decode cX7_at 2 = .ok (.iload_n 2, 1) := by decide +kernel
theorem dX7_at_3 : decode cX7_at 3 = .ok (.invokevirtual 25, 3) := by decide +kernel
theorem dX7_at_6 : decode cX7_at 6 = .ok (.ifCond .eq 19, 3) := by decide +kernel
theorem dX7_at_9 : decode cX7_at 9 = .ok (.aload_n 0, 1) := by decide +kernel
theorem dX7_at_10 : decode cX7_at 10 = .ok (.getfield 18, 3) := by decide +kernel
theorem dX7_at_13 : decode cX7_at 13 = .ok (.iload_n 1, 1) := by decide +kernel
theorem dX7_at_14 : decode cX7_at 14 = .ok (.aload_n 0, 1) := by decide +kernel
theorem dX7_at_15 : decode cX7_at 15 = .ok (.getfield 9, 3) := by decide +kernel
theorem dX7_at_18 : decode cX7_at 18 = .ok (.imul, 1) := by decide +kernel
theorem dX7_at_19 : decode cX7_at 19 = .ok (.iload_n 2, 1) := by decide +kernel
theorem dX7_at_20 : decode cX7_at 20 = .ok (.iadd, 1) := by decide +kernel
theorem dX7_at_21 : decode cX7_at 21 = .ok (.iaload, 1) := by decide +kernel
theorem dX7_at_22 : decode cX7_at 22 = .ok (.goto 4, 3) := by decide +kernel
theorem dX7_at_25 : decode cX7_at 25 = .ok (.iconst (-1), 1) := by decide +kernel
theorem dX7_at_26 : decode cX7_at 26 = .ok (.ireturn, 1) := by decide +kernel
def f_Ro_at_15 (a0 : Int32) (a1 : Int32) (I : Nat → Nat → Int32) (L : Nat → Nat → Int64) : Option Int32 := (if (f_Ro_has_15 a0 a1 I L) = (0 : Int32) then (some (-1 : Int32)) else (if (0 ≤ ((a0 * (I 15 0)) + a1) ∧ ((a0 * (I 15 0)) + a1) < (8000 : Int32)) then (some (I 16 (((a0 * (I 15 0)) + a1).toNatClampNeg))) else none))
set_option maxRecDepth 100000 in
set_option maxHeartbeats 4000000 in
theorem c_Ro_at_15 {G : xG} {S : List xSh} {Rf : Nat → Nat → Option Nat} (hT : xT S Rf) {a0 : Int32} {a1 : Int32} {I : Nat → Nat → Int32} {L : Nat → Nat → Int64} {q : Int32} (hf : f_Ro_at_15 a0 a1 I L = some q) : CT G 2 m_Ro_at [.ref (xB G + 15), .int a0, .int a1] (S, I, L, Rf) (some (.int q), (S, I, L, Rf)) := by
  refine CT.of (by decide +kernel) (Nat.le_of_ble_eq_true rfl) ?_
  show X G 2 m_Ro_at 0 [(0, .ref (xB G + 15)), (1, .int a0), (2, .int a1)] [] (S, I, L, Rf) (some (.int q), (S, I, L, Rf))
  replace hf := (f_Ro_at_15.eq_1 _ _ _ _).symm.trans hf
  refine X_aload_n (pc := 0) (i := 0) 0 dX7_at_0 rfl rfl ?_
  refine X_iload_n (pc := 1) (i := 1) 1 dX7_at_1 rfl rfl ?_
  refine X_iload_n (pc := 2) (i := 2) 2 dX7_at_2 rfl rfl ?_
  refine X_invV_i (pc := 3) (c_Ro_has_15 hT rfl) ok_Ro_has (ci := 7) (sh_15 hT) k_911 k_912 k_913 nd_25 (by decide) rfl (Nat.le_of_ble_eq_true rfl) dX7_at_3 ?_
  by_cases c1 : (f_Ro_has_15 a0 a1 I L) = (0 : Int32)
  · replace hf := (if_pos c1).symm.trans hf
    refine X_if_eq_t (pc := 6) 25 dX7_at_6 (by decide) c1 ?_
    refine X_iconst (pc := 25) (-1 : Int32) dX7_at_25 (by decide) ?_
    cases hf
    exact X_ireturn (pc := 26) rfl dX7_at_26
  · replace hf := (if_neg c1).symm.trans hf
    refine X_if_eq_f (pc := 6) 25 dX7_at_6 (by decide) c1 ?_
    refine X_aload_n (pc := 9) (i := 0) 0 dX7_at_9 rfl rfl ?_
    refine X_getr (pc := 10) (a := 15) (ci := 7) (j := 2) (c := 16) (sh_15 hT) (by decide) k_159 (rf_15_2 hT) (fun _ h => h) dX7_at_10 ?_
    refine X_iload_n (pc := 13) (i := 1) 1 dX7_at_13 rfl rfl ?_
    refine X_aload_n (pc := 14) (i := 0) 0 dX7_at_14 rfl rfl ?_
    refine X_get (pc := 15) (a := 15) (ci := 7) (j := 0) (.int (I 15 0)) (sh_15 hT) (by decide) k_157 rfl dX7_at_15 ?_
    refine X_imul (pc := 18) dX7_at_18 ?_
    refine X_iload_n (pc := 19) (i := 2) 2 dX7_at_19 rfl rfl ?_
    refine X_iadd (pc := 20) dX7_at_20 ?_
    obtain ⟨c2, hf⟩ := gd_some hf
    refine X_ialdj (pc := 21) (j := ((a0 * (I 15 0)) + a1).toNatClampNeg) (I 16 (((a0 * (I 15 0)) + a1).toNatClampNeg)) (sh_16 hT) (vp_in_lit (N := 8000) c2 (by decide)) rfl rfl dX7_at_21 ?_
    refine X_goto (pc := 22) 26 dX7_at_22 (by decide) ?_
    cases hf
    exact X_ireturn (pc := 26) rfl dX7_at_26
theorem dX11_pushButton_0 : decode cX11_pushButton 0 = .ok (.aload_n 0, 1) := by decide +kernel
theorem dX11_pushButton_1 : decode cX11_pushButton 1 = .ok (.iload_n 1, 1) := by decide +kernel
theorem dX11_pushButton_2 : decode cX11_pushButton 2 = .ok (.invokevirtual 176, 3) := by decide +kernel
theorem dX11_pushButton_5 : decode cX11_pushButton 5 = .ok (.astore_n 3, 1) := by decide +kernel
theorem dX11_pushButton_6 : decode cX11_pushButton 6 = .ok (.aload_n 3, 1) := by decide +kernel
theorem dX11_pushButton_7 : decode cX11_pushButton 7 = .ok (.ifnonnull 7, 3) := by decide +kernel
theorem dX11_pushButton_10 : decode cX11_pushButton 10 = .ok (.iconst (-1), 1) := by decide +kernel
theorem dX11_pushButton_11 : decode cX11_pushButton 11 = .ok (.goto 8, 3) := by decide +kernel
theorem dX11_pushButton_14 : decode cX11_pushButton 14 = .ok (.aload_n 3, 1) := by decide +kernel
theorem dX11_pushButton_15 : decode cX11_pushButton 15 = .ok (.iload_n 2, 1) := by decide +kernel
theorem dX11_pushButton_16 : decode cX11_pushButton 16 = .ok (.invokevirtual 183, 3) := by decide +kernel
theorem dX11_pushButton_19 : decode cX11_pushButton 19 = .ok (.ireturn, 1) := by decide +kernel
def f_H_pushButton (S : List xSh) (Rf : Nat → Nat → Option Nat) (a0 : Int32) (a1 : Int32) (I : Nat → Nat → Int32) (L : Nat → Nat → Int64) : Option (Int32 × (Nat → Nat → Int32) × (Nat → Nat → Int64)) := ((f_H_chronographAt S Rf a0 I L).bind fun q1 => (oc q1 (some ((-1 : Int32), I, L)) fun w3 => (if S[w3]? = some (.inl 3) then ((f_Cr_push w3 a1 I L).bind fun q6 => (some (q6.1, q6.2.1, q6.2.2))) else none)))
set_option maxRecDepth 100000 in
set_option maxHeartbeats 4000000 in
theorem c_H_pushButton {G : xG} {S : List xSh} {Rf : Nat → Nat → Option Nat} (hT : xT S Rf) {a0 : Int32} {a1 : Int32} {I : Nat → Nat → Int32} {L : Nat → Nat → Int64} {q : (Int32 × (Nat → Nat → Int32) × (Nat → Nat → Int64))} (hf : f_H_pushButton S Rf a0 a1 I L = some q) : CT G 3 m_H_pushButton [.ref (xB G + 0), .int a0, .int a1] (S, I, L, Rf) (some (.int q.1), (S, q.2.1, q.2.2, Rf)) := by
  refine CT.of (by decide +kernel) (Nat.le_of_ble_eq_true rfl) ?_
  show X G 3 m_H_pushButton 0 [(0, .ref (xB G + 0)), (1, .int a0), (2, .int a1)] [] (S, I, L, Rf) (some (.int q.1), (S, q.2.1, q.2.2, Rf))
  replace hf := (f_H_pushButton.eq_1 _ _ _ _ _ _).symm.trans hf
  refine X_aload_n (pc := 0) (i := 0) 0 dX11_pushButton_0 rfl rfl ?_
  refine X_iload_n (pc := 1) (i := 1) 1 dX11_pushButton_1 rfl rfl ?_
  obtain ⟨q1, c2, hf⟩ := bd_some hf
  rcases oc_cases hf with ⟨hr4, hf⟩ | ⟨w3, hr4, hf⟩
  · rw [hr4] at c2
    refine X_invV_aN (pc := 2) (c_H_chronographAt hT c2) ok_H_chronographAt (ci := 10) (sh_0 hT) k_821 k_823 k_17 nd_23 (by decide) rfl (Nat.le_of_ble_eq_true rfl) dX11_pushButton_2 ?_
    refine X_astore_nN (pc := 5) (i := 3) [(3, .null), (0, .ref (xB G + 0)), (1, .int a0), (2, .int a1)] dX11_pushButton_5 rfl (by decide) rfl ?_
    refine X_aload_nN (pc := 6) (i := 3) 0 dX11_pushButton_6 rfl rfl ?_
    refine X_ifnonnull_f (pc := 7) dX11_pushButton_7 ?_
    refine X_iconst (pc := 10) (-1 : Int32) dX11_pushButton_10 (by decide) ?_
    refine X_goto (pc := 11) 19 dX11_pushButton_11 (by decide) ?_
    cases hf
    exact X_ireturn (pc := 19) rfl dX11_pushButton_19
  · obtain ⟨hs5, hf⟩ := gd_some hf
    rw [hr4] at c2
    refine X_invV_aS (pc := 2) (c_H_chronographAt hT c2) ok_H_chronographAt (ci := 10) (sh_0 hT) k_821 k_823 k_17 nd_23 (by decide) rfl (Nat.le_of_ble_eq_true rfl) dX11_pushButton_2 ?_
    refine X_astore_n (pc := 5) (i := 3) [(3, .ref (xB G + w3)), (0, .ref (xB G + 0)), (1, .int a0), (2, .int a1)] dX11_pushButton_5 rfl (by decide) rfl ?_
    refine X_aload_n (pc := 6) (i := 3) 0 dX11_pushButton_6 rfl rfl ?_
    refine X_ifnonnull_t (pc := 7) 14 dX11_pushButton_7 (by decide) ?_
    refine X_aload_n (pc := 14) (i := 3) 0 dX11_pushButton_14 rfl rfl ?_
    refine X_iload_n (pc := 15) (i := 2) 3 dX11_pushButton_15 rfl rfl ?_
    obtain ⟨q6, c7, hf⟩ := bd_some hf
    refine X_invV_i (pc := 16) (c_Cr_push hT hs5 c7) ok_Cr_push (ci := 3) hs5 k_829 k_830 k_831 nd_8 (by decide) rfl (Nat.le_of_ble_eq_true rfl) dX11_pushButton_16 ?_
    cases hf
    exact X_ireturn (pc := 19) rfl dX11_pushButton_19
theorem dX11_repeat_0 : decode cX11_repeat 0 = .ok (.aload_n 0, 1) := by decide +kernel
theorem dX11_repeat_1 : decode cX11_repeat 1 = .ok (.getfield 42, 3) := by decide +kernel
theorem dX11_repeat_4 : decode cX11_repeat 4 = .ok (.iload_n 1, 1) := by decide +kernel
theorem dX11_repeat_5 : decode cX11_repeat 5 = .ok (.iconst 1, 1) := by decide +kernel
theorem dX11_repeat_6 : decode cX11_repeat 6 = .ok (.invokevirtual 253, 3) := by decide +kernel
theorem dX11_repeat_9 : decode cX11_repeat 9 = .ok (.istore_n 2, 1) := by decide +kernel
theorem dX11_repeat_10 : decode cX11_repeat 10 = .ok (.aload_n 0, 1) := by decide +kernel
theorem dX11_repeat_11 : decode cX11_repeat 11 = .ok (.getfield 42, 3) := by decide +kernel
theorem dX11_repeat_14 : decode cX11_repeat 14 = .ok (.iload_n 1, 1) := by decide +kernel
theorem dX11_repeat_15 : decode cX11_repeat 15 = .ok (.iconst 2, 1) := by decide +kernel
theorem dX11_repeat_16 : decode cX11_repeat 16 = .ok (.invokevirtual 253, 3) := by decide +kernel
theorem dX11_repeat_19 : decode cX11_repeat 19 = .ok (.istore_n 3, 1) := by decide +kernel
theorem dX11_repeat_20 : decode cX11_repeat 20 = .ok (.aload_n 0, 1) := by decide +kernel
theorem dX11_repeat_21 : decode cX11_repeat 21 = .ok (.getfield 42, 3) := by decide +kernel
theorem dX11_repeat_24 : decode cX11_repeat 24 = .ok (.iload_n 1, 1) := by decide +kernel
theorem dX11_repeat_25 : decode cX11_repeat 25 = .ok (.iconst 0, 1) := by decide +kernel
theorem dX11_repeat_26 : decode cX11_repeat 26 = .ok (.invokevirtual 253, 3) := by decide +kernel
theorem dX11_repeat_29 : decode cX11_repeat 29 = .ok (.tableswitch 92 0 5 #[39, 45, 54, 63, 70, 86], 39) := by decide +kernel
theorem dX11_repeat_68 : decode cX11_repeat 68 = .ok (.aload_n 0, 1) := by decide +kernel
theorem dX11_repeat_69 : decode cX11_repeat 69 = .ok (.iload_n 2, 1) := by decide +kernel
theorem dX11_repeat_70 : decode cX11_repeat 70 = .ok (.invokevirtual 161, 3) := by decide +kernel
theorem dX11_repeat_73 : decode cX11_repeat 73 = .ok (.ireturn, 1) := by decide +kernel
theorem dX11_repeat_74 : decode cX11_repeat 74 = .ok (.aload_n 0, 1) := by decide +kernel
theorem dX11_repeat_75 : decode cX11_repeat 75 = .ok (.getfield 10, 3) := by decide +kernel
theorem dX11_repeat_78 : decode cX11_repeat 78 = .ok (.iload_n 2, 1) := by decide +kernel
theorem dX11_repeat_79 : decode cX11_repeat 79 = .ok (.invokevirtual 166, 3) := by decide +kernel
theorem dX11_repeat_82 : decode cX11_repeat 82 = .ok (.ireturn, 1) := by decide +kernel
theorem dX11_repeat_83 : decode cX11_repeat 83 = .ok (.aload_n 0, 1) := by decide +kernel
theorem dX11_repeat_84 : decode cX11_repeat 84 = .ok (.getfield 10, 3) := by decide +kernel
theorem dX11_repeat_87 : decode cX11_repeat 87 = .ok (.iload_n 2, 1) := by decide +kernel
theorem dX11_repeat_88 : decode cX11_repeat 88 = .ok (.invokevirtual 173, 3) := by decide +kernel
theorem dX11_repeat_91 : decode cX11_repeat 91 = .ok (.ireturn, 1) := by decide +kernel
theorem dX11_repeat_92 : decode cX11_repeat 92 = .ok (.aload_n 0, 1) := by decide +kernel
theorem dX11_repeat_93 : decode cX11_repeat 93 = .ok (.iload_n 2, 1) := by decide +kernel
theorem dX11_repeat_94 : decode cX11_repeat 94 = .ok (.iload_n 3, 1) := by decide +kernel
theorem dX11_repeat_95 : decode cX11_repeat 95 = .ok (.invokevirtual 380, 3) := by decide +kernel
theorem dX11_repeat_98 : decode cX11_repeat 98 = .ok (.ireturn, 1) := by decide +kernel
theorem dX11_repeat_99 : decode cX11_repeat 99 = .ok (.aload_n 0, 1) := by decide +kernel
theorem dX11_repeat_100 : decode cX11_repeat 100 = .ok (.iload_n 2, 1) := by decide +kernel
theorem dX11_repeat_101 : decode cX11_repeat 101 = .ok (.iload_n 3, 1) := by decide +kernel
theorem dX11_repeat_102 : decode cX11_repeat 102 = .ok (.aload_n 0, 1) := by decide +kernel
theorem dX11_repeat_103 : decode cX11_repeat 103 = .ok (.getfield 42, 3) := by decide +kernel
theorem dX11_repeat_106 : decode cX11_repeat 106 = .ok (.iload_n 1, 1) := by decide +kernel
theorem dX11_repeat_107 : decode cX11_repeat 107 = .ok (.iconst 3, 1) := by decide +kernel
theorem dX11_repeat_108 : decode cX11_repeat 108 = .ok (.invokevirtual 253, 3) := by decide +kernel
theorem dX11_repeat_111 : decode cX11_repeat 111 = .ok (.invokevirtual 196, 3) := by decide +kernel
theorem dX11_repeat_114 : decode cX11_repeat 114 = .ok (.ireturn, 1) := by decide +kernel
theorem dX11_repeat_115 : decode cX11_repeat 115 = .ok (.aload_n 0, 1) := by decide +kernel
theorem dX11_repeat_116 : decode cX11_repeat 116 = .ok (.iload_n 2, 1) := by decide +kernel
theorem dX11_repeat_117 : decode cX11_repeat 117 = .ok (.invokevirtual 200, 3) := by decide +kernel
theorem dX11_repeat_120 : decode cX11_repeat 120 = .ok (.ireturn, 1) := by decide +kernel
theorem dX11_repeat_121 : decode cX11_repeat 121 = .ok (.iconst (-1), 1) := by decide +kernel
theorem dX11_repeat_122 : decode cX11_repeat 122 = .ok (.ireturn, 1) := by decide +kernel
def f_H_repeat (S : List xSh) (Rf : Nat → Nat → Option Nat) (a0 : Int32) (I : Nat → Nat → Int32) (L : Nat → Nat → Int64) : Option (Int32 × (Nat → Nat → Int32) × (Nat → Nat → Int64)) := ((f_Ro_at_15 a0 (1 : Int32) I L).bind fun q1 => ((f_Ro_at_15 a0 (2 : Int32) I L).bind fun q3 => ((f_Ro_at_15 a0 (0 : Int32) I L).bind fun q5 => (if q5 = (0 : Int32) then ((f_H_takeSteps S Rf q1 I L).bind fun q13 => (some (q13.1, q13.2.1, q13.2.2))) else (if q5 = (1 : Int32) then ((f_Es_push q1 I L).bind fun q15 => (some (q15.1, q15.2.1, q15.2.2))) else (if q5 = (2 : Int32) then ((f_Es_windUp q1 I L).bind fun q17 => (some (q17.1, q17.2.1, q17.2.2))) else (if q5 = (3 : Int32) then ((f_H_pushButton S Rf q1 q3 I L).bind fun q19 => (some (q19.1, q19.2.1, q19.2.2))) else (if q5 = (4 : Int32) then ((f_Ro_at_15 a0 (3 : Int32) I L).bind fun q21 => ((f_H_putRight S Rf q1 q3 q21 I L).bind fun q23 => (some (q23.1, q23.2.1, q23.2.2)))) else (if q5 = (5 : Int32) then ((f_H_strikeNow S Rf q1 I L).bind fun q25 => (some (q25.1, q25.2.1, q25.2.2))) else (some ((-1 : Int32), I, L)))))))))))
set_option maxRecDepth 100000 in
set_option maxHeartbeats 4000000 in
theorem c_H_repeat {G : xG} {S : List xSh} {Rf : Nat → Nat → Option Nat} (hT : xT S Rf) {a0 : Int32} {I : Nat → Nat → Int32} {L : Nat → Nat → Int64} {q : (Int32 × (Nat → Nat → Int32) × (Nat → Nat → Int64))} (hf : f_H_repeat S Rf a0 I L = some q) : CT G 6 m_H_repeat [.ref (xB G + 0), .int a0] (S, I, L, Rf) (some (.int q.1), (S, q.2.1, q.2.2, Rf)) := by
  refine CT.of (by decide +kernel) (Nat.le_of_ble_eq_true rfl) ?_
  show X G 6 m_H_repeat 0 [(0, .ref (xB G + 0)), (1, .int a0)] [] (S, I, L, Rf) (some (.int q.1), (S, q.2.1, q.2.2, Rf))
  replace hf := (f_H_repeat.eq_1 _ _ _ _ _).symm.trans hf
  refine X_aload_n (pc := 0) (i := 0) 0 dX11_repeat_0 rfl rfl ?_
  refine X_getr (pc := 1) (a := 0) (ci := 10) (j := 5) (c := 15) (sh_0 hT) (by decide) k_382 (rf_0_5 hT) (fun _ h => h) dX11_repeat_1 ?_
  refine X_iload_n (pc := 4) (i := 1) 1 dX11_repeat_4 rfl rfl ?_
  refine X_iconst (pc := 5) (1 : Int32) dX11_repeat_5 (by decide) ?_
  obtain ⟨q1, c2, hf⟩ := bd_some hf
  refine X_invV_i (pc := 6) (c_Ro_at_15 hT c2) ok_Ro_at (ci := 7) (sh_15 hT) k_907 k_908 k_909 nd_22 (by decide) rfl (Nat.le_of_ble_eq_true rfl) dX11_repeat_6 ?_
  refine X_istore_n (pc := 9) (i := 2) [(2, .int q1), (0, .ref (xB G + 0)), (1, .int a0)] dX11_repeat_9 rfl (by decide) rfl ?_
  refine X_aload_n (pc := 10) (i := 0) 1 dX11_repeat_10 rfl rfl ?_
  refine X_getr (pc := 11) (a := 0) (ci := 10) (j := 5) (c := 15) (sh_0 hT) (by decide) k_382 (rf_0_5 hT) (fun _ h => h) dX11_repeat_11 ?_
  refine X_iload_n (pc := 14) (i := 1) 2 dX11_repeat_14 rfl rfl ?_
  refine X_iconst (pc := 15) (2 : Int32) dX11_repeat_15 (by decide) ?_
  obtain ⟨q3, c4, hf⟩ := bd_some hf
  refine X_invV_i (pc := 16) (c_Ro_at_15 hT c4) ok_Ro_at (ci := 7) (sh_15 hT) k_907 k_908 k_909 nd_22 (by decide) rfl (Nat.le_of_ble_eq_true rfl) dX11_repeat_16 ?_
  refine X_istore_n (pc := 19) (i := 3) [(3, .int q3), (2, .int q1), (0, .ref (xB G + 0)), (1, .int a0)] dX11_repeat_19 rfl (by decide) rfl ?_
  refine X_aload_n (pc := 20) (i := 0) 2 dX11_repeat_20 rfl rfl ?_
  refine X_getr (pc := 21) (a := 0) (ci := 10) (j := 5) (c := 15) (sh_0 hT) (by decide) k_382 (rf_0_5 hT) (fun _ h => h) dX11_repeat_21 ?_
  refine X_iload_n (pc := 24) (i := 1) 3 dX11_repeat_24 rfl rfl ?_
  refine X_iconst (pc := 25) (0 : Int32) dX11_repeat_25 (by decide) ?_
  obtain ⟨q5, c6, hf⟩ := bd_some hf
  refine X_invV_i (pc := 26) (c_Ro_at_15 hT c6) ok_Ro_at (ci := 7) (sh_15 hT) k_907 k_908 k_909 nd_22 (by decide) rfl (Nat.le_of_ble_eq_true rfl) dX11_repeat_26 ?_
  by_cases c7 : q5 = (0 : Int32)
  · replace hf := (if_pos c7).symm.trans hf
    refine X_tabIn (pc := 29) (off := 39) (0) 68 dX11_repeat_29 (by rw [c7]; rfl) (by decide) ?_
    refine X_aload_n (pc := 68) (i := 0) 2 dX11_repeat_68 rfl rfl ?_
    refine X_iload_n (pc := 69) (i := 2) 1 dX11_repeat_69 rfl rfl ?_
    obtain ⟨q13, c14, hf⟩ := bd_some hf
    refine X_invV_i (pc := 70) (c_H_takeSteps hT c14) ok_H_takeSteps (ci := 10) (sh_0 hT) k_702 k_704 k_11 nd_8 (by decide) rfl (Nat.le_of_ble_eq_true rfl) dX11_repeat_70 ?_
    cases hf
    exact X_ireturn (pc := 73) rfl dX11_repeat_73
  · replace hf := (if_neg c7).symm.trans hf
    by_cases c8 : q5 = (1 : Int32)
    · replace hf := (if_pos c8).symm.trans hf
      refine X_tabIn (pc := 29) (off := 45) (1) 74 dX11_repeat_29 (by rw [c8]; rfl) (by decide) ?_
      refine X_aload_n (pc := 74) (i := 0) 2 dX11_repeat_74 rfl rfl ?_
      refine X_getr (pc := 75) (a := 0) (ci := 10) (j := 0) (c := 1) (sh_0 hT) (by decide) k_377 (rf_0_0 hT) (fun _ h => h) dX11_repeat_75 ?_
      refine X_iload_n (pc := 78) (i := 2) 1 dX11_repeat_78 rfl rfl ?_
      obtain ⟨q15, c16, hf⟩ := bd_some hf
      refine X_invV_i (pc := 79) (c_Es_push hT c16) ok_Es_push (ci := 5) (sh_1 hT) k_803 k_804 k_805 nd_8 (by decide) rfl (Nat.le_of_ble_eq_true rfl) dX11_repeat_79 ?_
      cases hf
      exact X_ireturn (pc := 82) rfl dX11_repeat_82
    · replace hf := (if_neg c8).symm.trans hf
      by_cases c9 : q5 = (2 : Int32)
      · replace hf := (if_pos c9).symm.trans hf
        refine X_tabIn (pc := 29) (off := 54) (2) 83 dX11_repeat_29 (by rw [c9]; rfl) (by decide) ?_
        refine X_aload_n (pc := 83) (i := 0) 2 dX11_repeat_83 rfl rfl ?_
        refine X_getr (pc := 84) (a := 0) (ci := 10) (j := 0) (c := 1) (sh_0 hT) (by decide) k_377 (rf_0_0 hT) (fun _ h => h) dX11_repeat_84 ?_
        refine X_iload_n (pc := 87) (i := 2) 1 dX11_repeat_87 rfl rfl ?_
        obtain ⟨q17, c18, hf⟩ := bd_some hf
        refine X_invV_i (pc := 88) (c_Es_windUp hT c18) ok_Es_windUp (ci := 5) (sh_1 hT) k_813 k_814 k_815 nd_8 (by decide) rfl (Nat.le_of_ble_eq_true rfl) dX11_repeat_88 ?_
        cases hf
        exact X_ireturn (pc := 91) rfl dX11_repeat_91
      · replace hf := (if_neg c9).symm.trans hf
        by_cases c10 : q5 = (3 : Int32)
        · replace hf := (if_pos c10).symm.trans hf
          refine X_tabIn (pc := 29) (off := 63) (3) 92 dX11_repeat_29 (by rw [c10]; rfl) (by decide) ?_
          refine X_aload_n (pc := 92) (i := 0) 2 dX11_repeat_92 rfl rfl ?_
          refine X_iload_n (pc := 93) (i := 2) 1 dX11_repeat_93 rfl rfl ?_
          refine X_iload_n (pc := 94) (i := 3) 0 dX11_repeat_94 rfl rfl ?_
          obtain ⟨q19, c20, hf⟩ := bd_some hf
          refine X_invV_i (pc := 95) (c_H_pushButton hT c20) ok_H_pushButton (ci := 10) (sh_0 hT) k_915 k_917 k_24 nd_22 (by decide) rfl (Nat.le_of_ble_eq_true rfl) dX11_repeat_95 ?_
          cases hf
          exact X_ireturn (pc := 98) rfl dX11_repeat_98
        · replace hf := (if_neg c10).symm.trans hf
          by_cases c11 : q5 = (4 : Int32)
          · replace hf := (if_pos c11).symm.trans hf
            refine X_tabIn (pc := 29) (off := 70) (4) 99 dX11_repeat_29 (by rw [c11]; rfl) (by decide) ?_
            refine X_aload_n (pc := 99) (i := 0) 2 dX11_repeat_99 rfl rfl ?_
            refine X_iload_n (pc := 100) (i := 2) 1 dX11_repeat_100 rfl rfl ?_
            refine X_iload_n (pc := 101) (i := 3) 0 dX11_repeat_101 rfl rfl ?_
            refine X_aload_n (pc := 102) (i := 0) 2 dX11_repeat_102 rfl rfl ?_
            refine X_getr (pc := 103) (a := 0) (ci := 10) (j := 5) (c := 15) (sh_0 hT) (by decide) k_382 (rf_0_5 hT) (fun _ h => h) dX11_repeat_103 ?_
            refine X_iload_n (pc := 106) (i := 1) 3 dX11_repeat_106 rfl rfl ?_
            refine X_iconst (pc := 107) (3 : Int32) dX11_repeat_107 (by decide) ?_
            obtain ⟨q21, c22, hf⟩ := bd_some hf
            refine X_invV_i (pc := 108) (c_Ro_at_15 hT c22) ok_Ro_at (ci := 7) (sh_15 hT) k_907 k_908 k_909 nd_22 (by decide) rfl (Nat.le_of_ble_eq_true rfl) dX11_repeat_108 ?_
            obtain ⟨q23, c24, hf⟩ := bd_some hf
            refine X_invV_i (pc := 111) (c_H_putRight hT c24) ok_H_putRight (ci := 10) (sh_0 hT) k_865 k_867 k_20 nd_15 (by decide) rfl (Nat.le_of_ble_eq_true rfl) dX11_repeat_111 ?_
            cases hf
            exact X_ireturn (pc := 114) rfl dX11_repeat_114
          · replace hf := (if_neg c11).symm.trans hf
            by_cases c12 : q5 = (5 : Int32)
            · replace hf := (if_pos c12).symm.trans hf
              refine X_tabIn (pc := 29) (off := 86) (5) 115 dX11_repeat_29 (by rw [c12]; rfl) (by decide) ?_
              refine X_aload_n (pc := 115) (i := 0) 2 dX11_repeat_115 rfl rfl ?_
              refine X_iload_n (pc := 116) (i := 2) 1 dX11_repeat_116 rfl rfl ?_
              obtain ⟨q25, c26, hf⟩ := bd_some hf
              refine X_invV_i (pc := 117) (c_H_strikeNow hT c26) ok_H_strikeNow (ci := 10) (sh_0 hT) k_885 k_887 k_21 nd_8 (by decide) rfl (Nat.le_of_ble_eq_true rfl) dX11_repeat_117 ?_
              cases hf
              exact X_ireturn (pc := 120) rfl dX11_repeat_120
            · replace hf := (if_neg c12).symm.trans hf
              refine X_tabOut (pc := 29) 121 dX11_repeat_29 (by have zc7 := lv_neT (a := 0) c7 rfl; have zc8 := lv_neT (a := 1) c8 rfl; have zc9 := lv_neT (a := 2) c9 rfl; have zc10 := lv_neT (a := 3) c10 rfl; have zc11 := lv_neT (a := 4) c11 rfl; have zc12 := lv_neT (a := 5) c12 rfl; omega) (by decide) ?_
              refine X_iconst (pc := 121) (-1 : Int32) dX11_repeat_121 (by decide) ?_
              cases hf
              exact X_ireturn (pc := 122) rfl dX11_repeat_122
theorem dX11_back_0 : decode cX11_back 0 = .ok (.iload_n 1, 1) := by decide +kernel
theorem dX11_back_1 : decode cX11_back 1 = .ok (.iconst 0, 1) := by decide +kernel
theorem dX11_back_2 : decode cX11_back 2 = .ok (.aload_n 0, 1) := by decide +kernel
theorem dX11_back_3 : decode cX11_back 3 = .ok (.getfield 42, 3) := by decide +kernel
theorem dX11_back_6 : decode cX11_back 6 = .ok (.getfield 73, 3) := by decide +kernel
theorem dX11_back_9 : decode cX11_back 9 = .ok (.invokestatic 91, 3) := by decide +kernel
theorem dX11_back_12 : decode cX11_back 12 = .ok (.ifCond .ne 5, 3) := by decide +kernel
theorem dX11_back_15 : decode cX11_back 15 = .ok (.iconst (-1), 1) := by decide +kernel
theorem dX11_back_16 : decode cX11_back 16 = .ok (.ireturn, 1) := by decide +kernel
theorem dX11_back_17 : decode cX11_back 17 = .ok (.aload_n 0, 1) := by decide +kernel
theorem dX11_back_18 : decode cX11_back 18 = .ok (.getfield 77, 3) := by decide +kernel
theorem dX11_back_21 : decode cX11_back 21 = .ok (.ifCond .ne 6, 3) := by decide +kernel
theorem dX11_back_24 : decode cX11_back 24 = .ok (.bipush (-2), 2) := by decide +kernel
theorem dX11_back_26 : decode cX11_back 26 = .ok (.ireturn, 1) := by decide +kernel
theorem dX11_back_27 : decode cX11_back 27 = .ok (.aload_n 0, 1) := by decide +kernel
theorem dX11_back_28 : decode cX11_back 28 = .ok (.invokevirtual 203, 3) := by decide +kernel
theorem dX11_back_31 : decode cX11_back 31 = .ok (.iconst 0, 1) := by decide +kernel
theorem dX11_back_32 : decode cX11_back 32 = .ok (.istore_n 2, 1) := by decide +kernel
theorem dX11_back_33 : decode cX11_back 33 = .ok (.iload_n 2, 1) := by decide +kernel
theorem dX11_back_34 : decode cX11_back 34 = .ok (.iload_n 1, 1) := by decide +kernel
theorem dX11_back_35 : decode cX11_back 35 = .ok (.if_icmp .ge 15, 3) := by decide +kernel
theorem dX11_back_38 : decode cX11_back 38 = .ok (.aload_n 0, 1) := by decide +kernel
theorem dX11_back_39 : decode cX11_back 39 = .ok (.iload_n 2, 1) := by decide +kernel
theorem dX11_back_40 : decode cX11_back 40 = .ok (.invokevirtual 206, 3) := by decide +kernel
theorem dX11_back_43 : decode cX11_back 43 = .ok (.pop, 1) := by decide +kernel
theorem dX11_back_44 : decode cX11_back 44 = .ok (.iinc 2 1, 3) := by decide +kernel
theorem dX11_back_47 : decode cX11_back 47 = .ok (.goto (-14), 3) := by decide +kernel
theorem dX11_back_50 : decode cX11_back 50 = .ok (.aload_n 0, 1) := by decide +kernel
theorem dX11_back_51 : decode cX11_back 51 = .ok (.getfield 42, 3) := by decide +kernel
theorem dX11_back_54 : decode cX11_back 54 = .ok (.iload_n 1, 1) := by decide +kernel
theorem dX11_back_55 : decode cX11_back 55 = .ok (.putfield 73, 3) := by decide +kernel
theorem dX11_back_58 : decode cX11_back 58 = .ok (.iconst 0, 1) := by decide +kernel
theorem dX11_back_59 : decode cX11_back 59 = .ok (.ireturn, 1) := by decide +kernel
def f_H_back_L33 (S : List xSh) (Rf : Nat → Nat → Option Nat) : Nat → Int32 → Int32 → (Nat → Nat → Int32) → (Nat → Nat → Int64) → Option (Int32 × (Nat → Nat → Int32) × (Nat → Nat → Int64))
  | 0, _, _, _, _ => none
  | n + 1, l1, l2, I, L => (if l1 ≤ l2 then (some ((0 : Int32), (uI I 15 3 l1), L)) else ((f_H_repeat S Rf l2 I L).bind fun q6 => (f_H_back_L33 S Rf n l1 (l2 + (1 : Int32)) q6.2.1 q6.2.2)))
set_option maxRecDepth 100000 in
set_option maxHeartbeats 4000000 in
theorem x_H_back_L33 {G : xG} {S : List xSh} {Rf : Nat → Nat → Option Nat} (hT : xT S Rf) : ∀ (n : Nat) {l1 : Int32} {l2 : Int32} {I : Nat → Nat → Int32} {L : Nat → Nat → Int64} {q : (Int32 × (Nat → Nat → Int32) × (Nat → Nat → Int64))}, f_H_back_L33 S Rf n l1 l2 I L = some q → X G 7 m_H_back 33 [(0, .ref (xB G + 0)), (1, .int l1), (2, .int l2)] [] (S, I, L, Rf) (some (.int q.1), (S, q.2.1, q.2.2, Rf)) := by
  intro n
  induction n with
  | zero =>
    intro l1 l2 I L q hf
    exact absurd (show none = some q from hf) (by simp)
  | succ n ih =>
    intro l1 l2 I L q hf
    replace hf := (f_H_back_L33.eq_2 _ _ _ _ _ _ _).symm.trans hf
    refine X_iload_n (pc := 33) (i := 2) 2 dX11_back_33 rfl rfl ?_
    refine X_iload_n (pc := 34) (i := 1) 1 dX11_back_34 rfl rfl ?_
    by_cases c5 : l1 ≤ l2
    · replace hf := (if_pos c5).symm.trans hf
      refine X_icmp_ge_t (pc := 35) 50 dX11_back_35 (by decide) c5 ?_
      refine X_aload_n (pc := 50) (i := 0) 0 dX11_back_50 rfl rfl ?_
      refine X_getr (pc := 51) (a := 0) (ci := 10) (j := 5) (c := 15) (sh_0 hT) (by decide) k_382 (rf_0_5 hT) (fun _ h => h) dX11_back_51 ?_
      refine X_iload_n (pc := 54) (i := 1) 1 dX11_back_54 rfl rfl ?_
      refine X_puti (pc := 55) (a := 15) (ci := 7) (j := 3) false (sh_15 hT) (by decide) k_161 rfl (fun h => by cases h) rfl dX11_back_55 ?_
      refine X_iconst (pc := 58) (0 : Int32) dX11_back_58 (by decide) ?_
      cases hf
      exact X_ireturn (pc := 59) rfl dX11_back_59
    · replace hf := (if_neg c5).symm.trans hf
      refine X_icmp_ge_f (pc := 35) 50 dX11_back_35 (by decide) c5 ?_
      refine X_aload_n (pc := 38) (i := 0) 0 dX11_back_38 rfl rfl ?_
      refine X_iload_n (pc := 39) (i := 2) 2 dX11_back_39 rfl rfl ?_
      obtain ⟨q6, c7, hf⟩ := bd_some hf
      refine X_invV_i (pc := 40) (c_H_repeat hT c7) ok_H_repeat (ci := 10) (sh_0 hT) k_903 k_905 k_23 nd_8 (by decide) rfl (Nat.le_of_ble_eq_true rfl) dX11_back_40 ?_
      refine X_pop (pc := 43) dX11_back_43 rfl ?_
      refine X_iinc (pc := 44) (i := 2) (q := 2) (v := (l2 + (1 : Int32))) [(2, .int (l2 + (1 : Int32))), (0, .ref (xB G + 0)), (1, .int l1)] dX11_back_44 rfl rfl (by decide) rfl ?_
      refine X_goto (pc := 47) 33 dX11_back_47 (by decide) ?_
      exact X_lvs [1, 2, 0] rfl (ih hf)
def f_H_back (S : List xSh) (Rf : Nat → Nat → Option Nat) (a0 : Int32) (I : Nat → Nat → Int32) (L : Nat → Nat → Int64) : Option (Int32 × (Nat → Nat → Int32) × (Nat → Nat → Int64)) := (if (f_H_isWithin a0 (0 : Int32) (I 15 3)) = (0 : Int32) then (some ((-1 : Int32), I, L)) else (if (I 0 8) = (0 : Int32) then (some ((-2 : Int32), I, L)) else ((f_H_restartMovement S Rf I L).bind fun q3 => (f_H_back_L33 S Rf xF a0 (0 : Int32) q3.1 q3.2))))
set_option maxRecDepth 100000 in
set_option maxHeartbeats 4000000 in
theorem c_H_back {G : xG} {S : List xSh} {Rf : Nat → Nat → Option Nat} (hT : xT S Rf) {a0 : Int32} {I : Nat → Nat → Int32} {L : Nat → Nat → Int64} {q : (Int32 × (Nat → Nat → Int32) × (Nat → Nat → Int64))} (hf : f_H_back S Rf a0 I L = some q) : CT G 7 m_H_back [.ref (xB G + 0), .int a0] (S, I, L, Rf) (some (.int q.1), (S, q.2.1, q.2.2, Rf)) := by
  refine CT.of (by decide +kernel) (Nat.le_of_ble_eq_true rfl) ?_
  show X G 7 m_H_back 0 [(0, .ref (xB G + 0)), (1, .int a0)] [] (S, I, L, Rf) (some (.int q.1), (S, q.2.1, q.2.2, Rf))
  replace hf := (f_H_back.eq_1 _ _ _ _ _).symm.trans hf
  refine X_iload_n (pc := 0) (i := 1) 1 dX11_back_0 rfl rfl ?_
  refine X_iconst (pc := 1) (0 : Int32) dX11_back_1 (by decide) ?_
  refine X_aload_n (pc := 2) (i := 0) 0 dX11_back_2 rfl rfl ?_
  refine X_getr (pc := 3) (a := 0) (ci := 10) (j := 5) (c := 15) (sh_0 hT) (by decide) k_382 (rf_0_5 hT) (fun _ h => h) dX11_back_3 ?_
  refine X_get (pc := 6) (a := 15) (ci := 7) (j := 3) (.int (I 15 3)) (sh_15 hT) (by decide) k_161 rfl dX11_back_6 ?_
  refine X_invS_i (pc := 9) (c_H_isWithin hT rfl) ok_H_isWithin k_437 k_438 nd_6 (by decide) rfl (Nat.le_of_ble_eq_true rfl) dX11_back_9 ?_
  by_cases c1 : (f_H_isWithin a0 (0 : Int32) (I 15 3)) = (0 : Int32)
  · replace hf := (if_pos c1).symm.trans hf
    refine X_if_ne_f (pc := 12) 17 dX11_back_12 (by decide) c1 ?_
    refine X_iconst (pc := 15) (-1 : Int32) dX11_back_15 (by decide) ?_
    cases hf
    exact X_ireturn (pc := 16) rfl dX11_back_16
  · replace hf := (if_neg c1).symm.trans hf
    refine X_if_ne_t (pc := 12) 17 dX11_back_12 (by decide) c1 ?_
    refine X_aload_n (pc := 17) (i := 0) 0 dX11_back_17 rfl rfl ?_
    refine X_get (pc := 18) (a := 0) (ci := 10) (j := 8) (.int (I 0 8)) (sh_0 hT) (by decide) k_385 rfl dX11_back_18 ?_
    by_cases c2 : (I 0 8) = (0 : Int32)
    · replace hf := (if_pos c2).symm.trans hf
      refine X_if_ne_f (pc := 21) 27 dX11_back_21 (by decide) c2 ?_
      refine X_bipush (pc := 24) (-2 : Int32) dX11_back_24 (by decide) ?_
      cases hf
      exact X_ireturn (pc := 26) rfl dX11_back_26
    · replace hf := (if_neg c2).symm.trans hf
      refine X_if_ne_t (pc := 21) 27 dX11_back_21 (by decide) c2 ?_
      refine X_aload_n (pc := 27) (i := 0) 0 dX11_back_27 rfl rfl ?_
      obtain ⟨q3, c4, hf⟩ := bd_some hf
      refine X_invV_v (pc := 28) (c_H_restartMovement hT c4) ok_H_restartMovement (ci := 10) (sh_0 hT) k_894 k_896 k_22 nd_1 (by decide) rfl (Nat.le_of_ble_eq_true rfl) dX11_back_28 ?_
      refine X_iconst (pc := 31) (0 : Int32) dX11_back_31 (by decide) ?_
      refine X_istore_n (pc := 32) (i := 2) [(2, .int (0 : Int32)), (0, .ref (xB G + 0)), (1, .int a0)] dX11_back_32 rfl (by decide) rfl ?_
      exact X_lvs [1, 2, 0] rfl (x_H_back_L33 hT xF hf)

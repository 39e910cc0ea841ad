theorem dX6_addLink_0 : decode cX6_addLink 0 = .ok (.aload_n 0, 1) := by decide +kernel
theorem dX6_addLink_1 : decode cX6_addLink 1 = .ok (.getfield 32, 3) := by decide +kernel
theorem dX6_addLink_4 : decode cX6_addLink 4 = .ok (.bipush 40, 2) := by decide +kernel
theorem dX6_addLink_6 : decode cX6_addLink 6 = .ok (.if_icmp .lt 6, 3) := by decide +kernel
theorem dX6_addLink_9 : decode cX6_addLink 9 = .ok (.bipush (-3), 2) := by decide +kernel
theorem dX6_addLink_11 : decode cX6_addLink 11 = .ok (.ireturn, 1) := by decide +kernel
theorem dX6_addLink_12 : decode cX6_addLink 12 = .ok (.aload_n 0, 1) := by decide +kernel
theorem dX6_addLink_13 : decode cX6_addLink 13 = .ok (.aload_n 0, 1) := by decide +kernel
theorem dX6_addLink_14 : decode cX6_addLink 14 = .ok (.getfield 32, 3) := by decide +kernel
theorem dX6_addLink_17 : decode cX6_addLink 17 = .ok (.iconst 3, 1) := by decide +kernel
theorem dX6_addLink_18 : decode cX6_addLink 18 = .ok (.imul, 1) := by decide +kernel
theorem dX6_addLink_19 : decode cX6_addLink 19 = .ok (.iload_n 1, 1) := by decide +kernel
theorem dX6_addLink_20 : decode cX6_addLink 20 = .ok (.iload_n 2, 1) := by decide +kernel
theorem dX6_addLink_21 : decode cX6_addLink 21 = .ok (.invokevirtual 52, 3) := by decide +kernel
theorem dX6_addLink_24 : decode cX6_addLink 24 = .ok (.aload_n 0, 1) := by decide +kernel
theorem dX6_addLink_25 : decode cX6_addLink 25 = .ok (.aload_n 0, 1) := by decide +kernel
theorem dX6_addLink_26 : decode cX6_addLink 26 = .ok (.getfield 32, 3) := by decide +kernel
theorem dX6_addLink_29 : decode cX6_addLink 29 = .ok (.iconst 3, 1) := by decide +kernel
theorem dX6_addLink_30 : decode cX6_addLink 30 = .ok (.imul, 1) := by decide +kernel
theorem dX6_addLink_31 : decode cX6_addLink 31 = .ok (.iconst 1, 1) := by decide +kernel
theorem dX6_addLink_32 : decode cX6_addLink 32 = .ok (.iadd, 1) := by decide +kernel
theorem dX6_addLink_33 : decode cX6_addLink 33 = .ok (.iload_n 3, 1) := by decide +kernel
theorem dX6_addLink_34 : decode cX6_addLink 34 = .ok (.iload 4, 2) := by decide +kernel
theorem dX6_addLink_36 : decode cX6_addLink 36 = .ok (.invokevirtual 52, 3) := by decide +kernel
theorem dX6_addLink_39 : decode cX6_addLink 39 = .ok (.aload_n 0, 1) := by decide +kernel
theorem dX6_addLink_40 : decode cX6_addLink 40 = .ok (.aload_n 0, 1) := by decide +kernel
theorem dX6_addLink_41 : decode cX6_addLink 41 = .ok (.getfield 32, 3) := by decide +kernel
theorem dX6_addLink_44 : decode cX6_addLink 44 = .ok (.iconst 3, 1) := by decide +kernel
theorem dX6_addLink_45 : decode cX6_addLink 45 = .ok (.imul, 1) := by decide +kernel
theorem dX6_addLink_46 : decode cX6_addLink 46 = .ok (.iconst 2, 1) := by decide +kernel
theorem dX6_addLink_47 : decode cX6_addLink 47 = .ok (.iadd, 1) := by decide +kernel
theorem dX6_addLink_48 : decode cX6_addLink 48 = .ok (.iload 5, 2) := by decide +kernel
theorem dX6_addLink_50 : decode cX6_addLink 50 = .ok (.iload 6, 2) := by decide +kernel
theorem dX6_addLink_52 : decode cX6_addLink 52 = .ok (.invokevirtual 52, 3) := by decide +kernel
theorem dX6_addLink_55 : decode cX6_addLink 55 = .ok (.aload_n 0, 1) := by decide +kernel
theorem dX6_addLink_56 : decode cX6_addLink 56 = .ok (.dup, 1) := by decide +kernel
theorem dX6_addLink_57 : decode cX6_addLink 57 = .ok (.getfield 32, 3) := by decide +kernel
theorem dX6_addLink_60 : decode cX6_addLink 60 = .ok (.iconst 1, 1) := by decide +kernel
theorem dX6_addLink_61 : decode cX6_addLink 61 = .ok (.iadd, 1) := by decide +kernel
theorem dX6_addLink_62 : decode cX6_addLink 62 = .ok (.putfield 32, 3) := by decide +kernel
theorem dX6_addLink_65 : decode cX6_addLink 65 = .ok (.aload_n 0, 1) := by decide +kernel
theorem dX6_addLink_66 : decode cX6_addLink 66 = .ok (.invokevirtual 56, 3) := by decide +kernel
theorem dX6_addLink_69 : decode cX6_addLink 69 = .ok (.aload_n 0, 1) := by decide +kernel
theorem dX6_addLink_70 : decode cX6_addLink 70 = .ok (.getfield 32, 3) := by decide +kernel
theorem dX6_addLink_73 : decode cX6_addLink 73 = .ok (.iconst 1, 1) := by decide +kernel
theorem dX6_addLink_74 : decode cX6_addLink 74 = .ok (.isub, 1) := by decide +kernel
theorem dX6_addLink_75 : decode cX6_addLink 75 = .ok (.ireturn, 1) := by decide +kernel
def f_Ge_addLink (a0 : Int32) (a1 : Int32) (a2 : Int32) (a3 : Int32) (a4 : Int32) (a5 : Int32) (I : Nat → Nat → Int32) (L : Nat → Nat → Int64) : Option (Int32 × (Nat → Nat → Int32) × (Nat → Nat → Int64)) := (if (I 2 1) < (40 : Int32) then ((f_Ge_setPlace ((I 2 1) * (3 : Int32)) a0 a1 I L).bind fun q2 => ((f_Ge_setPlace (((q2.1 2 1) * (3 : Int32)) + (1 : Int32)) a2 a3 q2.1 q2.2).bind fun q4 => ((f_Ge_setPlace (((q4.1 2 1) * (3 : Int32)) + (2 : Int32)) a4 a5 q4.1 q4.2).bind fun q6 => (bnd ((q6.1 2 1) + (1 : Int32)) fun x8 => ((f_Ge_findSpeeds (uI q6.1 2 1 x8) q6.2).bind fun q9 => (some (((q9.1 2 1) - (1 : Int32)), q9.1, q9.2))))))) else (some ((-3 : Int32), I, L)))
set_option maxRecDepth 100000 in
set_option maxHeartbeats 4000000 in
theorem c_Ge_addLink {G : xG} {S : List xSh} {Rf : Nat → Nat → Option Nat} (hT : xTH S Rf) {a0 : Int32} {a1 : Int32} {a2 : Int32} {a3 : Int32} {a4 : Int32} {a5 : Int32} {I : Nat → Nat → Int32} {L : Nat → Nat → Int64} {q : (Int32 × (Nat → Nat → Int32) × (Nat → Nat → Int64))} (hf : f_Ge_addLink a0 a1 a2 a3 a4 a5 I L = some q) : CT G 6 m_Ge_addLink [.ref (xP G 2), .int a0, .int a1, .int a2, .int a3, .int a4, .int a5] (S, I, L, Rf) (some (.int q.1), (S, q.2.1, q.2.2, Rf)) := by
  refine CT.of (by decide +kernel) (Nat.le_of_ble_eq_true rfl) ?_
  show X G 6 m_Ge_addLink 0 [(0, .ref (xP G 2)), (1, .int a0), (2, .int a1), (3, .int a2), (4, .int a3), (5, .int a4), (6, .int a5)] [] (S, I, L, Rf) (some (.int q.1), (S, q.2.1, q.2.2, Rf))
  replace hf := (f_Ge_addLink.eq_1 _ _ _ _ _ _ _ _).symm.trans hf
  refine X_aload_n (pc := 0) (i := 0) 0 dX6_addLink_0 rfl rfl ?_
  refine X_get (pc := 1) (a := 2) (ci := 6) (j := 1) (.int (I 2 1)) (sh_2 hT) (by decide) k_109 rfl dX6_addLink_1 ?_
  refine X_bipush (pc := 4) (40 : Int32) dX6_addLink_4 (by decide) ?_
  by_cases c1 : (I 2 1) < (40 : Int32)
  · replace hf := (if_pos c1).symm.trans hf
    refine X_icmp_lt_t (pc := 6) 12 dX6_addLink_6 (by decide) c1 ?_
    refine X_aload_n (pc := 12) (i := 0) 0 dX6_addLink_12 rfl rfl ?_
    refine X_aload_n (pc := 13) (i := 0) 0 dX6_addLink_13 rfl rfl ?_
    refine X_get (pc := 14) (a := 2) (ci := 6) (j := 1) (.int (I 2 1)) (sh_2 hT) (by decide) k_109 rfl dX6_addLink_14 ?_
    refine X_iconst (pc := 17) (3 : Int32) dX6_addLink_17 (by decide) ?_
    refine X_imul (pc := 18) dX6_addLink_18 ?_
    refine X_iload_n (pc := 19) (i := 1) 1 dX6_addLink_19 rfl rfl ?_
    refine X_iload_n (pc := 20) (i := 2) 2 dX6_addLink_20 rfl rfl ?_
    obtain ⟨q2, c3, hf⟩ := bd_some hf
    refine X_invV_v (pc := 21) (c_Ge_setPlace hT c3) ok_Ge_setPlace (ci := 6) (sh_2 hT) k_570 k_572 k_2 nd_7 (by decide) rfl (Nat.le_of_ble_eq_true rfl) dX6_addLink_21 ?_
    refine X_aload_n (pc := 24) (i := 0) 0 dX6_addLink_24 rfl rfl ?_
    refine X_aload_n (pc := 25) (i := 0) 0 dX6_addLink_25 rfl rfl ?_
    refine X_get (pc := 26) (a := 2) (ci := 6) (j := 1) (.int (q2.1 2 1)) (sh_2 hT) (by decide) k_109 rfl dX6_addLink_26 ?_
    refine X_iconst (pc := 29) (3 : Int32) dX6_addLink_29 (by decide) ?_
    refine X_imul (pc := 30) dX6_addLink_30 ?_
    refine X_iconst (pc := 31) (1 : Int32) dX6_addLink_31 (by decide) ?_
    refine X_iadd (pc := 32) dX6_addLink_32 ?_
    refine X_iload_n (pc := 33) (i := 3) 3 dX6_addLink_33 rfl rfl ?_
    refine X_iload (pc := 34) 4 dX6_addLink_34 rfl ?_
    obtain ⟨q4, c5, hf⟩ := bd_some hf
    refine X_invV_v (pc := 36) (c_Ge_setPlace hT c5) ok_Ge_setPlace (ci := 6) (sh_2 hT) k_570 k_572 k_2 nd_7 (by decide) rfl (Nat.le_of_ble_eq_true rfl) dX6_addLink_36 ?_
    refine X_aload_n (pc := 39) (i := 0) 0 dX6_addLink_39 rfl rfl ?_
    refine X_aload_n (pc := 40) (i := 0) 0 dX6_addLink_40 rfl rfl ?_
    refine X_get (pc := 41) (a := 2) (ci := 6) (j := 1) (.int (q4.1 2 1)) (sh_2 hT) (by decide) k_109 rfl dX6_addLink_41 ?_
    refine X_iconst (pc := 44) (3 : Int32) dX6_addLink_44 (by decide) ?_
    refine X_imul (pc := 45) dX6_addLink_45 ?_
    refine X_iconst (pc := 46) (2 : Int32) dX6_addLink_46 (by decide) ?_
    refine X_iadd (pc := 47) dX6_addLink_47 ?_
    refine X_iload (pc := 48) 5 dX6_addLink_48 rfl ?_
    refine X_iload (pc := 50) 6 dX6_addLink_50 rfl ?_
    obtain ⟨q6, c7, hf⟩ := bd_some hf
    refine X_invV_v (pc := 52) (c_Ge_setPlace hT c7) ok_Ge_setPlace (ci := 6) (sh_2 hT) k_570 k_572 k_2 nd_7 (by decide) rfl (Nat.le_of_ble_eq_true rfl) dX6_addLink_52 ?_
    refine X_aload_n (pc := 55) (i := 0) 0 dX6_addLink_55 rfl rfl ?_
    refine X_dup (pc := 56) dX6_addLink_56 rfl ?_
    refine X_get (pc := 57) (a := 2) (ci := 6) (j := 1) (.int (q6.1 2 1)) (sh_2 hT) (by decide) k_109 rfl dX6_addLink_57 ?_
    refine X_iconst (pc := 60) (1 : Int32) dX6_addLink_60 (by decide) ?_
    refine X_iadd (pc := 61) dX6_addLink_61 ?_
    obtain ⟨x8, ex8, hf⟩ := bnd_e hf
    refine X_tope ex8 ?_
    refine X_puti (pc := 62) (a := 2) (ci := 6) (j := 1) 1 rfl false (sh_2 hT) (by decide) k_109 rfl (fun h => by cases h) rfl dX6_addLink_62 ?_
    refine X_aload_n (pc := 65) (i := 0) 0 dX6_addLink_65 rfl rfl ?_
    obtain ⟨q9, c10, hf⟩ := bd_some hf
    refine X_invV_v (pc := 66) (c_Ge_findSpeeds hT c10) ok_Ge_findSpeeds (ci := 6) (sh_2 hT) k_574 k_576 k_3 nd_1 (by decide) rfl (Nat.le_of_ble_eq_true rfl) dX6_addLink_66 ?_
    refine X_aload_n (pc := 69) (i := 0) 0 dX6_addLink_69 rfl rfl ?_
    refine X_get (pc := 70) (a := 2) (ci := 6) (j := 1) (.int (q9.1 2 1)) (sh_2 hT) (by decide) k_109 rfl dX6_addLink_70 ?_
    refine X_iconst (pc := 73) (1 : Int32) dX6_addLink_73 (by decide) ?_
    refine X_isub (pc := 74) dX6_addLink_74 ?_
    cases hf
    exact X_ireturn (pc := 75) rfl dX6_addLink_75
  · replace hf := (if_neg c1).symm.trans hf
    refine X_icmp_lt_f (pc := 6) 12 dX6_addLink_6 (by decide) c1 ?_
    refine X_bipush (pc := 9) (-3 : Int32) dX6_addLink_9 (by decide) ?_
    cases hf
    exact X_ireturn (pc := 11) rfl dX6_addLink_11
theorem u_Ge_addLink {S : List xSh} {a0 : Int32} {a1 : Int32} {a2 : Int32} {a3 : Int32} {a4 : Int32} {a5 : Int32} {I : Nat → Nat → Int32} {L : Nat → Nat → Int64} {q : (Int32 × (Nat → Nat → Int32) × (Nat → Nat → Int64))} (hf : f_Ge_addLink a0 a1 a2 a3 a4 a5 I L = some q) : FR S [6, 7, 1201, 1204] [3, 4, 5, 1210, 1211] I q.2.1 L q.2.2 := by
  replace hf := (f_Ge_addLink.eq_1 _ _ _ _ _ _ _ _).symm.trans hf
  by_cases c1 : (I 2 1) < (40 : Int32)
  · replace hf := (if_pos c1).symm.trans hf
    obtain ⟨q2, c3, hf⟩ := bd_some hf
    obtain ⟨q4, c5, hf⟩ := bd_some hf
    obtain ⟨q6, c7, hf⟩ := bd_some hf
    obtain ⟨x8, ex8, hf⟩ := bnd_e hf
    obtain ⟨q9, c10, hf⟩ := bd_some hf
    cases hf
    exact (FR.tr (FR.fi (FR.tr (FR.tr (FR.tr FR.rf (u_Ge_setPlace (q := q2) c3) (by decide) (by decide)) (u_Ge_setPlace (q := q4) c5) (by decide) (by decide)) (u_Ge_setPlace (q := q6) c7) (by decide) (by decide)) (by decide)) (u_Ge_findSpeeds (q := q9) c10) (by decide) (by decide))
  · replace hf := (if_neg c1).symm.trans hf
    cases hf
    exact FR.rf
theorem dX11_mesh_0 : decode cX11_mesh 0 = .ok (.aload_n 0, 1) := by decide +kernel
theorem dX11_mesh_1 : decode cX11_mesh 1 = .ok (.getfield 20, 3) := by decide +kernel
theorem dX11_mesh_4 : decode cX11_mesh 4 = .ok (.iload_n 1, 1) := by decide +kernel
theorem dX11_mesh_5 : decode cX11_mesh 5 = .ok (.invokevirtual 109, 3) := by decide +kernel
theorem dX11_mesh_8 : decode cX11_mesh 8 = .ok (.ifCond .eq 19, 3) := by decide +kernel
theorem dX11_mesh_11 : decode cX11_mesh 11 = .ok (.aload_n 0, 1) := by decide +kernel
theorem dX11_mesh_12 : decode cX11_mesh 12 = .ok (.getfield 20, 3) := by decide +kernel
theorem dX11_mesh_15 : decode cX11_mesh 15 = .ok (.iload_n 3, 1) := by decide +kernel
theorem dX11_mesh_16 : decode cX11_mesh 16 = .ok (.invokevirtual 109, 3) := by decide +kernel
theorem dX11_mesh_19 : decode cX11_mesh 19 = .ok (.ifCond .eq 8, 3) := by decide +kernel
theorem dX11_mesh_22 : decode cX11_mesh 22 = .ok (.iload_n 1, 1) := by decide +kernel
theorem dX11_mesh_23 : decode cX11_mesh 23 = .ok (.iload_n 3, 1) := by decide +kernel
theorem dX11_mesh_24 : decode cX11_mesh 24 = .ok (.if_icmp .ne 5, 3) := by decide +kernel
theorem dX11_mesh_27 : decode cX11_mesh 27 = .ok (.iconst (-1), 1) := by decide +kernel
theorem dX11_mesh_28 : decode cX11_mesh 28 = .ok (.ireturn, 1) := by decide +kernel
theorem dX11_mesh_29 : decode cX11_mesh 29 = .ok (.iload_n 2, 1) := by decide +kernel
theorem dX11_mesh_30 : decode cX11_mesh 30 = .ok (.iconst 1, 1) := by decide +kernel
theorem dX11_mesh_31 : decode cX11_mesh 31 = .ok (.sipush 200, 3) := by decide +kernel
theorem dX11_mesh_34 : decode cX11_mesh 34 = .ok (.invokestatic 113, 3) := by decide +kernel
theorem dX11_mesh_37 : decode cX11_mesh 37 = .ok (.ifCond .eq 25, 3) := by decide +kernel
theorem dX11_mesh_40 : decode cX11_mesh 40 = .ok (.iload 4, 2) := by decide +kernel
theorem dX11_mesh_42 : decode cX11_mesh 42 = .ok (.iconst 1, 1) := by decide +kernel
theorem dX11_mesh_43 : decode cX11_mesh 43 = .ok (.sipush 200, 3) := by decide +kernel
theorem dX11_mesh_46 : decode cX11_mesh 46 = .ok (.invokestatic 113, 3) := by decide +kernel
theorem dX11_mesh_49 : decode cX11_mesh 49 = .ok (.ifCond .eq 13, 3) := by decide +kernel
theorem dX11_mesh_52 : decode cX11_mesh 52 = .ok (.iload 5, 2) := by decide +kernel
theorem dX11_mesh_54 : decode cX11_mesh 54 = .ok (.iconst 0, 1) := by decide +kernel
theorem dX11_mesh_55 : decode cX11_mesh 55 = .ok (.iconst 1, 1) := by decide +kernel
theorem dX11_mesh_56 : decode cX11_mesh 56 = .ok (.invokestatic 113, 3) := by decide +kernel
theorem dX11_mesh_59 : decode cX11_mesh 59 = .ok (.ifCond .ne 5, 3) := by decide +kernel
theorem dX11_mesh_62 : decode cX11_mesh 62 = .ok (.iconst (-1), 1) := by decide +kernel
theorem dX11_mesh_63 : decode cX11_mesh 63 = .ok (.ireturn, 1) := by decide +kernel
theorem dX11_mesh_64 : decode cX11_mesh 64 = .ok (.aload_n 0, 1) := by decide +kernel
theorem dX11_mesh_65 : decode cX11_mesh 65 = .ok (.getfield 99, 3) := by decide +kernel
theorem dX11_mesh_68 : decode cX11_mesh 68 = .ok (.ifCond .eq 8, 3) := by decide +kernel
theorem dX11_mesh_71 : decode cX11_mesh 71 = .ok (.bipush (-2), 2) := by decide +kernel
theorem dX11_mesh_73 : decode cX11_mesh 73 = .ok (.goto 29, 3) := by decide +kernel
theorem dX11_mesh_76 : decode cX11_mesh 76 = .ok (.aload_n 0, 1) := by decide +kernel
theorem dX11_mesh_77 : decode cX11_mesh 77 = .ok (.getfield 20, 3) := by decide +kernel
theorem dX11_mesh_80 : decode cX11_mesh 80 = .ok (.iload_n 1, 1) := by decide +kernel
theorem dX11_mesh_81 : decode cX11_mesh 81 = .ok (.iload_n 2, 1) := by decide +kernel
theorem dX11_mesh_82 : decode cX11_mesh 82 = .ok (.iload_n 3, 1) := by decide +kernel
theorem dX11_mesh_83 : decode cX11_mesh 83 = .ok (.iload 5, 2) := by decide +kernel
theorem dX11_mesh_85 : decode cX11_mesh 85 = .ok (.iconst 1, 1) := by decide +kernel
theorem dX11_mesh_86 : decode cX11_mesh 86 = .ok (.if_icmp .ne 9, 3) := by decide +kernel
theorem dX11_mesh_89 : decode cX11_mesh 89 = .ok (.iload 4, 2) := by decide +kernel
theorem dX11_mesh_91 : decode cX11_mesh 91 = .ok (.ineg, 1) := by decide +kernel
theorem dX11_mesh_92 : decode cX11_mesh 92 = .ok (.goto 5, 3) := by decide +kernel
theorem dX11_mesh_95 : decode cX11_mesh 95 = .ok (.iload 4, 2) := by decide +kernel
theorem dX11_mesh_97 : decode cX11_mesh 97 = .ok (.iconst (-1), 1) := by decide +kernel
theorem dX11_mesh_98 : decode cX11_mesh 98 = .ok (.iconst 0, 1) := by decide +kernel
theorem dX11_mesh_99 : decode cX11_mesh 99 = .ok (.invokevirtual 117, 3) := by decide +kernel
theorem dX11_mesh_102 : decode cX11_mesh 102 = .ok (.ireturn, 1) := by decide +kernel
def f_H_mesh_L97 (s1 : Int32) (s2 : Int32) (s3 : Int32) (s4 : Int32) (I : (Nat → Nat → Int32)) (L : (Nat → Nat → Int64)) : Option (Int32 × (Nat → Nat → Int32) × (Nat → Nat → Int64)) := ((f_Ge_addLink s1 s2 s3 s4 (-1 : Int32) (0 : Int32) I L).bind fun q12 => (some (q12.1, q12.2.1, q12.2.2)))
set_option maxRecDepth 100000 in
set_option maxHeartbeats 4000000 in
theorem x_H_mesh_L97 {G : xG} {S : List xSh} {Rf : Nat → Nat → Option Nat} (hT : xTH S Rf) {s1 : Int32} {s2 : Int32} {s3 : Int32} {s4 : Int32} {I : Nat → Nat → Int32} {L : Nat → Nat → Int64} {q : (Int32 × (Nat → Nat → Int32) × (Nat → Nat → Int64))} (hf : f_H_mesh_L97 s1 s2 s3 s4 I L = some q) : X G 7 m_H_mesh 97 [] [.int s4, .int s3, .int s2, .int s1, .ref (xP G 2)] (S, I, L, Rf) (some (.int q.1), (S, q.2.1, q.2.2, Rf)) := by
  replace hf := (f_H_mesh_L97.eq_1 _ _ _ _ _ _).symm.trans hf
  refine X_iconst (pc := 97) (-1 : Int32) dX11_mesh_97 (by decide) ?_
  refine X_iconst (pc := 98) (0 : Int32) dX11_mesh_98 (by decide) ?_
  obtain ⟨q12, c13, hf⟩ := bd_some hf
  refine X_invV_i (pc := 99) (c_Ge_addLink hT c13) ok_Ge_addLink (ci := 6) (sh_2 hT) k_566 k_567 k_568 nd_12 (by decide) rfl (Nat.le_of_ble_eq_true rfl) dX11_mesh_99 ?_
  cases hf
  exact X_ireturn (pc := 102) rfl dX11_mesh_102
theorem u_H_mesh_L97 {S : List xSh} {s1 : Int32} {s2 : Int32} {s3 : Int32} {s4 : Int32} {I : Nat → Nat → Int32} {L : Nat → Nat → Int64} {q : (Int32 × (Nat → Nat → Int32) × (Nat → Nat → Int64))} (hf : f_H_mesh_L97 s1 s2 s3 s4 I L = some q) : FR S [6, 7, 1201, 1204] [3, 4, 5, 1210, 1211] I q.2.1 L q.2.2 := by
  replace hf := (f_H_mesh_L97.eq_1 _ _ _ _ _ _).symm.trans hf
  obtain ⟨q12, c13, hf⟩ := bd_some hf
  cases hf
  exact (FR.tr FR.rf (u_Ge_addLink (q := q12) c13) (by decide) (by decide))
def f_H_mesh (a0 : Int32) (a1 : Int32) (a2 : Int32) (a3 : Int32) (a4 : Int32) (I : Nat → Nat → Int32) (L : Nat → Nat → Int64) : Option (Int32 × (Nat → Nat → Int32) × (Nat → Nat → Int64)) := (if (f_Ge_hasArbor a0 I L) = (0 : Int32) then (some ((-1 : Int32), I, L)) else (if (f_Ge_hasArbor a2 I L) = (0 : Int32) then (some ((-1 : Int32), I, L)) else (if a0 = a2 then (some ((-1 : Int32), I, L)) else (bnd (f_H_isWithin a1 (1 : Int32) (200 : Int32)) fun x4 => (if x4 = (0 : Int32) then (some ((-1 : Int32), I, L)) else (bnd (f_H_isWithin a3 (1 : Int32) (200 : Int32)) fun x6 => (if x6 = (0 : Int32) then (some ((-1 : Int32), I, L)) else (bnd (f_H_isWithin a4 (0 : Int32) (1 : Int32)) fun x8 => (if x8 = (0 : Int32) then (some ((-1 : Int32), I, L)) else (if (I 0 8) = (0 : Int32) then (if a4 = (1 : Int32) then (f_H_mesh_L97 a0 a1 a2 (-a3) I L) else (f_H_mesh_L97 a0 a1 a2 a3 I L)) else (some ((-2 : Int32), I, L))))))))))))
set_option maxRecDepth 100000 in
set_option maxHeartbeats 4000000 in
theorem c_H_mesh {G : xG} {S : List xSh} {Rf : Nat → Nat → Option Nat} (hT : xTH S Rf) {a0 : Int32} {a1 : Int32} {a2 : Int32} {a3 : Int32} {a4 : Int32} {I : Nat → Nat → Int32} {L : Nat → Nat → Int64} {q : (Int32 × (Nat → Nat → Int32) × (Nat → Nat → Int64))} (hf : f_H_mesh a0 a1 a2 a3 a4 I L = some q) : CT G 7 m_H_mesh [.ref (xP G 0), .int a0, .int a1, .int a2, .int a3, .int a4] (S, I, L, Rf) (some (.int q.1), (S, q.2.1, q.2.2, Rf)) := by
  refine CT.of (by decide +kernel) (Nat.le_of_ble_eq_true rfl) ?_
  show X G 7 m_H_mesh 0 [(0, .ref (xP G 0)), (1, .int a0), (2, .int a1), (3, .int a2), (4, .int a3), (5, .int a4)] [] (S, I, L, Rf) (some (.int q.1), (S, q.2.1, q.2.2, Rf))
  replace hf := (f_H_mesh.eq_1 _ _ _ _ _ _ _).symm.trans hf
  refine X_aload_n (pc := 0) (i := 0) 0 dX11_mesh_0 rfl rfl ?_
  refine X_getr (pc := 1) (a := 0) (ci := 10) (j := 1) (c := 2) (sh_0 hT) (by decide) k_495 (rf_0_1 hT) (fun _ h => h) dX11_mesh_1 ?_
  refine X_iload_n (pc := 4) (i := 1) 1 dX11_mesh_4 rfl rfl ?_
  refine X_invV_i (pc := 5) (c_Ge_hasArbor hT rfl) ok_Ge_hasArbor (ci := 6) (sh_2 hT) k_559 k_560 k_561 nd_5 (by decide) rfl (Nat.le_of_ble_eq_true rfl) dX11_mesh_5 ?_
  by_cases c1 : (f_Ge_hasArbor a0 I L) = (0 : Int32)
  · replace hf := (if_pos c1).symm.trans hf
    refine X_if_eq_t (pc := 8) 27 dX11_mesh_8 (by decide) c1 ?_
    refine X_iconst (pc := 27) (-1 : Int32) dX11_mesh_27 (by decide) ?_
    cases hf
    exact X_ireturn (pc := 28) rfl dX11_mesh_28
  · replace hf := (if_neg c1).symm.trans hf
    refine X_if_eq_f (pc := 8) 27 dX11_mesh_8 (by decide) c1 ?_
    refine X_aload_n (pc := 11) (i := 0) 0 dX11_mesh_11 rfl rfl ?_
    refine X_getr (pc := 12) (a := 0) (ci := 10) (j := 1) (c := 2) (sh_0 hT) (by decide) k_495 (rf_0_1 hT) (fun _ h => h) dX11_mesh_12 ?_
    refine X_iload_n (pc := 15) (i := 3) 3 dX11_mesh_15 rfl rfl ?_
    refine X_invV_i (pc := 16) (c_Ge_hasArbor hT rfl) ok_Ge_hasArbor (ci := 6) (sh_2 hT) k_559 k_560 k_561 nd_5 (by decide) rfl (Nat.le_of_ble_eq_true rfl) dX11_mesh_16 ?_
    by_cases c2 : (f_Ge_hasArbor a2 I L) = (0 : Int32)
    · replace hf := (if_pos c2).symm.trans hf
      refine X_if_eq_t (pc := 19) 27 dX11_mesh_19 (by decide) c2 ?_
      refine X_iconst (pc := 27) (-1 : Int32) dX11_mesh_27 (by decide) ?_
      cases hf
      exact X_ireturn (pc := 28) rfl dX11_mesh_28
    · replace hf := (if_neg c2).symm.trans hf
      refine X_if_eq_f (pc := 19) 27 dX11_mesh_19 (by decide) c2 ?_
      refine X_iload_n (pc := 22) (i := 1) 1 dX11_mesh_22 rfl rfl ?_
      refine X_iload_n (pc := 23) (i := 3) 3 dX11_mesh_23 rfl rfl ?_
      by_cases c3 : a0 = a2
      · replace hf := (if_pos c3).symm.trans hf
        refine X_icmp_ne_f (pc := 24) 29 dX11_mesh_24 (by decide) c3 ?_
        refine X_iconst (pc := 27) (-1 : Int32) dX11_mesh_27 (by decide) ?_
        cases hf
        exact X_ireturn (pc := 28) rfl dX11_mesh_28
      · replace hf := (if_neg c3).symm.trans hf
        refine X_icmp_ne_t (pc := 24) 29 dX11_mesh_24 (by decide) c3 ?_
        refine X_iload_n (pc := 29) (i := 2) 2 dX11_mesh_29 rfl rfl ?_
        refine X_iconst (pc := 30) (1 : Int32) dX11_mesh_30 (by decide) ?_
        refine X_sipush (pc := 31) (200 : Int32) dX11_mesh_31 (by decide) ?_
        refine X_invS_i (pc := 34) (c_H_isWithin hT rfl) ok_H_isWithin k_563 k_564 nd_6 (by decide) rfl (Nat.le_of_ble_eq_true rfl) dX11_mesh_34 ?_
        obtain ⟨x4, ex4, hf⟩ := bnd_e hf
        refine X_tope ex4 ?_
        by_cases c5 : x4 = (0 : Int32)
        · replace hf := (if_pos c5).symm.trans hf
          refine X_if_eq_t (pc := 37) 62 dX11_mesh_37 (by decide) c5 ?_
          refine X_iconst (pc := 62) (-1 : Int32) dX11_mesh_62 (by decide) ?_
          cases hf
          exact X_ireturn (pc := 63) rfl dX11_mesh_63
        · replace hf := (if_neg c5).symm.trans hf
          refine X_if_eq_f (pc := 37) 62 dX11_mesh_37 (by decide) c5 ?_
          refine X_iload (pc := 40) 4 dX11_mesh_40 rfl ?_
          refine X_iconst (pc := 42) (1 : Int32) dX11_mesh_42 (by decide) ?_
          refine X_sipush (pc := 43) (200 : Int32) dX11_mesh_43 (by decide) ?_
          refine X_invS_i (pc := 46) (c_H_isWithin hT rfl) ok_H_isWithin k_563 k_564 nd_6 (by decide) rfl (Nat.le_of_ble_eq_true rfl) dX11_mesh_46 ?_
          obtain ⟨x6, ex6, hf⟩ := bnd_e hf
          refine X_tope ex6 ?_
          by_cases c7 : x6 = (0 : Int32)
          · replace hf := (if_pos c7).symm.trans hf
            refine X_if_eq_t (pc := 49) 62 dX11_mesh_49 (by decide) c7 ?_
            refine X_iconst (pc := 62) (-1 : Int32) dX11_mesh_62 (by decide) ?_
            cases hf
            exact X_ireturn (pc := 63) rfl dX11_mesh_63
          · replace hf := (if_neg c7).symm.trans hf
            refine X_if_eq_f (pc := 49) 62 dX11_mesh_49 (by decide) c7 ?_
            refine X_iload (pc := 52) 5 dX11_mesh_52 rfl ?_
            refine X_iconst (pc := 54) (0 : Int32) dX11_mesh_54 (by decide) ?_
            refine X_iconst (pc := 55) (1 : Int32) dX11_mesh_55 (by decide) ?_
            refine X_invS_i (pc := 56) (c_H_isWithin hT rfl) ok_H_isWithin k_563 k_564 nd_6 (by decide) rfl (Nat.le_of_ble_eq_true rfl) dX11_mesh_56 ?_
            obtain ⟨x8, ex8, hf⟩ := bnd_e hf
            refine X_tope ex8 ?_
            by_cases c9 : x8 = (0 : Int32)
            · replace hf := (if_pos c9).symm.trans hf
              refine X_if_ne_f (pc := 59) 64 dX11_mesh_59 (by decide) c9 ?_
              refine X_iconst (pc := 62) (-1 : Int32) dX11_mesh_62 (by decide) ?_
              cases hf
              exact X_ireturn (pc := 63) rfl dX11_mesh_63
            · replace hf := (if_neg c9).symm.trans hf
              refine X_if_ne_t (pc := 59) 64 dX11_mesh_59 (by decide) c9 ?_
              refine X_aload_n (pc := 64) (i := 0) 0 dX11_mesh_64 rfl rfl ?_
              refine X_get (pc := 65) (a := 0) (ci := 10) (j := 11) (.int (I 0 8)) (sh_0 hT) (by decide) k_505 rfl dX11_mesh_65 ?_
              by_cases c10 : (I 0 8) = (0 : Int32)
              · replace hf := (if_pos c10).symm.trans hf
                refine X_if_eq_t (pc := 68) 76 dX11_mesh_68 (by decide) c10 ?_
                refine X_aload_n (pc := 76) (i := 0) 0 dX11_mesh_76 rfl rfl ?_
                refine X_getr (pc := 77) (a := 0) (ci := 10) (j := 1) (c := 2) (sh_0 hT) (by decide) k_495 (rf_0_1 hT) (fun _ h => h) dX11_mesh_77 ?_
                refine X_iload_n (pc := 80) (i := 1) 1 dX11_mesh_80 rfl rfl ?_
                refine X_iload_n (pc := 81) (i := 2) 2 dX11_mesh_81 rfl rfl ?_
                refine X_iload_n (pc := 82) (i := 3) 3 dX11_mesh_82 rfl rfl ?_
                refine X_iload (pc := 83) 5 dX11_mesh_83 rfl ?_
                refine X_iconst (pc := 85) (1 : Int32) dX11_mesh_85 (by decide) ?_
                by_cases c11 : a4 = (1 : Int32)
                · replace hf := (if_pos c11).symm.trans hf
                  refine X_icmp_ne_f (pc := 86) 95 dX11_mesh_86 (by decide) c11 ?_
                  refine X_iload (pc := 89) 4 dX11_mesh_89 rfl ?_
                  refine X_ineg (pc := 91) dX11_mesh_91 ?_
                  refine X_goto (pc := 92) 97 dX11_mesh_92 (by decide) ?_
                  exact X_lvs [] rfl (x_H_mesh_L97 hT hf)
                · replace hf := (if_neg c11).symm.trans hf
                  refine X_icmp_ne_t (pc := 86) 95 dX11_mesh_86 (by decide) c11 ?_
                  refine X_iload (pc := 95) 4 dX11_mesh_95 rfl ?_
                  exact X_lvs [] rfl (x_H_mesh_L97 hT hf)
              · replace hf := (if_neg c10).symm.trans hf
                refine X_if_eq_f (pc := 68) 76 dX11_mesh_68 (by decide) c10 ?_
                refine X_bipush (pc := 71) (-2 : Int32) dX11_mesh_71 (by decide) ?_
                refine X_goto (pc := 73) 102 dX11_mesh_73 (by decide) ?_
                cases hf
                exact X_ireturn (pc := 102) rfl dX11_mesh_102
theorem u_H_mesh {S : List xSh} {a0 : Int32} {a1 : Int32} {a2 : Int32} {a3 : Int32} {a4 : Int32} {I : Nat → Nat → Int32} {L : Nat → Nat → Int64} {q : (Int32 × (Nat → Nat → Int32) × (Nat → Nat → Int64))} (hf : f_H_mesh a0 a1 a2 a3 a4 I L = some q) : FR S [6, 7, 1201, 1204] [3, 4, 5, 1210, 1211] I q.2.1 L q.2.2 := by
  replace hf := (f_H_mesh.eq_1 _ _ _ _ _ _ _).symm.trans hf
  by_cases c1 : (f_Ge_hasArbor a0 I L) = (0 : Int32)
  · replace hf := (if_pos c1).symm.trans hf
    cases hf
    exact FR.rf
  · replace hf := (if_neg c1).symm.trans hf
    by_cases c2 : (f_Ge_hasArbor a2 I L) = (0 : Int32)
    · replace hf := (if_pos c2).symm.trans hf
      cases hf
      exact FR.rf
    · replace hf := (if_neg c2).symm.trans hf
      by_cases c3 : a0 = a2
      · replace hf := (if_pos c3).symm.trans hf
        cases hf
        exact FR.rf
      · replace hf := (if_neg c3).symm.trans hf
        obtain ⟨x4, ex4, hf⟩ := bnd_e hf
        by_cases c5 : x4 = (0 : Int32)
        · replace hf := (if_pos c5).symm.trans hf
          cases hf
          exact FR.rf
        · replace hf := (if_neg c5).symm.trans hf
          obtain ⟨x6, ex6, hf⟩ := bnd_e hf
          by_cases c7 : x6 = (0 : Int32)
          · replace hf := (if_pos c7).symm.trans hf
            cases hf
            exact FR.rf
          · replace hf := (if_neg c7).symm.trans hf
            obtain ⟨x8, ex8, hf⟩ := bnd_e hf
            by_cases c9 : x8 = (0 : Int32)
            · replace hf := (if_pos c9).symm.trans hf
              cases hf
              exact FR.rf
            · replace hf := (if_neg c9).symm.trans hf
              by_cases c10 : (I 0 8) = (0 : Int32)
              · replace hf := (if_pos c10).symm.trans hf
                by_cases c11 : a4 = (1 : Int32)
                · replace hf := (if_pos c11).symm.trans hf
                  exact FR.tr FR.rf (u_H_mesh_L97 hf) (by decide) (by decide)
                · replace hf := (if_neg c11).symm.trans hf
                  exact FR.tr FR.rf (u_H_mesh_L97 hf) (by decide) (by decide)
              · replace hf := (if_neg c10).symm.trans hf
                cases hf
                exact FR.rf
theorem dX11_epicycle_0 : decode cX11_epicycle 0 = .ok (.aload_n 0, 1) := by decide +kernel
theorem dX11_epicycle_1 : decode cX11_epicycle 1 = .ok (.getfield 20, 3) := by decide +kernel
theorem dX11_epicycle_4 : decode cX11_epicycle 4 = .ok (.iload_n 1, 1) := by decide +kernel
theorem dX11_epicycle_5 : decode cX11_epicycle 5 = .ok (.invokevirtual 109, 3) := by decide +kernel
theorem dX11_epicycle_8 : decode cX11_epicycle 8 = .ok (.ifCond .eq 26, 3) := by decide +kernel
theorem dX11_epicycle_11 : decode cX11_epicycle 11 = .ok (.aload_n 0, 1) := by decide +kernel
theorem dX11_epicycle_12 : decode cX11_epicycle 12 = .ok (.getfield 20, 3) := by decide +kernel
theorem dX11_epicycle_15 : decode cX11_epicycle 15 = .ok (.iload_n 3, 1) := by decide +kernel
theorem dX11_epicycle_16 : decode cX11_epicycle 16 = .ok (.invokevirtual 109, 3) := by decide +kernel
theorem dX11_epicycle_19 : decode cX11_epicycle 19 = .ok (.ifCond .eq 15, 3) := by decide +kernel
theorem dX11_epicycle_22 : decode cX11_epicycle 22 = .ok (.aload_n 0, 1) := by decide +kernel
theorem dX11_epicycle_23 : decode cX11_epicycle 23 = .ok (.getfield 20, 3) := by decide +kernel
theorem dX11_epicycle_26 : decode cX11_epicycle 26 = .ok (.iload 5, 2) := by decide +kernel
theorem dX11_epicycle_28 : decode cX11_epicycle 28 = .ok (.invokevirtual 109, 3) := by decide +kernel
theorem dX11_epicycle_31 : decode cX11_epicycle 31 = .ok (.ifCond .ne 5, 3) := by decide +kernel
theorem dX11_epicycle_34 : decode cX11_epicycle 34 = .ok (.iconst (-1), 1) := by decide +kernel
theorem dX11_epicycle_35 : decode cX11_epicycle 35 = .ok (.ireturn, 1) := by decide +kernel
theorem dX11_epicycle_36 : decode cX11_epicycle 36 = .ok (.iload_n 1, 1) := by decide +kernel
theorem dX11_epicycle_37 : decode cX11_epicycle 37 = .ok (.iload_n 3, 1) := by decide +kernel
theorem dX11_epicycle_38 : decode cX11_epicycle 38 = .ok (.if_icmp .eq 38, 3) := by decide +kernel
theorem dX11_epicycle_41 : decode cX11_epicycle 41 = .ok (.iload_n 1, 1) := by decide +kernel
theorem dX11_epicycle_42 : decode cX11_epicycle 42 = .ok (.iload 5, 2) := by decide +kernel
theorem dX11_epicycle_44 : decode cX11_epicycle 44 = .ok (.if_icmp .eq 32, 3) := by decide +kernel
theorem dX11_epicycle_47 : decode cX11_epicycle 47 = .ok (.iload_n 3, 1) := by decide +kernel
theorem dX11_epicycle_48 : decode cX11_epicycle 48 = .ok (.iload 5, 2) := by decide +kernel
theorem dX11_epicycle_50 : decode cX11_epicycle 50 = .ok (.if_icmp .eq 26, 3) := by decide +kernel
theorem dX11_epicycle_53 : decode cX11_epicycle 53 = .ok (.iload_n 2, 1) := by decide +kernel
theorem dX11_epicycle_54 : decode cX11_epicycle 54 = .ok (.iconst 1, 1) := by decide +kernel
theorem dX11_epicycle_55 : decode cX11_epicycle 55 = .ok (.sipush 200, 3) := by decide +kernel
theorem dX11_epicycle_58 : decode cX11_epicycle 58 = .ok (.invokestatic 113, 3) := by decide +kernel
theorem dX11_epicycle_61 : decode cX11_epicycle 61 = .ok (.ifCond .eq 15, 3) := by decide +kernel
theorem dX11_epicycle_64 : decode cX11_epicycle 64 = .ok (.iload 4, 2) := by decide +kernel
theorem dX11_epicycle_66 : decode cX11_epicycle 66 = .ok (.iconst 1, 1) := by decide +kernel
theorem dX11_epicycle_67 : decode cX11_epicycle 67 = .ok (.sipush 200, 3) := by decide +kernel
theorem dX11_epicycle_70 : decode cX11_epicycle 70 = .ok (.invokestatic 113, 3) := by decide +kernel
theorem dX11_epicycle_73 : decode cX11_epicycle 73 = .ok (.ifCond .ne 5, 3) := by decide +kernel
theorem dX11_epicycle_76 : decode cX11_epicycle 76 = .ok (.iconst (-1), 1) := by decide +kernel
theorem dX11_epicycle_77 : decode cX11_epicycle 77 = .ok (.ireturn, 1) := by decide +kernel
theorem dX11_epicycle_78 : decode cX11_epicycle 78 = .ok (.aload_n 0, 1) := by decide +kernel
theorem dX11_epicycle_79 : decode cX11_epicycle 79 = .ok (.getfield 99, 3) := by decide +kernel
theorem dX11_epicycle_82 : decode cX11_epicycle 82 = .ok (.ifCond .eq 8, 3) := by decide +kernel
theorem dX11_epicycle_85 : decode cX11_epicycle 85 = .ok (.bipush (-2), 2) := by decide +kernel
theorem dX11_epicycle_87 : decode cX11_epicycle 87 = .ok (.goto 22, 3) := by decide +kernel
theorem dX11_epicycle_90 : decode cX11_epicycle 90 = .ok (.aload_n 0, 1) := by decide +kernel
theorem dX11_epicycle_91 : decode cX11_epicycle 91 = .ok (.getfield 20, 3) := by decide +kernel
theorem dX11_epicycle_94 : decode cX11_epicycle 94 = .ok (.iload_n 1, 1) := by decide +kernel
theorem dX11_epicycle_95 : decode cX11_epicycle 95 = .ok (.iload_n 2, 1) := by decide +kernel
theorem dX11_epicycle_96 : decode cX11_epicycle 96 = .ok (.iload_n 3, 1) := by decide +kernel
theorem dX11_epicycle_97 : decode cX11_epicycle 97 = .ok (.iload 4, 2) := by decide +kernel
theorem dX11_epicycle_99 : decode cX11_epicycle 99 = .ok (.iload 5, 2) := by decide +kernel
theorem dX11_epicycle_101 : decode cX11_epicycle 101 = .ok (.iload_n 2, 1) := by decide +kernel
theorem dX11_epicycle_102 : decode cX11_epicycle 102 = .ok (.iload 4, 2) := by decide +kernel
theorem dX11_epicycle_104 : decode cX11_epicycle 104 = .ok (.iadd, 1) := by decide +kernel
theorem dX11_epicycle_105 : decode cX11_epicycle 105 = .ok (.ineg, 1) := by decide +kernel
theorem dX11_epicycle_106 : decode cX11_epicycle 106 = .ok (.invokevirtual 117, 3) := by decide +kernel
theorem dX11_epicycle_109 : decode cX11_epicycle 109 = .ok (.ireturn, 1) := by decide +kernel
def f_H_epicycle (a0 : Int32) (a1 : Int32) (a2 : Int32) (a3 : Int32) (a4 : Int32) (I : Nat → Nat → Int32) (L : Nat → Nat → Int64) : Option (Int32 × (Nat → Nat → Int32) × (Nat → Nat → Int64)) := (if (f_Ge_hasArbor a0 I L) = (0 : Int32) then (some ((-1 : Int32), I, L)) else (if (f_Ge_hasArbor a2 I L) = (0 : Int32) then (some ((-1 : Int32), I, L)) else (if (f_Ge_hasArbor a4 I L) = (0 : Int32) then (some ((-1 : Int32), I, L)) else (if a0 = a2 then (some ((-1 : Int32), I, L)) else (if a0 = a4 then (some ((-1 : Int32), I, L)) else (if a2 = a4 then (some ((-1 : Int32), I, L)) else (bnd (f_H_isWithin a1 (1 : Int32) (200 : Int32)) fun x7 => (if x7 = (0 : Int32) then (some ((-1 : Int32), I, L)) else (bnd (f_H_isWithin a3 (1 : Int32) (200 : Int32)) fun x9 => (if x9 = (0 : Int32) then (some ((-1 : Int32), I, L)) else (if (I 0 8) = (0 : Int32) then ((f_Ge_addLink a0 a1 a2 a3 a4 (-(a1 + a3)) I L).bind fun q12 => (some (q12.1, q12.2.1, q12.2.2))) else (some ((-2 : Int32), I, L)))))))))))))
set_option maxRecDepth 100000 in
set_option maxHeartbeats 4000000 in
theorem c_H_epicycle {G : xG} {S : List xSh} {Rf : Nat → Nat → Option Nat} (hT : xTH S Rf) {a0 : Int32} {a1 : Int32} {a2 : Int32} {a3 : Int32} {a4 : Int32} {I : Nat → Nat → Int32} {L : Nat → Nat → Int64} {q : (Int32 × (Nat → Nat → Int32) × (Nat → Nat → Int64))} (hf : f_H_epicycle a0 a1 a2 a3 a4 I L = some q) : CT G 7 m_H_epicycle [.ref (xP G 0), .int a0, .int a1, .int a2, .int a3, .int a4] (S, I, L, Rf) (some (.int q.1), (S, q.2.1, q.2.2, Rf)) := by
  refine CT.of (by decide +kernel) (Nat.le_of_ble_eq_true rfl) ?_
  show X G 7 m_H_epicycle 0 [(0, .ref (xP G 0)), (1, .int a0), (2, .int a1), (3, .int a2), (4, .int a3), (5, .int a4)] [] (S, I, L, Rf) (some (.int q.1), (S, q.2.1, q.2.2, Rf))
  replace hf := (f_H_epicycle.eq_1 _ _ _ _ _ _ _).symm.trans hf
  refine X_aload_n (pc := 0) (i := 0) 0 dX11_epicycle_0 rfl rfl ?_
  refine X_getr (pc := 1) (a := 0) (ci := 10) (j := 1) (c := 2) (sh_0 hT) (by decide) k_495 (rf_0_1 hT) (fun _ h => h) dX11_epicycle_1 ?_
  refine X_iload_n (pc := 4) (i := 1) 1 dX11_epicycle_4 rfl rfl ?_
  refine X_invV_i (pc := 5) (c_Ge_hasArbor hT rfl) ok_Ge_hasArbor (ci := 6) (sh_2 hT) k_559 k_560 k_561 nd_5 (by decide) rfl (Nat.le_of_ble_eq_true rfl) dX11_epicycle_5 ?_
  by_cases c1 : (f_Ge_hasArbor a0 I L) = (0 : Int32)
  · replace hf := (if_pos c1).symm.trans hf
    refine X_if_eq_t (pc := 8) 34 dX11_epicycle_8 (by decide) c1 ?_
    refine X_iconst (pc := 34) (-1 : Int32) dX11_epicycle_34 (by decide) ?_
    cases hf
    exact X_ireturn (pc := 35) rfl dX11_epicycle_35
  · replace hf := (if_neg c1).symm.trans hf
    refine X_if_eq_f (pc := 8) 34 dX11_epicycle_8 (by decide) c1 ?_
    refine X_aload_n (pc := 11) (i := 0) 0 dX11_epicycle_11 rfl rfl ?_
    refine X_getr (pc := 12) (a := 0) (ci := 10) (j := 1) (c := 2) (sh_0 hT) (by decide) k_495 (rf_0_1 hT) (fun _ h => h) dX11_epicycle_12 ?_
    refine X_iload_n (pc := 15) (i := 3) 3 dX11_epicycle_15 rfl rfl ?_
    refine X_invV_i (pc := 16) (c_Ge_hasArbor hT rfl) ok_Ge_hasArbor (ci := 6) (sh_2 hT) k_559 k_560 k_561 nd_5 (by decide) rfl (Nat.le_of_ble_eq_true rfl) dX11_epicycle_16 ?_
    by_cases c2 : (f_Ge_hasArbor a2 I L) = (0 : Int32)
    · replace hf := (if_pos c2).symm.trans hf
      refine X_if_eq_t (pc := 19) 34 dX11_epicycle_19 (by decide) c2 ?_
      refine X_iconst (pc := 34) (-1 : Int32) dX11_epicycle_34 (by decide) ?_
      cases hf
      exact X_ireturn (pc := 35) rfl dX11_epicycle_35
    · replace hf := (if_neg c2).symm.trans hf
      refine X_if_eq_f (pc := 19) 34 dX11_epicycle_19 (by decide) c2 ?_
      refine X_aload_n (pc := 22) (i := 0) 0 dX11_epicycle_22 rfl rfl ?_
      refine X_getr (pc := 23) (a := 0) (ci := 10) (j := 1) (c := 2) (sh_0 hT) (by decide) k_495 (rf_0_1 hT) (fun _ h => h) dX11_epicycle_23 ?_
      refine X_iload (pc := 26) 5 dX11_epicycle_26 rfl ?_
      refine X_invV_i (pc := 28) (c_Ge_hasArbor hT rfl) ok_Ge_hasArbor (ci := 6) (sh_2 hT) k_559 k_560 k_561 nd_5 (by decide) rfl (Nat.le_of_ble_eq_true rfl) dX11_epicycle_28 ?_
      by_cases c3 : (f_Ge_hasArbor a4 I L) = (0 : Int32)
      · replace hf := (if_pos c3).symm.trans hf
        refine X_if_ne_f (pc := 31) 36 dX11_epicycle_31 (by decide) c3 ?_
        refine X_iconst (pc := 34) (-1 : Int32) dX11_epicycle_34 (by decide) ?_
        cases hf
        exact X_ireturn (pc := 35) rfl dX11_epicycle_35
      · replace hf := (if_neg c3).symm.trans hf
        refine X_if_ne_t (pc := 31) 36 dX11_epicycle_31 (by decide) c3 ?_
        refine X_iload_n (pc := 36) (i := 1) 1 dX11_epicycle_36 rfl rfl ?_
        refine X_iload_n (pc := 37) (i := 3) 3 dX11_epicycle_37 rfl rfl ?_
        by_cases c4 : a0 = a2
        · replace hf := (if_pos c4).symm.trans hf
          refine X_icmp_eq_t (pc := 38) 76 dX11_epicycle_38 (by decide) c4 ?_
          refine X_iconst (pc := 76) (-1 : Int32) dX11_epicycle_76 (by decide) ?_
          cases hf
          exact X_ireturn (pc := 77) rfl dX11_epicycle_77
        · replace hf := (if_neg c4).symm.trans hf
          refine X_icmp_eq_f (pc := 38) 76 dX11_epicycle_38 (by decide) c4 ?_
          refine X_iload_n (pc := 41) (i := 1) 1 dX11_epicycle_41 rfl rfl ?_
          refine X_iload (pc := 42) 5 dX11_epicycle_42 rfl ?_
          by_cases c5 : a0 = a4
          · replace hf := (if_pos c5).symm.trans hf
            refine X_icmp_eq_t (pc := 44) 76 dX11_epicycle_44 (by decide) c5 ?_
            refine X_iconst (pc := 76) (-1 : Int32) dX11_epicycle_76 (by decide) ?_
            cases hf
            exact X_ireturn (pc := 77) rfl dX11_epicycle_77
          · replace hf := (if_neg c5).symm.trans hf
            refine X_icmp_eq_f (pc := 44) 76 dX11_epicycle_44 (by decide) c5 ?_
            refine X_iload_n (pc := 47) (i := 3) 3 dX11_epicycle_47 rfl rfl ?_
            refine X_iload (pc := 48) 5 dX11_epicycle_48 rfl ?_
            by_cases c6 : a2 = a4
            · replace hf := (if_pos c6).symm.trans hf
              refine X_icmp_eq_t (pc := 50) 76 dX11_epicycle_50 (by decide) c6 ?_
              refine X_iconst (pc := 76) (-1 : Int32) dX11_epicycle_76 (by decide) ?_
              cases hf
              exact X_ireturn (pc := 77) rfl dX11_epicycle_77
            · replace hf := (if_neg c6).symm.trans hf
              refine X_icmp_eq_f (pc := 50) 76 dX11_epicycle_50 (by decide) c6 ?_
              refine X_iload_n (pc := 53) (i := 2) 2 dX11_epicycle_53 rfl rfl ?_
              refine X_iconst (pc := 54) (1 : Int32) dX11_epicycle_54 (by decide) ?_
              refine X_sipush (pc := 55) (200 : Int32) dX11_epicycle_55 (by decide) ?_
              refine X_invS_i (pc := 58) (c_H_isWithin hT rfl) ok_H_isWithin k_563 k_564 nd_6 (by decide) rfl (Nat.le_of_ble_eq_true rfl) dX11_epicycle_58 ?_
              obtain ⟨x7, ex7, hf⟩ := bnd_e hf
              refine X_tope ex7 ?_
              by_cases c8 : x7 = (0 : Int32)
              · replace hf := (if_pos c8).symm.trans hf
                refine X_if_eq_t (pc := 61) 76 dX11_epicycle_61 (by decide) c8 ?_
                refine X_iconst (pc := 76) (-1 : Int32) dX11_epicycle_76 (by decide) ?_
                cases hf
                exact X_ireturn (pc := 77) rfl dX11_epicycle_77
              · replace hf := (if_neg c8).symm.trans hf
                refine X_if_eq_f (pc := 61) 76 dX11_epicycle_61 (by decide) c8 ?_
                refine X_iload (pc := 64) 4 dX11_epicycle_64 rfl ?_
                refine X_iconst (pc := 66) (1 : Int32) dX11_epicycle_66 (by decide) ?_
                refine X_sipush (pc := 67) (200 : Int32) dX11_epicycle_67 (by decide) ?_
                refine X_invS_i (pc := 70) (c_H_isWithin hT rfl) ok_H_isWithin k_563 k_564 nd_6 (by decide) rfl (Nat.le_of_ble_eq_true rfl) dX11_epicycle_70 ?_
                obtain ⟨x9, ex9, hf⟩ := bnd_e hf
                refine X_tope ex9 ?_
                by_cases c10 : x9 = (0 : Int32)
                · replace hf := (if_pos c10).symm.trans hf
                  refine X_if_ne_f (pc := 73) 78 dX11_epicycle_73 (by decide) c10 ?_
                  refine X_iconst (pc := 76) (-1 : Int32) dX11_epicycle_76 (by decide) ?_
                  cases hf
                  exact X_ireturn (pc := 77) rfl dX11_epicycle_77
                · replace hf := (if_neg c10).symm.trans hf
                  refine X_if_ne_t (pc := 73) 78 dX11_epicycle_73 (by decide) c10 ?_
                  refine X_aload_n (pc := 78) (i := 0) 0 dX11_epicycle_78 rfl rfl ?_
                  refine X_get (pc := 79) (a := 0) (ci := 10) (j := 11) (.int (I 0 8)) (sh_0 hT) (by decide) k_505 rfl dX11_epicycle_79 ?_
                  by_cases c11 : (I 0 8) = (0 : Int32)
                  · replace hf := (if_pos c11).symm.trans hf
                    refine X_if_eq_t (pc := 82) 90 dX11_epicycle_82 (by decide) c11 ?_
                    refine X_aload_n (pc := 90) (i := 0) 0 dX11_epicycle_90 rfl rfl ?_
                    refine X_getr (pc := 91) (a := 0) (ci := 10) (j := 1) (c := 2) (sh_0 hT) (by decide) k_495 (rf_0_1 hT) (fun _ h => h) dX11_epicycle_91 ?_
                    refine X_iload_n (pc := 94) (i := 1) 1 dX11_epicycle_94 rfl rfl ?_
                    refine X_iload_n (pc := 95) (i := 2) 2 dX11_epicycle_95 rfl rfl ?_
                    refine X_iload_n (pc := 96) (i := 3) 3 dX11_epicycle_96 rfl rfl ?_
                    refine X_iload (pc := 97) 4 dX11_epicycle_97 rfl ?_
                    refine X_iload (pc := 99) 5 dX11_epicycle_99 rfl ?_
                    refine X_iload_n (pc := 101) (i := 2) 2 dX11_epicycle_101 rfl rfl ?_
                    refine X_iload (pc := 102) 4 dX11_epicycle_102 rfl ?_
                    refine X_iadd (pc := 104) dX11_epicycle_104 ?_
                    refine X_ineg (pc := 105) dX11_epicycle_105 ?_
                    obtain ⟨q12, c13, hf⟩ := bd_some hf
                    refine X_invV_i (pc := 106) (c_Ge_addLink hT c13) ok_Ge_addLink (ci := 6) (sh_2 hT) k_566 k_567 k_568 nd_12 (by decide) rfl (Nat.le_of_ble_eq_true rfl) dX11_epicycle_106 ?_
                    cases hf
                    exact X_ireturn (pc := 109) rfl dX11_epicycle_109
                  · replace hf := (if_neg c11).symm.trans hf
                    refine X_if_eq_f (pc := 82) 90 dX11_epicycle_82 (by decide) c11 ?_
                    refine X_bipush (pc := 85) (-2 : Int32) dX11_epicycle_85 (by decide) ?_
                    refine X_goto (pc := 87) 109 dX11_epicycle_87 (by decide) ?_
                    cases hf
                    exact X_ireturn (pc := 109) rfl dX11_epicycle_109
theorem u_H_epicycle {S : List xSh} {a0 : Int32} {a1 : Int32} {a2 : Int32} {a3 : Int32} {a4 : Int32} {I : Nat → Nat → Int32} {L : Nat → Nat → Int64} {q : (Int32 × (Nat → Nat → Int32) × (Nat → Nat → Int64))} (hf : f_H_epicycle a0 a1 a2 a3 a4 I L = some q) : FR S [6, 7, 1201, 1204] [3, 4, 5, 1210, 1211] I q.2.1 L q.2.2 := by
  replace hf := (f_H_epicycle.eq_1 _ _ _ _ _ _ _).symm.trans hf
  by_cases c1 : (f_Ge_hasArbor a0 I L) = (0 : Int32)
  · replace hf := (if_pos c1).symm.trans hf
    cases hf
    exact FR.rf
  · replace hf := (if_neg c1).symm.trans hf
    by_cases c2 : (f_Ge_hasArbor a2 I L) = (0 : Int32)
    · replace hf := (if_pos c2).symm.trans hf
      cases hf
      exact FR.rf
    · replace hf := (if_neg c2).symm.trans hf
      by_cases c3 : (f_Ge_hasArbor a4 I L) = (0 : Int32)
      · replace hf := (if_pos c3).symm.trans hf
        cases hf
        exact FR.rf
      · replace hf := (if_neg c3).symm.trans hf
        by_cases c4 : a0 = a2
        · replace hf := (if_pos c4).symm.trans hf
          cases hf
          exact FR.rf
        · replace hf := (if_neg c4).symm.trans hf
          by_cases c5 : a0 = a4
          · replace hf := (if_pos c5).symm.trans hf
            cases hf
            exact FR.rf
          · replace hf := (if_neg c5).symm.trans hf
            by_cases c6 : a2 = a4
            · replace hf := (if_pos c6).symm.trans hf
              cases hf
              exact FR.rf
            · replace hf := (if_neg c6).symm.trans hf
              obtain ⟨x7, ex7, hf⟩ := bnd_e hf
              by_cases c8 : x7 = (0 : Int32)
              · replace hf := (if_pos c8).symm.trans hf
                cases hf
                exact FR.rf
              · replace hf := (if_neg c8).symm.trans hf
                obtain ⟨x9, ex9, hf⟩ := bnd_e hf
                by_cases c10 : x9 = (0 : Int32)
                · replace hf := (if_pos c10).symm.trans hf
                  cases hf
                  exact FR.rf
                · replace hf := (if_neg c10).symm.trans hf
                  by_cases c11 : (I 0 8) = (0 : Int32)
                  · replace hf := (if_pos c11).symm.trans hf
                    obtain ⟨q12, c13, hf⟩ := bd_some hf
                    cases hf
                    exact (FR.tr FR.rf (u_Ge_addLink (q := q12) c13) (by decide) (by decide))
                  · replace hf := (if_neg c11).symm.trans hf
                    cases hf
                    exact FR.rf
theorem dX6_setEscape_0 : decode cX6_setEscape 0 = .ok (.aload_n 0, 1) := by decide +kernel
theorem dX6_setEscape_1 : decode cX6_setEscape 1 = .ok (.iload_n 1, 1) := by decide +kernel
theorem dX6_setEscape_2 : decode cX6_setEscape 2 = .ok (.putfield 35, 3) := by decide +kernel
theorem dX6_setEscape_5 : decode cX6_setEscape 5 = .ok (.aload_n 0, 1) := by decide +kernel
theorem dX6_setEscape_6 : decode cX6_setEscape 6 = .ok (.iload_n 2, 1) := by decide +kernel
theorem dX6_setEscape_7 : decode cX6_setEscape 7 = .ok (.putfield 38, 3) := by decide +kernel
theorem dX6_setEscape_10 : decode cX6_setEscape 10 = .ok (.aload_n 0, 1) := by decide +kernel
theorem dX6_setEscape_11 : decode cX6_setEscape 11 = .ok (.invokevirtual 56, 3) := by decide +kernel
theorem dX6_setEscape_14 : decode cX6_setEscape 14 = .ok (.return_, 1) := by decide +kernel
def f_Ge_setEscape (a0 : Int32) (a1 : Int32) (I : Nat → Nat → Int32) (L : Nat → Nat → Int64) : Option ((Nat → Nat → Int32) × (Nat → Nat → Int64)) := ((f_Ge_findSpeeds (uI (uI I 2 2 a0) 2 3 a1) L).bind fun q1 => (some (q1.1, q1.2)))
set_option maxRecDepth 100000 in
set_option maxHeartbeats 4000000 in
theorem c_Ge_setEscape {G : xG} {S : List xSh} {Rf : Nat → Nat → Option Nat} (hT : xTH S Rf) {a0 : Int32} {a1 : Int32} {I : Nat → Nat → Int32} {L : Nat → Nat → Int64} {q : ((Nat → Nat → Int32) × (Nat → Nat → Int64))} (hf : f_Ge_setEscape a0 a1 I L = some q) : CT G 6 m_Ge_setEscape [.ref (xP G 2), .int a0, .int a1] (S, I, L, Rf) (none, (S, q.1, q.2, Rf)) := by
  refine CT.of (by decide +kernel) (Nat.le_of_ble_eq_true rfl) ?_
  show X G 6 m_Ge_setEscape 0 [(0, .ref (xP G 2)), (1, .int a0), (2, .int a1)] [] (S, I, L, Rf) (none, (S, q.1, q.2, Rf))
  replace hf := (f_Ge_setEscape.eq_1 _ _ _ _).symm.trans hf
  refine X_aload_n (pc := 0) (i := 0) 0 dX6_setEscape_0 rfl rfl ?_
  refine X_iload_n (pc := 1) (i := 1) 1 dX6_setEscape_1 rfl rfl ?_
  refine X_puti (pc := 2) (a := 2) (ci := 6) (j := 2) 2 rfl false (sh_2 hT) (by decide) k_111 rfl (fun h => by cases h) rfl dX6_setEscape_2 ?_
  refine X_aload_n (pc := 5) (i := 0) 0 dX6_setEscape_5 rfl rfl ?_
  refine X_iload_n (pc := 6) (i := 2) 2 dX6_setEscape_6 rfl rfl ?_
  refine X_puti (pc := 7) (a := 2) (ci := 6) (j := 3) 3 rfl false (sh_2 hT) (by decide) k_113 rfl (fun h => by cases h) rfl dX6_setEscape_7 ?_
  refine X_aload_n (pc := 10) (i := 0) 0 dX6_setEscape_10 rfl rfl ?_
  obtain ⟨q1, c2, hf⟩ := bd_some hf
  refine X_invV_v (pc := 11) (c_Ge_findSpeeds hT c2) ok_Ge_findSpeeds (ci := 6) (sh_2 hT) k_574 k_576 k_3 nd_1 (by decide) rfl (Nat.le_of_ble_eq_true rfl) dX6_setEscape_11 ?_
  cases hf
  exact X_return (pc := 14) rfl dX6_setEscape_14
theorem u_Ge_setEscape {S : List xSh} {a0 : Int32} {a1 : Int32} {I : Nat → Nat → Int32} {L : Nat → Nat → Int64} {q : ((Nat → Nat → Int32) × (Nat → Nat → Int64))} (hf : f_Ge_setEscape a0 a1 I L = some q) : FR S [1202, 1203, 1204] [3, 4, 5, 1210, 1211] I q.1 L q.2 := by
  replace hf := (f_Ge_setEscape.eq_1 _ _ _ _).symm.trans hf
  obtain ⟨q1, c2, hf⟩ := bd_some hf
  cases hf
  exact (FR.tr (FR.fi (FR.fi FR.rf (by decide)) (by decide)) (u_Ge_findSpeeds (q := q1) c2) (by decide) (by decide))
theorem dX11_escape_0 : decode cX11_escape 0 = .ok (.aload_n 0, 1) := by decide +kernel
theorem dX11_escape_1 : decode cX11_escape 1 = .ok (.getfield 20, 3) := by decide +kernel
theorem dX11_escape_4 : decode cX11_escape 4 = .ok (.iload_n 1, 1) := by decide +kernel
theorem dX11_escape_5 : decode cX11_escape 5 = .ok (.invokevirtual 109, 3) := by decide +kernel
theorem dX11_escape_8 : decode cX11_escape 8 = .ok (.ifCond .eq 13, 3) := by decide +kernel
theorem dX11_escape_11 : decode cX11_escape 11 = .ok (.iload_n 2, 1) := by decide +kernel
theorem dX11_escape_12 : decode cX11_escape 12 = .ok (.iconst 1, 1) := by decide +kernel
theorem dX11_escape_13 : decode cX11_escape 13 = .ok (.bipush 60, 2) := by decide +kernel
theorem dX11_escape_15 : decode cX11_escape 15 = .ok (.invokestatic 113, 3) := by decide +kernel
theorem dX11_escape_18 : decode cX11_escape 18 = .ok (.ifCond .ne 5, 3) := by decide +kernel
theorem dX11_escape_21 : decode cX11_escape 21 = .ok (.iconst (-1), 1) := by decide +kernel
theorem dX11_escape_22 : decode cX11_escape 22 = .ok (.ireturn, 1) := by decide +kernel
theorem dX11_escape_23 : decode cX11_escape 23 = .ok (.aload_n 0, 1) := by decide +kernel
theorem dX11_escape_24 : decode cX11_escape 24 = .ok (.getfield 99, 3) := by decide +kernel
theorem dX11_escape_27 : decode cX11_escape 27 = .ok (.ifCond .eq 6, 3) := by decide +kernel
theorem dX11_escape_30 : decode cX11_escape 30 = .ok (.bipush (-2), 2) := by decide +kernel
theorem dX11_escape_32 : decode cX11_escape 32 = .ok (.ireturn, 1) := by decide +kernel
theorem dX11_escape_33 : decode cX11_escape 33 = .ok (.aload_n 0, 1) := by decide +kernel
theorem dX11_escape_34 : decode cX11_escape 34 = .ok (.getfield 20, 3) := by decide +kernel
theorem dX11_escape_37 : decode cX11_escape 37 = .ok (.iload_n 1, 1) := by decide +kernel
theorem dX11_escape_38 : decode cX11_escape 38 = .ok (.iload_n 2, 1) := by decide +kernel
theorem dX11_escape_39 : decode cX11_escape 39 = .ok (.invokevirtual 121, 3) := by decide +kernel
theorem dX11_escape_42 : decode cX11_escape 42 = .ok (.iconst 0, 1) := by decide +kernel
theorem dX11_escape_43 : decode cX11_escape 43 = .ok (.ireturn, 1) := by decide +kernel
def f_H_escape (a0 : Int32) (a1 : Int32) (I : Nat → Nat → Int32) (L : Nat → Nat → Int64) : Option (Int32 × (Nat → Nat → Int32) × (Nat → Nat → Int64)) := (if (f_Ge_hasArbor a0 I L) = (0 : Int32) then (some ((-1 : Int32), I, L)) else (bnd (f_H_isWithin a1 (1 : Int32) (60 : Int32)) fun x2 => (if x2 = (0 : Int32) then (some ((-1 : Int32), I, L)) else (if (I 0 8) = (0 : Int32) then ((f_Ge_setEscape a0 a1 I L).bind fun q5 => (some ((0 : Int32), q5.1, q5.2))) else (some ((-2 : Int32), I, L))))))
set_option maxRecDepth 100000 in
set_option maxHeartbeats 4000000 in
theorem c_H_escape {G : xG} {S : List xSh} {Rf : Nat → Nat → Option Nat} (hT : xTH S Rf) {a0 : Int32} {a1 : Int32} {I : Nat → Nat → Int32} {L : Nat → Nat → Int64} {q : (Int32 × (Nat → Nat → Int32) × (Nat → Nat → Int64))} (hf : f_H_escape a0 a1 I L = some q) : CT G 7 m_H_escape [.ref (xP G 0), .int a0, .int a1] (S, I, L, Rf) (some (.int q.1), (S, q.2.1, q.2.2, Rf)) := by
  refine CT.of (by decide +kernel) (Nat.le_of_ble_eq_true rfl) ?_
  show X G 7 m_H_escape 0 [(0, .ref (xP G 0)), (1, .int a0), (2, .int a1)] [] (S, I, L, Rf) (some (.int q.1), (S, q.2.1, q.2.2, Rf))
  replace hf := (f_H_escape.eq_1 _ _ _ _).symm.trans hf
  refine X_aload_n (pc := 0) (i := 0) 0 dX11_escape_0 rfl rfl ?_
  refine X_getr (pc := 1) (a := 0) (ci := 10) (j := 1) (c := 2) (sh_0 hT) (by decide) k_495 (rf_0_1 hT) (fun _ h => h) dX11_escape_1 ?_
  refine X_iload_n (pc := 4) (i := 1) 1 dX11_escape_4 rfl rfl ?_
  refine X_invV_i (pc := 5) (c_Ge_hasArbor hT rfl) ok_Ge_hasArbor (ci := 6) (sh_2 hT) k_559 k_560 k_561 nd_5 (by decide) rfl (Nat.le_of_ble_eq_true rfl) dX11_escape_5 ?_
  by_cases c1 : (f_Ge_hasArbor a0 I L) = (0 : Int32)
  · replace hf := (if_pos c1).symm.trans hf
    refine X_if_eq_t (pc := 8) 21 dX11_escape_8 (by decide) c1 ?_
    refine X_iconst (pc := 21) (-1 : Int32) dX11_escape_21 (by decide) ?_
    cases hf
    exact X_ireturn (pc := 22) rfl dX11_escape_22
  · replace hf := (if_neg c1).symm.trans hf
    refine X_if_eq_f (pc := 8) 21 dX11_escape_8 (by decide) c1 ?_
    refine X_iload_n (pc := 11) (i := 2) 2 dX11_escape_11 rfl rfl ?_
    refine X_iconst (pc := 12) (1 : Int32) dX11_escape_12 (by decide) ?_
    refine X_bipush (pc := 13) (60 : Int32) dX11_escape_13 (by decide) ?_
    refine X_invS_i (pc := 15) (c_H_isWithin hT rfl) ok_H_isWithin k_563 k_564 nd_6 (by decide) rfl (Nat.le_of_ble_eq_true rfl) dX11_escape_15 ?_
    obtain ⟨x2, ex2, hf⟩ := bnd_e hf
    refine X_tope ex2 ?_
    by_cases c3 : x2 = (0 : Int32)
    · replace hf := (if_pos c3).symm.trans hf
      refine X_if_ne_f (pc := 18) 23 dX11_escape_18 (by decide) c3 ?_
      refine X_iconst (pc := 21) (-1 : Int32) dX11_escape_21 (by decide) ?_
      cases hf
      exact X_ireturn (pc := 22) rfl dX11_escape_22
    · replace hf := (if_neg c3).symm.trans hf
      refine X_if_ne_t (pc := 18) 23 dX11_escape_18 (by decide) c3 ?_
      refine X_aload_n (pc := 23) (i := 0) 0 dX11_escape_23 rfl rfl ?_
      refine X_get (pc := 24) (a := 0) (ci := 10) (j := 11) (.int (I 0 8)) (sh_0 hT) (by decide) k_505 rfl dX11_escape_24 ?_
      by_cases c4 : (I 0 8) = (0 : Int32)
      · replace hf := (if_pos c4).symm.trans hf
        refine X_if_eq_t (pc := 27) 33 dX11_escape_27 (by decide) c4 ?_
        refine X_aload_n (pc := 33) (i := 0) 0 dX11_escape_33 rfl rfl ?_
        refine X_getr (pc := 34) (a := 0) (ci := 10) (j := 1) (c := 2) (sh_0 hT) (by decide) k_495 (rf_0_1 hT) (fun _ h => h) dX11_escape_34 ?_
        refine X_iload_n (pc := 37) (i := 1) 1 dX11_escape_37 rfl rfl ?_
        refine X_iload_n (pc := 38) (i := 2) 2 dX11_escape_38 rfl rfl ?_
        obtain ⟨q5, c6, hf⟩ := bd_some hf
        refine X_invV_v (pc := 39) (c_Ge_setEscape hT c6) ok_Ge_setEscape (ci := 6) (sh_2 hT) k_617 k_618 k_619 nd_10 (by decide) rfl (Nat.le_of_ble_eq_true rfl) dX11_escape_39 ?_
        refine X_iconst (pc := 42) (0 : Int32) dX11_escape_42 (by decide) ?_
        cases hf
        exact X_ireturn (pc := 43) rfl dX11_escape_43
      · replace hf := (if_neg c4).symm.trans hf
        refine X_if_eq_f (pc := 27) 33 dX11_escape_27 (by decide) c4 ?_
        refine X_bipush (pc := 30) (-2 : Int32) dX11_escape_30 (by decide) ?_
        cases hf
        exact X_ireturn (pc := 32) rfl dX11_escape_32
theorem u_H_escape {S : List xSh} {a0 : Int32} {a1 : Int32} {I : Nat → Nat → Int32} {L : Nat → Nat → Int64} {q : (Int32 × (Nat → Nat → Int32) × (Nat → Nat → Int64))} (hf : f_H_escape a0 a1 I L = some q) : FR S [1202, 1203, 1204] [3, 4, 5, 1210, 1211] I q.2.1 L q.2.2 := by
  replace hf := (f_H_escape.eq_1 _ _ _ _).symm.trans hf
  by_cases c1 : (f_Ge_hasArbor a0 I L) = (0 : Int32)
  · replace hf := (if_pos c1).symm.trans hf
    cases hf
    exact FR.rf
  · replace hf := (if_neg c1).symm.trans hf
    obtain ⟨x2, ex2, hf⟩ := bnd_e hf
    by_cases c3 : x2 = (0 : Int32)
    · replace hf := (if_pos c3).symm.trans hf
      cases hf
      exact FR.rf
    · replace hf := (if_neg c3).symm.trans hf
      by_cases c4 : (I 0 8) = (0 : Int32)
      · replace hf := (if_pos c4).symm.trans hf
        obtain ⟨q5, c6, hf⟩ := bd_some hf
        cases hf
        exact (FR.tr FR.rf (u_Ge_setEscape (q := q5) c6) (by decide) (by decide))
      · replace hf := (if_neg c4).symm.trans hf
        cases hf
        exact FR.rf
theorem dX11_balance_0 : decode cX11_balance 0 = .ok (.iload_n 1, 1) := by decide +kernel
theorem dX11_balance_1 : decode cX11_balance 1 = .ok (.iconst 1, 1) := by decide +kernel
theorem dX11_balance_2 : decode cX11_balance 2 = .ok (.sipush 4096, 3) := by decide +kernel
theorem dX11_balance_5 : decode cX11_balance 5 = .ok (.invokestatic 113, 3) := by decide +kernel
theorem dX11_balance_8 : decode cX11_balance 8 = .ok (.ifCond .eq 14, 3) := by decide +kernel
theorem dX11_balance_11 : decode cX11_balance 11 = .ok (.iload_n 2, 1) := by decide +kernel
theorem dX11_balance_12 : decode cX11_balance 12 = .ok (.iconst 0, 1) := by decide +kernel
theorem dX11_balance_13 : decode cX11_balance 13 = .ok (.sipush 1000, 3) := by decide +kernel
theorem dX11_balance_16 : decode cX11_balance 16 = .ok (.invokestatic 113, 3) := by decide +kernel
theorem dX11_balance_19 : decode cX11_balance 19 = .ok (.ifCond .ne 5, 3) := by decide +kernel
theorem dX11_balance_22 : decode cX11_balance 22 = .ok (.iconst (-1), 1) := by decide +kernel
theorem dX11_balance_23 : decode cX11_balance 23 = .ok (.ireturn, 1) := by decide +kernel
theorem dX11_balance_24 : decode cX11_balance 24 = .ok (.iload_n 3, 1) := by decide +kernel
theorem dX11_balance_25 : decode cX11_balance 25 = .ok (.iconst 0, 1) := by decide +kernel
theorem dX11_balance_26 : decode cX11_balance 26 = .ok (.ldc 124, 2) := by decide +kernel
theorem dX11_balance_28 : decode cX11_balance 28 = .ok (.invokestatic 113, 3) := by decide +kernel
theorem dX11_balance_31 : decode cX11_balance 31 = .ok (.ifCond .eq 14, 3) := by decide +kernel
theorem dX11_balance_34 : decode cX11_balance 34 = .ok (.iload 4, 2) := by decide +kernel
theorem dX11_balance_36 : decode cX11_balance 36 = .ok (.iconst 1, 1) := by decide +kernel
theorem dX11_balance_37 : decode cX11_balance 37 = .ok (.ldc 125, 2) := by decide +kernel
theorem dX11_balance_39 : decode cX11_balance 39 = .ok (.invokestatic 113, 3) := by decide +kernel
theorem dX11_balance_42 : decode cX11_balance 42 = .ok (.ifCond .ne 5, 3) := by decide +kernel
theorem dX11_balance_45 : decode cX11_balance 45 = .ok (.iconst (-1), 1) := by decide +kernel
theorem dX11_balance_46 : decode cX11_balance 46 = .ok (.ireturn, 1) := by decide +kernel
theorem dX11_balance_47 : decode cX11_balance 47 = .ok (.aload_n 0, 1) := by decide +kernel
theorem dX11_balance_48 : decode cX11_balance 48 = .ok (.getfield 99, 3) := by decide +kernel
theorem dX11_balance_51 : decode cX11_balance 51 = .ok (.ifCond .eq 6, 3) := by decide +kernel
theorem dX11_balance_54 : decode cX11_balance 54 = .ok (.bipush (-2), 2) := by decide +kernel
theorem dX11_balance_56 : decode cX11_balance 56 = .ok (.ireturn, 1) := by decide +kernel
theorem dX11_balance_57 : decode cX11_balance 57 = .ok (.aload_n 0, 1) := by decide +kernel
theorem dX11_balance_58 : decode cX11_balance 58 = .ok (.getfield 10, 3) := by decide +kernel
theorem dX11_balance_61 : decode cX11_balance 61 = .ok (.iload_n 1, 1) := by decide +kernel
theorem dX11_balance_62 : decode cX11_balance 62 = .ok (.iload_n 2, 1) := by decide +kernel
theorem dX11_balance_63 : decode cX11_balance 63 = .ok (.iload_n 3, 1) := by decide +kernel
theorem dX11_balance_64 : decode cX11_balance 64 = .ok (.iload 4, 2) := by decide +kernel
theorem dX11_balance_66 : decode cX11_balance 66 = .ok (.invokevirtual 126, 3) := by decide +kernel
theorem dX11_balance_69 : decode cX11_balance 69 = .ok (.iconst 0, 1) := by decide +kernel
theorem dX11_balance_70 : decode cX11_balance 70 = .ok (.ireturn, 1) := by decide +kernel
def f_H_balance (a0 : Int32) (a1 : Int32) (a2 : Int32) (a3 : Int32) (I : Nat → Nat → Int32) (L : Nat → Nat → Int64) : Option (Int32 × (Nat → Nat → Int32) × (Nat → Nat → Int64)) := (bnd (f_H_isWithin a0 (1 : Int32) (4096 : Int32)) fun x1 => (if x1 = (0 : Int32) then (some ((-1 : Int32), I, L)) else (bnd (f_H_isWithin a1 (0 : Int32) (1000 : Int32)) fun x3 => (if x3 = (0 : Int32) then (some ((-1 : Int32), I, L)) else (bnd (f_H_isWithin a2 (0 : Int32) (65536 : Int32)) fun x5 => (if x5 = (0 : Int32) then (some ((-1 : Int32), I, L)) else (bnd (f_H_isWithin a3 (1 : Int32) (10000000 : Int32)) fun x7 => (if x7 = (0 : Int32) then (some ((-1 : Int32), I, L)) else (if (I 0 8) = (0 : Int32) then ((f_Es_setBalance a0 a1 a2 a3 I L).bind fun q10 => (some ((0 : Int32), q10.1, q10.2))) else (some ((-2 : Int32), I, L)))))))))))
set_option maxRecDepth 100000 in
set_option maxHeartbeats 4000000 in
theorem c_H_balance {G : xG} {S : List xSh} {Rf : Nat → Nat → Option Nat} (hT : xTH S Rf) {a0 : Int32} {a1 : Int32} {a2 : Int32} {a3 : Int32} {I : Nat → Nat → Int32} {L : Nat → Nat → Int64} {q : (Int32 × (Nat → Nat → Int32) × (Nat → Nat → Int64))} (hf : f_H_balance a0 a1 a2 a3 I L = some q) : CT G 2 m_H_balance [.ref (xP G 0), .int a0, .int a1, .int a2, .int a3] (S, I, L, Rf) (some (.int q.1), (S, q.2.1, q.2.2, Rf)) := by
  refine CT.of (by decide +kernel) (Nat.le_of_ble_eq_true rfl) ?_
  show X G 2 m_H_balance 0 [(0, .ref (xP G 0)), (1, .int a0), (2, .int a1), (3, .int a2), (4, .int a3)] [] (S, I, L, Rf) (some (.int q.1), (S, q.2.1, q.2.2, Rf))
  replace hf := (f_H_balance.eq_1 _ _ _ _ _ _).symm.trans hf
  refine X_iload_n (pc := 0) (i := 1) 1 dX11_balance_0 rfl rfl ?_
  refine X_iconst (pc := 1) (1 : Int32) dX11_balance_1 (by decide) ?_
  refine X_sipush (pc := 2) (4096 : Int32) dX11_balance_2 (by decide) ?_
  refine X_invS_i (pc := 5) (c_H_isWithin hT rfl) ok_H_isWithin k_563 k_564 nd_6 (by decide) rfl (Nat.le_of_ble_eq_true rfl) dX11_balance_5 ?_
  obtain ⟨x1, ex1, hf⟩ := bnd_e hf
  refine X_tope ex1 ?_
  by_cases c2 : x1 = (0 : Int32)
  · replace hf := (if_pos c2).symm.trans hf
    refine X_if_eq_t (pc := 8) 22 dX11_balance_8 (by decide) c2 ?_
    refine X_iconst (pc := 22) (-1 : Int32) dX11_balance_22 (by decide) ?_
    cases hf
    exact X_ireturn (pc := 23) rfl dX11_balance_23
  · replace hf := (if_neg c2).symm.trans hf
    refine X_if_eq_f (pc := 8) 22 dX11_balance_8 (by decide) c2 ?_
    refine X_iload_n (pc := 11) (i := 2) 2 dX11_balance_11 rfl rfl ?_
    refine X_iconst (pc := 12) (0 : Int32) dX11_balance_12 (by decide) ?_
    refine X_sipush (pc := 13) (1000 : Int32) dX11_balance_13 (by decide) ?_
    refine X_invS_i (pc := 16) (c_H_isWithin hT rfl) ok_H_isWithin k_563 k_564 nd_6 (by decide) rfl (Nat.le_of_ble_eq_true rfl) dX11_balance_16 ?_
    obtain ⟨x3, ex3, hf⟩ := bnd_e hf
    refine X_tope ex3 ?_
    by_cases c4 : x3 = (0 : Int32)
    · replace hf := (if_pos c4).symm.trans hf
      refine X_if_ne_f (pc := 19) 24 dX11_balance_19 (by decide) c4 ?_
      refine X_iconst (pc := 22) (-1 : Int32) dX11_balance_22 (by decide) ?_
      cases hf
      exact X_ireturn (pc := 23) rfl dX11_balance_23
    · replace hf := (if_neg c4).symm.trans hf
      refine X_if_ne_t (pc := 19) 24 dX11_balance_19 (by decide) c4 ?_
      refine X_iload_n (pc := 24) (i := 3) 3 dX11_balance_24 rfl rfl ?_
      refine X_iconst (pc := 25) (0 : Int32) dX11_balance_25 (by decide) ?_
      refine X_ldc (pc := 26) (65536 : Int32) k_625 dX11_balance_26 ?_
      refine X_invS_i (pc := 28) (c_H_isWithin hT rfl) ok_H_isWithin k_563 k_564 nd_6 (by decide) rfl (Nat.le_of_ble_eq_true rfl) dX11_balance_28 ?_
      obtain ⟨x5, ex5, hf⟩ := bnd_e hf
      refine X_tope ex5 ?_
      by_cases c6 : x5 = (0 : Int32)
      · replace hf := (if_pos c6).symm.trans hf
        refine X_if_eq_t (pc := 31) 45 dX11_balance_31 (by decide) c6 ?_
        refine X_iconst (pc := 45) (-1 : Int32) dX11_balance_45 (by decide) ?_
        cases hf
        exact X_ireturn (pc := 46) rfl dX11_balance_46
      · replace hf := (if_neg c6).symm.trans hf
        refine X_if_eq_f (pc := 31) 45 dX11_balance_31 (by decide) c6 ?_
        refine X_iload (pc := 34) 4 dX11_balance_34 rfl ?_
        refine X_iconst (pc := 36) (1 : Int32) dX11_balance_36 (by decide) ?_
        refine X_ldc (pc := 37) (10000000 : Int32) k_626 dX11_balance_37 ?_
        refine X_invS_i (pc := 39) (c_H_isWithin hT rfl) ok_H_isWithin k_563 k_564 nd_6 (by decide) rfl (Nat.le_of_ble_eq_true rfl) dX11_balance_39 ?_
        obtain ⟨x7, ex7, hf⟩ := bnd_e hf
        refine X_tope ex7 ?_
        by_cases c8 : x7 = (0 : Int32)
        · replace hf := (if_pos c8).symm.trans hf
          refine X_if_ne_f (pc := 42) 47 dX11_balance_42 (by decide) c8 ?_
          refine X_iconst (pc := 45) (-1 : Int32) dX11_balance_45 (by decide) ?_
          cases hf
          exact X_ireturn (pc := 46) rfl dX11_balance_46
        · replace hf := (if_neg c8).symm.trans hf
          refine X_if_ne_t (pc := 42) 47 dX11_balance_42 (by decide) c8 ?_
          refine X_aload_n (pc := 47) (i := 0) 0 dX11_balance_47 rfl rfl ?_
          refine X_get (pc := 48) (a := 0) (ci := 10) (j := 11) (.int (I 0 8)) (sh_0 hT) (by decide) k_505 rfl dX11_balance_48 ?_
          by_cases c9 : (I 0 8) = (0 : Int32)
          · replace hf := (if_pos c9).symm.trans hf
            refine X_if_eq_t (pc := 51) 57 dX11_balance_51 (by decide) c9 ?_
            refine X_aload_n (pc := 57) (i := 0) 0 dX11_balance_57 rfl rfl ?_
            refine X_getr (pc := 58) (a := 0) (ci := 10) (j := 0) (c := 1) (sh_0 hT) (by decide) k_494 (rf_0_0 hT) (fun _ h => h) dX11_balance_58 ?_
            refine X_iload_n (pc := 61) (i := 1) 1 dX11_balance_61 rfl rfl ?_
            refine X_iload_n (pc := 62) (i := 2) 2 dX11_balance_62 rfl rfl ?_
            refine X_iload_n (pc := 63) (i := 3) 3 dX11_balance_63 rfl rfl ?_
            refine X_iload (pc := 64) 4 dX11_balance_64 rfl ?_
            obtain ⟨q10, c11, hf⟩ := bd_some hf
            refine X_invV_v (pc := 66) (c_Es_setBalance hT c11) ok_Es_setBalance (ci := 5) (sh_1 hT) k_627 k_484 k_485 nd_2 (by decide) rfl (Nat.le_of_ble_eq_true rfl) dX11_balance_66 ?_
            refine X_iconst (pc := 69) (0 : Int32) dX11_balance_69 (by decide) ?_
            cases hf
            exact X_ireturn (pc := 70) rfl dX11_balance_70
          · replace hf := (if_neg c9).symm.trans hf
            refine X_if_eq_f (pc := 51) 57 dX11_balance_51 (by decide) c9 ?_
            refine X_bipush (pc := 54) (-2 : Int32) dX11_balance_54 (by decide) ?_
            cases hf
            exact X_ireturn (pc := 56) rfl dX11_balance_56
theorem u_H_balance {S : List xSh} {a0 : Int32} {a1 : Int32} {a2 : Int32} {a3 : Int32} {I : Nat → Nat → Int32} {L : Nat → Nat → Int64} {q : (Int32 × (Nat → Nat → Int32) × (Nat → Nat → Int64))} (hf : f_H_balance a0 a1 a2 a3 I L = some q) : FR S [1101, 1102, 1103, 1104] [] I q.2.1 L q.2.2 := by
  replace hf := (f_H_balance.eq_1 _ _ _ _ _ _).symm.trans hf
  obtain ⟨x1, ex1, hf⟩ := bnd_e hf
  by_cases c2 : x1 = (0 : Int32)
  · replace hf := (if_pos c2).symm.trans hf
    cases hf
    exact FR.rf
  · replace hf := (if_neg c2).symm.trans hf
    obtain ⟨x3, ex3, hf⟩ := bnd_e hf
    by_cases c4 : x3 = (0 : Int32)
    · replace hf := (if_pos c4).symm.trans hf
      cases hf
      exact FR.rf
    · replace hf := (if_neg c4).symm.trans hf
      obtain ⟨x5, ex5, hf⟩ := bnd_e hf
      by_cases c6 : x5 = (0 : Int32)
      · replace hf := (if_pos c6).symm.trans hf
        cases hf
        exact FR.rf
      · replace hf := (if_neg c6).symm.trans hf
        obtain ⟨x7, ex7, hf⟩ := bnd_e hf
        by_cases c8 : x7 = (0 : Int32)
        · replace hf := (if_pos c8).symm.trans hf
          cases hf
          exact FR.rf
        · replace hf := (if_neg c8).symm.trans hf
          by_cases c9 : (I 0 8) = (0 : Int32)
          · replace hf := (if_pos c9).symm.trans hf
            obtain ⟨q10, c11, hf⟩ := bd_some hf
            cases hf
            exact (FR.tr FR.rf (u_Es_setBalance (q := q10) c11) (by decide) (by decide))
          · replace hf := (if_neg c9).symm.trans hf
            cases hf
            exact FR.rf
theorem dX11_barrel_0 : decode cX11_barrel 0 = .ok (.iload_n 1, 1) := by decide +kernel
theorem dX11_barrel_1 : decode cX11_barrel 1 = .ok (.iconst (-1), 1) := by decide +kernel
theorem dX11_barrel_2 : decode cX11_barrel 2 = .ok (.if_icmp .eq 16, 3) := by decide +kernel
theorem dX11_barrel_5 : decode cX11_barrel 5 = .ok (.aload_n 0, 1) := by decide +kernel
theorem dX11_barrel_6 : decode cX11_barrel 6 = .ok (.getfield 20, 3) := by decide +kernel
theorem dX11_barrel_9 : decode cX11_barrel 9 = .ok (.iload_n 1, 1) := by decide +kernel
theorem dX11_barrel_10 : decode cX11_barrel 10 = .ok (.invokevirtual 109, 3) := by decide +kernel
theorem dX11_barrel_13 : decode cX11_barrel 13 = .ok (.ifCond .ne 5, 3) := by decide +kernel
theorem dX11_barrel_16 : decode cX11_barrel 16 = .ok (.iconst (-1), 1) := by decide +kernel
theorem dX11_barrel_17 : decode cX11_barrel 17 = .ok (.ireturn, 1) := by decide +kernel
theorem dX11_barrel_18 : decode cX11_barrel 18 = .ok (.aload_n 0, 1) := by decide +kernel
theorem dX11_barrel_19 : decode cX11_barrel 19 = .ok (.getfield 99, 3) := by decide +kernel
theorem dX11_barrel_22 : decode cX11_barrel 22 = .ok (.ifCond .eq 6, 3) := by decide +kernel
theorem dX11_barrel_25 : decode cX11_barrel 25 = .ok (.bipush (-2), 2) := by decide +kernel
theorem dX11_barrel_27 : decode cX11_barrel 27 = .ok (.ireturn, 1) := by decide +kernel
theorem dX11_barrel_28 : decode cX11_barrel 28 = .ok (.aload_n 0, 1) := by decide +kernel
theorem dX11_barrel_29 : decode cX11_barrel 29 = .ok (.getfield 10, 3) := by decide +kernel
theorem dX11_barrel_32 : decode cX11_barrel 32 = .ok (.iload_n 1, 1) := by decide +kernel
theorem dX11_barrel_33 : decode cX11_barrel 33 = .ok (.putfield 130, 3) := by decide +kernel
theorem dX11_barrel_36 : decode cX11_barrel 36 = .ok (.iconst 0, 1) := by decide +kernel
theorem dX11_barrel_37 : decode cX11_barrel 37 = .ok (.ireturn, 1) := by decide +kernel
def f_H_barrel_L18 (l1 : Int32) (I : (Nat → Nat → Int32)) (L : (Nat → Nat → Int64)) : Option (Int32 × (Nat → Nat → Int32) × (Nat → Nat → Int64)) := (if (I 0 8) = (0 : Int32) then (some ((0 : Int32), (uI I 1 5 l1), L)) else (some ((-2 : Int32), I, L)))
set_option maxRecDepth 100000 in
set_option maxHeartbeats 4000000 in
theorem x_H_barrel_L18 {G : xG} {S : List xSh} {Rf : Nat → Nat → Option Nat} (hT : xTH S Rf) {l1 : Int32} {I : Nat → Nat → Int32} {L : Nat → Nat → Int64} {q : (Int32 × (Nat → Nat → Int32) × (Nat → Nat → Int64))} (hf : f_H_barrel_L18 l1 I L = some q) : X G 2 m_H_barrel 18 [(0, .ref (xP G 0)), (1, .int l1)] [] (S, I, L, Rf) (some (.int q.1), (S, q.2.1, q.2.2, Rf)) := by
  replace hf := (f_H_barrel_L18.eq_1 _ _ _).symm.trans hf
  refine X_aload_n (pc := 18) (i := 0) 0 dX11_barrel_18 rfl rfl ?_
  refine X_get (pc := 19) (a := 0) (ci := 10) (j := 11) (.int (I 0 8)) (sh_0 hT) (by decide) k_505 rfl dX11_barrel_19 ?_
  by_cases c2 : (I 0 8) = (0 : Int32)
  · replace hf := (if_pos c2).symm.trans hf
    refine X_if_eq_t (pc := 22) 28 dX11_barrel_22 (by decide) c2 ?_
    refine X_aload_n (pc := 28) (i := 0) 0 dX11_barrel_28 rfl rfl ?_
    refine X_getr (pc := 29) (a := 0) (ci := 10) (j := 0) (c := 1) (sh_0 hT) (by decide) k_494 (rf_0_0 hT) (fun _ h => h) dX11_barrel_29 ?_
    refine X_iload_n (pc := 32) (i := 1) 1 dX11_barrel_32 rfl rfl ?_
    refine X_puti (pc := 33) (a := 1) (ci := 5) (j := 5) 5 rfl false (sh_1 hT) (by decide) k_180 rfl (fun h => by cases h) rfl dX11_barrel_33 ?_
    refine X_iconst (pc := 36) (0 : Int32) dX11_barrel_36 (by decide) ?_
    cases hf
    exact X_ireturn (pc := 37) rfl dX11_barrel_37
  · replace hf := (if_neg c2).symm.trans hf
    refine X_if_eq_f (pc := 22) 28 dX11_barrel_22 (by decide) c2 ?_
    refine X_bipush (pc := 25) (-2 : Int32) dX11_barrel_25 (by decide) ?_
    cases hf
    exact X_ireturn (pc := 27) rfl dX11_barrel_27
theorem u_H_barrel_L18 {S : List xSh} {l1 : Int32} {I : Nat → Nat → Int32} {L : Nat → Nat → Int64} {q : (Int32 × (Nat → Nat → Int32) × (Nat → Nat → Int64))} (hf : f_H_barrel_L18 l1 I L = some q) : FR S [1105] [] I q.2.1 L q.2.2 := by
  replace hf := (f_H_barrel_L18.eq_1 _ _ _).symm.trans hf
  by_cases c2 : (I 0 8) = (0 : Int32)
  · replace hf := (if_pos c2).symm.trans hf
    cases hf
    exact (FR.fi FR.rf (by decide))
  · replace hf := (if_neg c2).symm.trans hf
    cases hf
    exact FR.rf
def f_H_barrel (a0 : Int32) (I : Nat → Nat → Int32) (L : Nat → Nat → Int64) : Option (Int32 × (Nat → Nat → Int32) × (Nat → Nat → Int64)) := (if a0 = (-1 : Int32) then (f_H_barrel_L18 a0 I L) else (if (f_Ge_hasArbor a0 I L) = (0 : Int32) then (some ((-1 : Int32), I, L)) else (f_H_barrel_L18 a0 I L)))
set_option maxRecDepth 100000 in
set_option maxHeartbeats 4000000 in
theorem c_H_barrel {G : xG} {S : List xSh} {Rf : Nat → Nat → Option Nat} (hT : xTH S Rf) {a0 : Int32} {I : Nat → Nat → Int32} {L : Nat → Nat → Int64} {q : (Int32 × (Nat → Nat → Int32) × (Nat → Nat → Int64))} (hf : f_H_barrel a0 I L = some q) : CT G 2 m_H_barrel [.ref (xP G 0), .int a0] (S, I, L, Rf) (some (.int q.1), (S, q.2.1, q.2.2, Rf)) := by
  refine CT.of (by decide +kernel) (Nat.le_of_ble_eq_true rfl) ?_
  show X G 2 m_H_barrel 0 [(0, .ref (xP G 0)), (1, .int a0)] [] (S, I, L, Rf) (some (.int q.1), (S, q.2.1, q.2.2, Rf))
  replace hf := (f_H_barrel.eq_1 _ _ _).symm.trans hf
  refine X_iload_n (pc := 0) (i := 1) 1 dX11_barrel_0 rfl rfl ?_
  refine X_iconst (pc := 1) (-1 : Int32) dX11_barrel_1 (by decide) ?_
  by_cases c1 : a0 = (-1 : Int32)
  · replace hf := (if_pos c1).symm.trans hf
    refine X_icmp_eq_t (pc := 2) 18 dX11_barrel_2 (by decide) c1 ?_
    exact X_lvs [0, 1] rfl (x_H_barrel_L18 hT hf)
  · replace hf := (if_neg c1).symm.trans hf
    refine X_icmp_eq_f (pc := 2) 18 dX11_barrel_2 (by decide) c1 ?_
    refine X_aload_n (pc := 5) (i := 0) 0 dX11_barrel_5 rfl rfl ?_
    refine X_getr (pc := 6) (a := 0) (ci := 10) (j := 1) (c := 2) (sh_0 hT) (by decide) k_495 (rf_0_1 hT) (fun _ h => h) dX11_barrel_6 ?_
    refine X_iload_n (pc := 9) (i := 1) 1 dX11_barrel_9 rfl rfl ?_
    refine X_invV_i (pc := 10) (c_Ge_hasArbor hT rfl) ok_Ge_hasArbor (ci := 6) (sh_2 hT) k_559 k_560 k_561 nd_5 (by decide) rfl (Nat.le_of_ble_eq_true rfl) dX11_barrel_10 ?_
    by_cases c3 : (f_Ge_hasArbor a0 I L) = (0 : Int32)
    · replace hf := (if_pos c3).symm.trans hf
      refine X_if_ne_f (pc := 13) 18 dX11_barrel_13 (by decide) c3 ?_
      refine X_iconst (pc := 16) (-1 : Int32) dX11_barrel_16 (by decide) ?_
      cases hf
      exact X_ireturn (pc := 17) rfl dX11_barrel_17
    · replace hf := (if_neg c3).symm.trans hf
      refine X_if_ne_t (pc := 13) 18 dX11_barrel_13 (by decide) c3 ?_
      exact X_lvs [0, 1] rfl (x_H_barrel_L18 hT hf)
theorem u_H_barrel {S : List xSh} {a0 : Int32} {I : Nat → Nat → Int32} {L : Nat → Nat → Int64} {q : (Int32 × (Nat → Nat → Int32) × (Nat → Nat → Int64))} (hf : f_H_barrel a0 I L = some q) : FR S [1105] [] I q.2.1 L q.2.2 := by
  replace hf := (f_H_barrel.eq_1 _ _ _).symm.trans hf
  by_cases c1 : a0 = (-1 : Int32)
  · replace hf := (if_pos c1).symm.trans hf
    exact FR.tr FR.rf (u_H_barrel_L18 hf) (by decide) (by decide)
  · replace hf := (if_neg c1).symm.trans hf
    by_cases c3 : (f_Ge_hasArbor a0 I L) = (0 : Int32)
    · replace hf := (if_pos c3).symm.trans hf
      cases hf
      exact FR.rf
    · replace hf := (if_neg c3).symm.trans hf
      exact FR.tr FR.rf (u_H_barrel_L18 hf) (by decide) (by decide)
theorem dX11_torque_0 : decode cX11_torque 0 = .ok (.iload_n 1, 1) := by decide +kernel
theorem dX11_torque_1 : decode cX11_torque 1 = .ok (.iconst 0, 1) := by decide +kernel
theorem dX11_torque_2 : decode cX11_torque 2 = .ok (.bipush 8, 2) := by decide +kernel
theorem dX11_torque_4 : decode cX11_torque 4 = .ok (.invokestatic 113, 3) := by decide +kernel
theorem dX11_torque_7 : decode cX11_torque 7 = .ok (.ifCond .eq 13, 3) := by decide +kernel
theorem dX11_torque_10 : decode cX11_torque 10 = .ok (.iload_n 2, 1) := by decide +kernel
theorem dX11_torque_11 : decode cX11_torque 11 = .ok (.iconst 0, 1) := by decide +kernel
theorem dX11_torque_12 : decode cX11_torque 12 = .ok (.ldc 133, 2) := by decide +kernel
theorem dX11_torque_14 : decode cX11_torque 14 = .ok (.invokestatic 113, 3) := by decide +kernel
theorem dX11_torque_17 : decode cX11_torque 17 = .ok (.ifCond .ne 5, 3) := by decide +kernel
theorem dX11_torque_20 : decode cX11_torque 20 = .ok (.iconst (-1), 1) := by decide +kernel
theorem dX11_torque_21 : decode cX11_torque 21 = .ok (.ireturn, 1) := by decide +kernel
theorem dX11_torque_22 : decode cX11_torque 22 = .ok (.aload_n 0, 1) := by decide +kernel
theorem dX11_torque_23 : decode cX11_torque 23 = .ok (.getfield 99, 3) := by decide +kernel
theorem dX11_torque_26 : decode cX11_torque 26 = .ok (.ifCond .eq 6, 3) := by decide +kernel
theorem dX11_torque_29 : decode cX11_torque 29 = .ok (.bipush (-2), 2) := by decide +kernel
theorem dX11_torque_31 : decode cX11_torque 31 = .ok (.ireturn, 1) := by decide +kernel
theorem dX11_torque_32 : decode cX11_torque 32 = .ok (.aload_n 0, 1) := by decide +kernel
theorem dX11_torque_33 : decode cX11_torque 33 = .ok (.getfield 10, 3) := by decide +kernel
theorem dX11_torque_36 : decode cX11_torque 36 = .ok (.getfield 134, 3) := by decide +kernel
theorem dX11_torque_39 : decode cX11_torque 39 = .ok (.iload_n 1, 1) := by decide +kernel
theorem dX11_torque_40 : decode cX11_torque 40 = .ok (.iaload, 1) := by decide +kernel
theorem dX11_torque_41 : decode cX11_torque 41 = .ok (.istore_n 3, 1) := by decide +kernel
theorem dX11_torque_42 : decode cX11_torque 42 = .ok (.aload_n 0, 1) := by decide +kernel
theorem dX11_torque_43 : decode cX11_torque 43 = .ok (.getfield 10, 3) := by decide +kernel
theorem dX11_torque_46 : decode cX11_torque 46 = .ok (.getfield 134, 3) := by decide +kernel
theorem dX11_torque_49 : decode cX11_torque 49 = .ok (.iload_n 1, 1) := by decide +kernel
theorem dX11_torque_50 : decode cX11_torque 50 = .ok (.iload_n 2, 1) := by decide +kernel
theorem dX11_torque_51 : decode cX11_torque 51 = .ok (.iastore, 1) := by decide +kernel
theorem dX11_torque_52 : decode cX11_torque 52 = .ok (.iload_n 3, 1) := by decide +kernel
theorem dX11_torque_53 : decode cX11_torque 53 = .ok (.ireturn, 1) := by decide +kernel
def f_H_torque (a0 : Int32) (a1 : Int32) (I : Nat → Nat → Int32) (L : Nat → Nat → Int64) : Option (Int32 × (Nat → Nat → Int32) × (Nat → Nat → Int64)) := (bnd (f_H_isWithin a0 (0 : Int32) (8 : Int32)) fun x1 => (if x1 = (0 : Int32) then (some ((-1 : Int32), I, L)) else (bnd (f_H_isWithin a1 (0 : Int32) (1000000 : Int32)) fun x3 => (if x3 = (0 : Int32) then (some ((-1 : Int32), I, L)) else (if (I 0 8) = (0 : Int32) then (if (0 ≤ a0 ∧ a0 < (9 : Int32)) then (bnd (I 8 (a0.toNatClampNeg)) fun x7 => (if (0 ≤ a0 ∧ a0 < (9 : Int32)) then (some (x7, (uI I 8 (a0.toNatClampNeg) a1), L)) else none)) else none) else (some ((-2 : Int32), I, L)))))))
set_option maxRecDepth 100000 in
set_option maxHeartbeats 4000000 in
theorem c_H_torque {G : xG} {S : List xSh} {Rf : Nat → Nat → Option Nat} (hT : xTH S Rf) {a0 : Int32} {a1 : Int32} {I : Nat → Nat → Int32} {L : Nat → Nat → Int64} {q : (Int32 × (Nat → Nat → Int32) × (Nat → Nat → Int64))} (hf : f_H_torque a0 a1 I L = some q) : CT G 2 m_H_torque [.ref (xP G 0), .int a0, .int a1] (S, I, L, Rf) (some (.int q.1), (S, q.2.1, q.2.2, Rf)) := by
  refine CT.of (by decide +kernel) (Nat.le_of_ble_eq_true rfl) ?_
  show X G 2 m_H_torque 0 [(0, .ref (xP G 0)), (1, .int a0), (2, .int a1)] [] (S, I, L, Rf) (some (.int q.1), (S, q.2.1, q.2.2, Rf))
  replace hf := (f_H_torque.eq_1 _ _ _ _).symm.trans hf
  refine X_iload_n (pc := 0) (i := 1) 1 dX11_torque_0 rfl rfl ?_
  refine X_iconst (pc := 1) (0 : Int32) dX11_torque_1 (by decide) ?_
  refine X_bipush (pc := 2) (8 : Int32) dX11_torque_2 (by decide) ?_
  refine X_invS_i (pc := 4) (c_H_isWithin hT rfl) ok_H_isWithin k_563 k_564 nd_6 (by decide) rfl (Nat.le_of_ble_eq_true rfl) dX11_torque_4 ?_
  obtain ⟨x1, ex1, hf⟩ := bnd_e hf
  refine X_tope ex1 ?_
  by_cases c2 : x1 = (0 : Int32)
  · replace hf := (if_pos c2).symm.trans hf
    refine X_if_eq_t (pc := 7) 20 dX11_torque_7 (by decide) c2 ?_
    refine X_iconst (pc := 20) (-1 : Int32) dX11_torque_20 (by decide) ?_
    cases hf
    exact X_ireturn (pc := 21) rfl dX11_torque_21
  · replace hf := (if_neg c2).symm.trans hf
    refine X_if_eq_f (pc := 7) 20 dX11_torque_7 (by decide) c2 ?_
    refine X_iload_n (pc := 10) (i := 2) 2 dX11_torque_10 rfl rfl ?_
    refine X_iconst (pc := 11) (0 : Int32) dX11_torque_11 (by decide) ?_
    refine X_ldc (pc := 12) (1000000 : Int32) k_636 dX11_torque_12 ?_
    refine X_invS_i (pc := 14) (c_H_isWithin hT rfl) ok_H_isWithin k_563 k_564 nd_6 (by decide) rfl (Nat.le_of_ble_eq_true rfl) dX11_torque_14 ?_
    obtain ⟨x3, ex3, hf⟩ := bnd_e hf
    refine X_tope ex3 ?_
    by_cases c4 : x3 = (0 : Int32)
    · replace hf := (if_pos c4).symm.trans hf
      refine X_if_ne_f (pc := 17) 22 dX11_torque_17 (by decide) c4 ?_
      refine X_iconst (pc := 20) (-1 : Int32) dX11_torque_20 (by decide) ?_
      cases hf
      exact X_ireturn (pc := 21) rfl dX11_torque_21
    · replace hf := (if_neg c4).symm.trans hf
      refine X_if_ne_t (pc := 17) 22 dX11_torque_17 (by decide) c4 ?_
      refine X_aload_n (pc := 22) (i := 0) 0 dX11_torque_22 rfl rfl ?_
      refine X_get (pc := 23) (a := 0) (ci := 10) (j := 11) (.int (I 0 8)) (sh_0 hT) (by decide) k_505 rfl dX11_torque_23 ?_
      by_cases c5 : (I 0 8) = (0 : Int32)
      · replace hf := (if_pos c5).symm.trans hf
        refine X_if_eq_t (pc := 26) 32 dX11_torque_26 (by decide) c5 ?_
        refine X_aload_n (pc := 32) (i := 0) 0 dX11_torque_32 rfl rfl ?_
        refine X_getr (pc := 33) (a := 0) (ci := 10) (j := 0) (c := 1) (sh_0 hT) (by decide) k_494 (rf_0_0 hT) (fun _ h => h) dX11_torque_33 ?_
        refine X_getr (pc := 36) (a := 1) (ci := 5) (j := 6) (c := 8) (sh_1 hT) (by decide) k_182 (rf_1_6 hT) (fun _ h => h) dX11_torque_36 ?_
        refine X_iload_n (pc := 39) (i := 1) 1 dX11_torque_39 rfl rfl ?_
        obtain ⟨c6, hf⟩ := gd_some hf
        refine X_ialdj (pc := 40) (j := a0.toNatClampNeg) (I 8 (a0.toNatClampNeg)) (sh_8 hT) (vp_in_lit (N := 9) c6 (by decide)) rfl rfl dX11_torque_40 ?_
        obtain ⟨x7, ex7, hf⟩ := bnd_e hf
        refine X_tope ex7 ?_
        refine X_istore_n (pc := 41) (i := 3) [(3, .int x7), (0, .ref (xP G 0)), (1, .int a0), (2, .int a1)] dX11_torque_41 rfl (by decide) rfl ?_
        refine X_aload_n (pc := 42) (i := 0) 1 dX11_torque_42 rfl rfl ?_
        refine X_getr (pc := 43) (a := 0) (ci := 10) (j := 0) (c := 1) (sh_0 hT) (by decide) k_494 (rf_0_0 hT) (fun _ h => h) dX11_torque_43 ?_
        refine X_getr (pc := 46) (a := 1) (ci := 5) (j := 6) (c := 8) (sh_1 hT) (by decide) k_182 (rf_1_6 hT) (fun _ h => h) dX11_torque_46 ?_
        refine X_iload_n (pc := 49) (i := 1) 2 dX11_torque_49 rfl rfl ?_
        refine X_iload_n (pc := 50) (i := 2) 3 dX11_torque_50 rfl rfl ?_
        obtain ⟨c8, hf⟩ := gd_some hf
        refine X_iastj (pc := 51) (j := (a0.toNatClampNeg)) (sh_8 hT) (vp_in_lit (N := 9) c8 (by decide)) rfl dX11_torque_51 ?_
        refine X_iload_n (pc := 52) (i := 3) 0 dX11_torque_52 rfl rfl ?_
        cases hf
        exact X_ireturn (pc := 53) rfl dX11_torque_53
      · replace hf := (if_neg c5).symm.trans hf
        refine X_if_eq_f (pc := 26) 32 dX11_torque_26 (by decide) c5 ?_
        refine X_bipush (pc := 29) (-2 : Int32) dX11_torque_29 (by decide) ?_
        cases hf
        exact X_ireturn (pc := 31) rfl dX11_torque_31
theorem u_H_torque {S : List xSh} {a0 : Int32} {a1 : Int32} {I : Nat → Nat → Int32} {L : Nat → Nat → Int64} {q : (Int32 × (Nat → Nat → Int32) × (Nat → Nat → Int64))} (hf : f_H_torque a0 a1 I L = some q) : FR S [8] [] I q.2.1 L q.2.2 := by
  replace hf := (f_H_torque.eq_1 _ _ _ _).symm.trans hf
  obtain ⟨x1, ex1, hf⟩ := bnd_e hf
  by_cases c2 : x1 = (0 : Int32)
  · replace hf := (if_pos c2).symm.trans hf
    cases hf
    exact FR.rf
  · replace hf := (if_neg c2).symm.trans hf
    obtain ⟨x3, ex3, hf⟩ := bnd_e hf
    by_cases c4 : x3 = (0 : Int32)
    · replace hf := (if_pos c4).symm.trans hf
      cases hf
      exact FR.rf
    · replace hf := (if_neg c4).symm.trans hf
      by_cases c5 : (I 0 8) = (0 : Int32)
      · replace hf := (if_pos c5).symm.trans hf
        obtain ⟨c6, hf⟩ := gd_some hf
        obtain ⟨x7, ex7, hf⟩ := bnd_e hf
        obtain ⟨c8, hf⟩ := gd_some hf
        cases hf
        exact (FR.ai FR.rf (by decide))
      · replace hf := (if_neg c5).symm.trans hf
        cases hf
        exact FR.rf
theorem dX4_begin_0 : decode cX4_begin 0 = .ok (.aload_n 0, 1) := by decide +kernel
theorem dX4_begin_1 : decode cX4_begin 1 = .ok (.iload_n 1, 1) := by decide +kernel
theorem dX4_begin_2 : decode cX4_begin 2 = .ok (.putfield 9, 3) := by decide +kernel
theorem dX4_begin_5 : decode cX4_begin 5 = .ok (.return_, 1) := by decide +kernel
def f_Di_begin (w0 : Nat) (a0 : Int32) (I : Nat → Nat → Int32) (L : Nat → Nat → Int64) : Option ((Nat → Nat → Int32) × (Nat → Nat → Int64)) := (some ((uI I w0 2 a0), L))
set_option maxRecDepth 100000 in
set_option maxHeartbeats 4000000 in
theorem c_Di_begin {G : xG} {S : List xSh} {Rf : Nat → Nat → Option Nat} (hT : xTH S Rf) {w0 : Nat} {a0 : Int32} (hw0 : S[w0]? = some (.inl 4)) {I : Nat → Nat → Int32} {L : Nat → Nat → Int64} {q : ((Nat → Nat → Int32) × (Nat → Nat → Int64))} (hf : f_Di_begin w0 a0 I L = some q) : CT G 1 m_Di_begin [.ref (xP G w0), .int a0] (S, I, L, Rf) (none, (S, q.1, q.2, Rf)) := by
  refine CT.of (by decide +kernel) (Nat.le_of_ble_eq_true rfl) ?_
  show X G 1 m_Di_begin 0 [(0, .ref (xP G w0)), (1, .int a0)] [] (S, I, L, Rf) (none, (S, q.1, q.2, Rf))
  replace hf := (f_Di_begin.eq_1 _ _ _ _).symm.trans hf
  refine X_aload_n (pc := 0) (i := 0) 0 dX4_begin_0 rfl rfl ?_
  refine X_iload_n (pc := 1) (i := 1) 1 dX4_begin_1 rfl rfl ?_
  refine X_puti (pc := 2) (a := w0) (ci := 4) (j := 2) 2 rfl false hw0 (by decide) k_361 rfl (fun h => by cases h) rfl dX4_begin_2 ?_
  cases hf
  exact X_return (pc := 5) rfl dX4_begin_5
theorem u_Di_begin {S : List xSh} {w0 : Nat} {a0 : Int32} (hw0 : S[w0]? = some (.inl 4)) {I : Nat → Nat → Int32} {L : Nat → Nat → Int64} {q : ((Nat → Nat → Int32) × (Nat → Nat → Int64))} (hf : f_Di_begin w0 a0 I L = some q) : FR S [] [] I q.1 L q.2 := by
  replace hf := (f_Di_begin.eq_1 _ _ _ _).symm.trans hf
  cases hf
  exact (FR.dy FR.rf hw0 (by decide))
theorem dX4_restart_0 : decode cX4_restart 0 = .ok (.aload_n 0, 1) := by decide +kernel
theorem dX4_restart_1 : decode cX4_restart 1 = .ok (.iconst 0, 1) := by decide +kernel
theorem dX4_restart_2 : decode cX4_restart 2 = .ok (.putfield 15, 3) := by decide +kernel
theorem dX4_restart_5 : decode cX4_restart 5 = .ok (.return_, 1) := by decide +kernel
def f_Di_restart (w0 : Nat) (I : Nat → Nat → Int32) (L : Nat → Nat → Int64) : Option ((Nat → Nat → Int32) × (Nat → Nat → Int64)) := (some ((uI I w0 3 (0 : Int32)), L))
set_option maxRecDepth 100000 in
set_option maxHeartbeats 4000000 in
theorem c_Di_restart {G : xG} {S : List xSh} {Rf : Nat → Nat → Option Nat} (hT : xTH S Rf) {w0 : Nat} (hw0 : S[w0]? = some (.inl 4)) {I : Nat → Nat → Int32} {L : Nat → Nat → Int64} {q : ((Nat → Nat → Int32) × (Nat → Nat → Int64))} (hf : f_Di_restart w0 I L = some q) : CT G 1 m_Di_restart [.ref (xP G w0)] (S, I, L, Rf) (none, (S, q.1, q.2, Rf)) := by
  refine CT.of (by decide +kernel) (Nat.le_of_ble_eq_true rfl) ?_
  show X G 1 m_Di_restart 0 [(0, .ref (xP G w0))] [] (S, I, L, Rf) (none, (S, q.1, q.2, Rf))
  replace hf := (f_Di_restart.eq_1 _ _ _).symm.trans hf
  refine X_aload_n (pc := 0) (i := 0) 0 dX4_restart_0 rfl rfl ?_
  refine X_iconst (pc := 1) (0 : Int32) dX4_restart_1 (by decide) ?_
  refine X_puti (pc := 2) (a := w0) (ci := 4) (j := 3) 3 rfl false hw0 (by decide) k_362 rfl (fun h => by cases h) rfl dX4_restart_2 ?_
  cases hf
  exact X_return (pc := 5) rfl dX4_restart_5
theorem u_Di_restart {S : List xSh} {w0 : Nat} (hw0 : S[w0]? = some (.inl 4)) {I : Nat → Nat → Int32} {L : Nat → Nat → Int64} {q : ((Nat → Nat → Int32) × (Nat → Nat → Int64))} (hf : f_Di_restart w0 I L = some q) : FR S [] [] I q.1 L q.2 := by
  replace hf := (f_Di_restart.eq_1 _ _ _).symm.trans hf
  cases hf
  exact (FR.dy FR.rf hw0 (by decide))
theorem dX11_renew_0 : decode cX11_renew 0 = .ok (.aload_n 0, 1) := by decide +kernel
theorem dX11_renew_1 : decode cX11_renew 1 = .ok (.iconst 0, 1) := by decide +kernel
theorem dX11_renew_2 : decode cX11_renew 2 = .ok (.putfield 271, 3) := by decide +kernel
theorem dX11_renew_5 : decode cX11_renew 5 = .ok (.aload_n 0, 1) := by decide +kernel
theorem dX11_renew_6 : decode cX11_renew 6 = .ok (.invokevirtual 388, 3) := by decide +kernel
theorem dX11_renew_9 : decode cX11_renew 9 = .ok (.return_, 1) := by decide +kernel
def f_H_renew_D (a0 : Nat) (I : Nat → Nat → Int32) (L : Nat → Nat → Int64) : Option ((Nat → Nat → Int32) × (Nat → Nat → Int64)) := ((f_Di_restart a0 (uI I a0 1 (0 : Int32)) L).bind fun q1 => (some (q1.1, q1.2)))
set_option maxRecDepth 100000 in
set_option maxHeartbeats 4000000 in
theorem c_H_renew_D {G : xG} {S : List xSh} {Rf : Nat → Nat → Option Nat} (hT : xTH S Rf) {a0 : Nat} (ha0 : S[a0]? = some (.inl 4)) {I : Nat → Nat → Int32} {L : Nat → Nat → Int64} {q : ((Nat → Nat → Int32) × (Nat → Nat → Int64))} (hf : f_H_renew_D a0 I L = some q) : CT G 2 m_H_renew [.ref (xP G a0)] (S, I, L, Rf) (none, (S, q.1, q.2, Rf)) := by
  refine CT.of (by decide +kernel) (Nat.le_of_ble_eq_true rfl) ?_
  show X G 2 m_H_renew 0 [(0, .ref (xP G a0))] [] (S, I, L, Rf) (none, (S, q.1, q.2, Rf))
  replace hf := (f_H_renew_D.eq_1 _ _ _).symm.trans hf
  refine X_aload_n (pc := 0) (i := 0) 0 dX11_renew_0 rfl rfl ?_
  refine X_iconst (pc := 1) (0 : Int32) dX11_renew_1 (by decide) ?_
  refine X_puti (pc := 2) (a := a0) (ci := 4) (j := 1) 1 rfl false ha0 (by decide) k_364 rfl (fun h => by cases h) rfl dX11_renew_2 ?_
  refine X_aload_n (pc := 5) (i := 0) 0 dX11_renew_5 rfl rfl ?_
  obtain ⟨q1, c2, hf⟩ := bd_some hf
  refine X_invU_v (pc := 6) (c_Di_restart hT ha0 c2) ok_Di_restart (ci := 4) ha0 k_652 k_654 k_653 (by decide +kernel) k_665 k_664 nd_1 (by decide) rfl (Nat.le_of_ble_eq_true rfl) dX11_renew_6 ?_
  cases hf
  exact X_return (pc := 9) rfl dX11_renew_9
theorem u_H_renew_D {S : List xSh} {a0 : Nat} (ha0 : S[a0]? = some (.inl 4)) {I : Nat → Nat → Int32} {L : Nat → Nat → Int64} {q : ((Nat → Nat → Int32) × (Nat → Nat → Int64))} (hf : f_H_renew_D a0 I L = some q) : FR S [] [] I q.1 L q.2 := by
  replace hf := (f_H_renew_D.eq_1 _ _ _).symm.trans hf
  obtain ⟨q1, c2, hf⟩ := bd_some hf
  cases hf
  exact (FR.tr (FR.dy FR.rf ha0 (by decide)) (u_Di_restart ha0 (q := q1) c2) (by decide) (by decide))

theorem dX6_isNearTurn_0 : decode cX6_isNearTurn 0 = .ok (.iload_n 1, 1) := by decide +kernel
theorem dX6_isNearTurn_1 : decode cX6_isNearTurn 1 = .ok (.ifCond .lt 20, 3) := by decide +kernel
theorem dX6_isNearTurn_4 : decode cX6_isNearTurn 4 = .ok (.iload_n 1, 1) := by decide +kernel
theorem dX6_isNearTurn_5 : decode cX6_isNearTurn 5 = .ok (.bipush 24, 2) := by decide +kernel
theorem dX6_isNearTurn_7 : decode cX6_isNearTurn 7 = .ok (.if_icmp .ge 14, 3) := by decide +kernel
theorem dX6_isNearTurn_10 : decode cX6_isNearTurn 10 = .ok (.aload_n 0, 1) := by decide +kernel
theorem dX6_isNearTurn_11 : decode cX6_isNearTurn 11 = .ok (.getfield 18, 3) := by decide +kernel
theorem dX6_isNearTurn_14 : decode cX6_isNearTurn 14 = .ok (.iload_n 1, 1) := by decide +kernel
theorem dX6_isNearTurn_15 : decode cX6_isNearTurn 15 = .ok (.laload, 1) := by decide +kernel
theorem dX6_isNearTurn_16 : decode cX6_isNearTurn 16 = .ok (.lconst 0, 1) := by decide +kernel
theorem dX6_isNearTurn_17 : decode cX6_isNearTurn 17 = .ok (.lcmp, 1) := by decide +kernel
theorem dX6_isNearTurn_18 : decode cX6_isNearTurn 18 = .ok (.ifCond .gt 5, 3) := by decide +kernel
theorem dX6_isNearTurn_21 : decode cX6_isNearTurn 21 = .ok (.iconst 0, 1) := by decide +kernel
theorem dX6_isNearTurn_22 : decode cX6_isNearTurn 22 = .ok (.ireturn, 1) := by decide +kernel
theorem dX6_isNearTurn_23 : decode cX6_isNearTurn 23 = .ok (.aload_n 0, 1) := by decide +kernel
theorem dX6_isNearTurn_24 : decode cX6_isNearTurn 24 = .ok (.getfield 11, 3) := by decide +kernel
theorem dX6_isNearTurn_27 : decode cX6_isNearTurn 27 = .ok (.iload_n 1, 1) := by decide +kernel
theorem dX6_isNearTurn_28 : decode cX6_isNearTurn 28 = .ok (.laload, 1) := by decide +kernel
theorem dX6_isNearTurn_29 : decode cX6_isNearTurn 29 = .ok (.invokestatic 62, 3) := by decide +kernel
theorem dX6_isNearTurn_32 : decode cX6_isNearTurn 32 = .ok (.iload_n 2, 1) := by decide +kernel
theorem dX6_isNearTurn_33 : decode cX6_isNearTurn 33 = .ok (.i2l, 1) := by decide +kernel
theorem dX6_isNearTurn_34 : decode cX6_isNearTurn 34 = .ok (.lmul, 1) := by decide +kernel
theorem dX6_isNearTurn_35 : decode cX6_isNearTurn 35 = .ok (.aload_n 0, 1) := by decide +kernel
theorem dX6_isNearTurn_36 : decode cX6_isNearTurn 36 = .ok (.getfield 18, 3) := by decide +kernel
theorem dX6_isNearTurn_39 : decode cX6_isNearTurn 39 = .ok (.iload_n 1, 1) := by decide +kernel
theorem dX6_isNearTurn_40 : decode cX6_isNearTurn 40 = .ok (.laload, 1) := by decide +kernel
theorem dX6_isNearTurn_41 : decode cX6_isNearTurn 41 = .ok (.lrem, 1) := by decide +kernel
theorem dX6_isNearTurn_42 : decode cX6_isNearTurn 42 = .ok (.ldc2_w 68, 3) := by decide +kernel
theorem dX6_isNearTurn_45 : decode cX6_isNearTurn 45 = .ok (.lmul, 1) := by decide +kernel
theorem dX6_isNearTurn_46 : decode cX6_isNearTurn 46 = .ok (.aload_n 0, 1) := by decide +kernel
theorem dX6_isNearTurn_47 : decode cX6_isNearTurn 47 = .ok (.getfield 18, 3) := by decide +kernel
theorem dX6_isNearTurn_50 : decode cX6_isNearTurn 50 = .ok (.iload_n 1, 1) := by decide +kernel
theorem dX6_isNearTurn_51 : decode cX6_isNearTurn 51 = .ok (.laload, 1) := by decide +kernel
theorem dX6_isNearTurn_52 : decode cX6_isNearTurn 52 = .ok (.ldc2_w 70, 3) := by decide +kernel
theorem dX6_isNearTurn_55 : decode cX6_isNearTurn 55 = .ok (.lmul, 1) := by decide +kernel
theorem dX6_isNearTurn_56 : decode cX6_isNearTurn 56 = .ok (.lcmp, 1) := by decide +kernel
theorem dX6_isNearTurn_57 : decode cX6_isNearTurn 57 = .ok (.ifCond .lt 7, 3) := by decide +kernel
theorem dX6_isNearTurn_60 : decode cX6_isNearTurn 60 = .ok (.iconst 1, 1) := by decide +kernel
theorem dX6_isNearTurn_61 : decode cX6_isNearTurn 61 = .ok (.goto 4, 3) := by decide +kernel
theorem dX6_isNearTurn_64 : decode cX6_isNearTurn 64 = .ok (.iconst 0, 1) := by decide +kernel
theorem dX6_isNearTurn_65 : decode cX6_isNearTurn 65 = .ok (.ireturn, 1) := by decide +kernel
def f_Ge_isNearTurn (a0 : Int32) (a1 : Int32) (I : Nat → Nat → Int32) (L : Nat → Nat → Int64) : Option Int32 := (if a0 < (0 : Int32) then (some (0 : Int32)) else (if (24 : Int32) ≤ a0 then (some (0 : Int32)) else (if (0 ≤ a0 ∧ a0 < (24 : Int32)) then (if (0 : Int64) < (L 5 (a0.toNatClampNeg)) then (if (0 ≤ a0 ∧ a0 < (24 : Int32)) then (if (0 ≤ a0 ∧ a0 < (24 : Int32)) then (if ¬ (L 5 (a0.toNatClampNeg)) = (0 : Int64) then (bnd ((lrem ((Jabs (L 3 (a0.toNatClampNeg))) * (Int32.toInt64 a1)) (L 5 (a0.toNatClampNeg))) * (4 : Int64)) fun x8 => (if (0 ≤ a0 ∧ a0 < (24 : Int32)) then (if x8 < ((L 5 (a0.toNatClampNeg)) * (3 : Int64)) then (some (0 : Int32)) else (some (1 : Int32))) else none)) else none) else none) else none) else (some (0 : Int32))) else none)))
set_option maxRecDepth 100000 in
set_option maxHeartbeats 4000000 in
theorem c_Ge_isNearTurn {G : xG} {S : List xSh} {Rf : Nat → Nat → Option Nat} (hT : xTH S Rf) {a0 : Int32} {a1 : Int32} {I : Nat → Nat → Int32} {L : Nat → Nat → Int64} {q : Int32} (hf : f_Ge_isNearTurn a0 a1 I L = some q) : CT G 1 m_Ge_isNearTurn [.ref (xB G + 2), .int a0, .int a1] (S, I, L, Rf) (some (.int q), (S, I, L, Rf)) := by
  refine CT.of (by decide +kernel) (Nat.le_of_ble_eq_true rfl) ?_
  show X G 1 m_Ge_isNearTurn 0 [(0, .ref (xB G + 2)), (1, .int a0), (2, .int a1)] [] (S, I, L, Rf) (some (.int q), (S, I, L, Rf))
  replace hf := (f_Ge_isNearTurn.eq_1 _ _ _ _).symm.trans hf
  refine X_iload_n (pc := 0) (i := 1) 1 dX6_isNearTurn_0 rfl rfl ?_
  by_cases c1 : a0 < (0 : Int32)
  · replace hf := (if_pos c1).symm.trans hf
    refine X_if_lt_t (pc := 1) 21 dX6_isNearTurn_1 (by decide) c1 ?_
    refine X_iconst (pc := 21) (0 : Int32) dX6_isNearTurn_21 (by decide) ?_
    cases hf
    exact X_zreturn (pc := 22) rfl (nar_b (by decide)) dX6_isNearTurn_22
  · replace hf := (if_neg c1).symm.trans hf
    refine X_if_lt_f (pc := 1) 21 dX6_isNearTurn_1 (by decide) c1 ?_
    refine X_iload_n (pc := 4) (i := 1) 1 dX6_isNearTurn_4 rfl rfl ?_
    refine X_bipush (pc := 5) (24 : Int32) dX6_isNearTurn_5 (by decide) ?_
    by_cases c2 : (24 : Int32) ≤ a0
    · replace hf := (if_pos c2).symm.trans hf
      refine X_icmp_ge_t (pc := 7) 21 dX6_isNearTurn_7 (by decide) c2 ?_
      refine X_iconst (pc := 21) (0 : Int32) dX6_isNearTurn_21 (by decide) ?_
      cases hf
      exact X_zreturn (pc := 22) rfl (nar_b (by decide)) dX6_isNearTurn_22
    · replace hf := (if_neg c2).symm.trans hf
      refine X_icmp_ge_f (pc := 7) 21 dX6_isNearTurn_7 (by decide) c2 ?_
      refine X_aload_n (pc := 10) (i := 0) 0 dX6_isNearTurn_10 rfl rfl ?_
      refine X_getr (pc := 11) (a := 2) (ci := 6) (j := 7) (c := 5) (sh_2 hT) (by decide) k_119 (rf_2_7 hT) (fun _ h => h) dX6_isNearTurn_11 ?_
      refine X_iload_n (pc := 14) (i := 1) 1 dX6_isNearTurn_14 rfl rfl ?_
      obtain ⟨c3, hf⟩ := gd_some hf
      refine X_laldj (pc := 15) (j := a0.toNatClampNeg) (L 5 (a0.toNatClampNeg)) (sh_5 hT) (vp_in_lit (N := 24) c3 (by decide)) rfl rfl dX6_isNearTurn_15 ?_
      refine X_lconst (pc := 16) (0 : Int64) dX6_isNearTurn_16 (by decide) ?_
      refine X_lcmp (pc := 17) dX6_isNearTurn_17 ?_
      by_cases c4 : (0 : Int64) < (L 5 (a0.toNatClampNeg))
      · replace hf := (if_pos c4).symm.trans hf
        refine X_if_gt_t (pc := 18) 23 dX6_isNearTurn_18 (by decide) ((lg_cmp_gt _ _).mpr c4) ?_
        refine X_aload_n (pc := 23) (i := 0) 0 dX6_isNearTurn_23 rfl rfl ?_
        refine X_getr (pc := 24) (a := 2) (ci := 6) (j := 5) (c := 3) (sh_2 hT) (by decide) k_115 (rf_2_5 hT) (fun _ h => h) dX6_isNearTurn_24 ?_
        refine X_iload_n (pc := 27) (i := 1) 1 dX6_isNearTurn_27 rfl rfl ?_
        obtain ⟨c5, hf⟩ := gd_some hf
        refine X_laldj (pc := 28) (j := a0.toNatClampNeg) (L 3 (a0.toNatClampNeg)) (sh_3 hT) (vp_in_lit (N := 24) c5 (by decide)) rfl rfl dX6_isNearTurn_28 ?_
        refine X_Jabs (pc := 29) k_476 (by decide) (Nat.le_of_ble_eq_true rfl) dX6_isNearTurn_29 ?_
        refine X_iload_n (pc := 32) (i := 2) 2 dX6_isNearTurn_32 rfl rfl ?_
        refine X_i2l (pc := 33) dX6_isNearTurn_33 ?_
        refine X_lmul (pc := 34) dX6_isNearTurn_34 ?_
        refine X_aload_n (pc := 35) (i := 0) 0 dX6_isNearTurn_35 rfl rfl ?_
        refine X_getr (pc := 36) (a := 2) (ci := 6) (j := 7) (c := 5) (sh_2 hT) (by decide) k_119 (rf_2_7 hT) (fun _ h => h) dX6_isNearTurn_36 ?_
        refine X_iload_n (pc := 39) (i := 1) 1 dX6_isNearTurn_39 rfl rfl ?_
        obtain ⟨c6, hf⟩ := gd_some hf
        refine X_laldj (pc := 40) (j := a0.toNatClampNeg) (L 5 (a0.toNatClampNeg)) (sh_5 hT) (vp_in_lit (N := 24) c6 (by decide)) rfl rfl dX6_isNearTurn_40 ?_
        obtain ⟨c7, hf⟩ := gd_some hf
        refine X_lrem (pc := 41) dX6_isNearTurn_41 c7 ?_
        refine X_ldc2 (pc := 42) (4 : Int64) k_863 dX6_isNearTurn_42 ?_
        refine X_lmul (pc := 45) dX6_isNearTurn_45 ?_
        obtain ⟨x8, ex8, hf⟩ := bnd_e hf
        refine X_tople ex8 ?_
        refine X_aload_n (pc := 46) (i := 0) 0 dX6_isNearTurn_46 rfl rfl ?_
        refine X_getr (pc := 47) (a := 2) (ci := 6) (j := 7) (c := 5) (sh_2 hT) (by decide) k_119 (rf_2_7 hT) (fun _ h => h) dX6_isNearTurn_47 ?_
        refine X_iload_n (pc := 50) (i := 1) 1 dX6_isNearTurn_50 rfl rfl ?_
        obtain ⟨c9, hf⟩ := gd_some hf
        refine X_laldj (pc := 51) (j := a0.toNatClampNeg) (L 5 (a0.toNatClampNeg)) (sh_5 hT) (vp_in_lit (N := 24) c9 (by decide)) rfl rfl dX6_isNearTurn_51 ?_
        refine X_ldc2 (pc := 52) (3 : Int64) k_864 dX6_isNearTurn_52 ?_
        refine X_lmul (pc := 55) dX6_isNearTurn_55 ?_
        refine X_lcmp (pc := 56) dX6_isNearTurn_56 ?_
        by_cases c10 : x8 < ((L 5 (a0.toNatClampNeg)) * (3 : Int64))
        · replace hf := (if_pos c10).symm.trans hf
          refine X_if_lt_t (pc := 57) 64 dX6_isNearTurn_57 (by decide) ((lg_cmp_lt _ _).mpr c10) ?_
          refine X_iconst (pc := 64) (0 : Int32) dX6_isNearTurn_64 (by decide) ?_
          cases hf
          exact X_zreturn (pc := 65) rfl (nar_b (by decide)) dX6_isNearTurn_65
        · replace hf := (if_neg c10).symm.trans hf
          refine X_if_lt_f (pc := 57) 64 dX6_isNearTurn_57 (by decide) (fun h => c10 ((lg_cmp_lt _ _).mp h)) ?_
          refine X_iconst (pc := 60) (1 : Int32) dX6_isNearTurn_60 (by decide) ?_
          refine X_goto (pc := 61) 65 dX6_isNearTurn_61 (by decide) ?_
          cases hf
          exact X_zreturn (pc := 65) rfl (nar_b (by decide)) dX6_isNearTurn_65
      · replace hf := (if_neg c4).symm.trans hf
        refine X_if_gt_f (pc := 18) 23 dX6_isNearTurn_18 (by decide) (fun h => c4 ((lg_cmp_gt _ _).mp h)) ?_
        refine X_iconst (pc := 21) (0 : Int32) dX6_isNearTurn_21 (by decide) ?_
        cases hf
        exact X_zreturn (pc := 22) rfl (nar_b (by decide)) dX6_isNearTurn_22
def f_H_isBarred_C (a0 : Nat) (I : Nat → Nat → Int32) (L : Nat → Nat → Int64) : Option Int32 := ((f_Ge_isNearTurn (I a0 0) (I 1 12) I L).bind fun q1 => (if q1 = (0 : Int32) then (some (0 : Int32)) else (some (1 : Int32))))
set_option maxRecDepth 100000 in
set_option maxHeartbeats 4000000 in
theorem c_H_isBarred_C {G : xG} {S : List xSh} {Rf : Nat → Nat → Option Nat} (hT : xTH S Rf) {a0 : Nat} (ha0 : S[a0]? = some (.inl 1)) {I : Nat → Nat → Int32} {L : Nat → Nat → Int64} {q : Int32} (hf : f_H_isBarred_C a0 I L = some q) : CT G 2 m_H_isBarred [.ref (xB G + 0), .ref (xB G + a0)] (S, I, L, Rf) (some (.int q), (S, I, L, Rf)) := by
  refine CT.of (by decide +kernel) (Nat.le_of_ble_eq_true rfl) ?_
  show X G 2 m_H_isBarred 0 [(0, .ref (xB G + 0)), (1, .ref (xB G + a0))] [] (S, I, L, Rf) (some (.int q), (S, I, L, Rf))
  replace hf := (f_H_isBarred_C.eq_1 _ _ _).symm.trans hf
  refine X_aload_n (pc := 0) (i := 1) 1 dX11_isBarred_0 rfl rfl ?_
  refine X_instYes (pc := 1) (ci := 1) ha0 k_568 dX11_isBarred_1 ?_
  refine X_if_eq_f (pc := 4) 32 dX11_isBarred_4 (by decide) (by decide) ?_
  refine X_aload_n (pc := 7) (i := 0) 0 dX11_isBarred_7 rfl rfl ?_
  refine X_getr (pc := 8) (a := 0) (ci := 10) (j := 1) (c := 2) (sh_0 hT) (by decide) k_378 (rf_0_1 hT) (fun _ h => h) dX11_isBarred_8 ?_
  refine X_aload_n (pc := 11) (i := 1) 1 dX11_isBarred_11 rfl rfl ?_
  refine X_get (pc := 12) (a := a0) (ci := 1) (j := 0) (.int (I a0 0)) ha0 (by decide) k_527 rfl dX11_isBarred_12 ?_
  refine X_aload_n (pc := 15) (i := 0) 0 dX11_isBarred_15 rfl rfl ?_
  refine X_getr (pc := 16) (a := 0) (ci := 10) (j := 0) (c := 1) (sh_0 hT) (by decide) k_377 (rf_0_0 hT) (fun _ h => h) dX11_isBarred_16 ?_
  refine X_get (pc := 19) (a := 1) (ci := 5) (j := 12) (.int (I 1 12)) (sh_1 hT) (by decide) k_192 rfl dX11_isBarred_19 ?_
  obtain ⟨q1, c2, hf⟩ := bd_some hf
  refine X_invV_i (pc := 22) (c_Ge_isNearTurn hT c2) ok_Ge_isNearTurn (ci := 6) (sh_2 hT) k_859 k_860 k_861 nd_25 (by decide) rfl (Nat.le_of_ble_eq_true rfl) dX11_isBarred_22 ?_
  by_cases c3 : q1 = (0 : Int32)
  · replace hf := (if_pos c3).symm.trans hf
    refine X_if_eq_t (pc := 25) 32 dX11_isBarred_25 (by decide) c3 ?_
    refine X_iconst (pc := 32) (0 : Int32) dX11_isBarred_32 (by decide) ?_
    cases hf
    exact X_zreturn (pc := 33) rfl (nar_b (by decide)) dX11_isBarred_33
  · replace hf := (if_neg c3).symm.trans hf
    refine X_if_eq_f (pc := 25) 32 dX11_isBarred_25 (by decide) c3 ?_
    refine X_iconst (pc := 28) (1 : Int32) dX11_isBarred_28 (by decide) ?_
    refine X_goto (pc := 29) 33 dX11_isBarred_29 (by decide) ?_
    cases hf
    exact X_zreturn (pc := 33) rfl (nar_b (by decide)) dX11_isBarred_33
theorem dX8_takes_0 : decode cX8_takes 0 = .ok (.iload_n 1, 1) := by decide +kernel
theorem dX8_takes_1 : decode cX8_takes 1 = .ok (.tableswitch 42 0 2 #[27, 27, 35], 27) := by decide +kernel
theorem dX8_takes_28 : decode cX8_takes 28 = .ok (.iload_n 2, 1) := by decide +kernel
theorem dX8_takes_29 : decode cX8_takes 29 = .ok (.iconst 1, 1) := by decide +kernel
theorem dX8_takes_30 : decode cX8_takes 30 = .ok (.bipush 12, 2) := by decide +kernel
theorem dX8_takes_32 : decode cX8_takes 32 = .ok (.invokestatic 48, 3) := by decide +kernel
theorem dX8_takes_35 : decode cX8_takes 35 = .ok (.ireturn, 1) := by decide +kernel
theorem dX8_takes_36 : decode cX8_takes 36 = .ok (.iload_n 2, 1) := by decide +kernel
theorem dX8_takes_37 : decode cX8_takes 37 = .ok (.iconst 0, 1) := by decide +kernel
theorem dX8_takes_38 : decode cX8_takes 38 = .ok (.iconst 1, 1) := by decide +kernel
theorem dX8_takes_39 : decode cX8_takes 39 = .ok (.invokestatic 48, 3) := by decide +kernel
theorem dX8_takes_42 : decode cX8_takes 42 = .ok (.ireturn, 1) := by decide +kernel
theorem dX8_takes_43 : decode cX8_takes 43 = .ok (.iconst 0, 1) := by decide +kernel
theorem dX8_takes_44 : decode cX8_takes 44 = .ok (.ireturn, 1) := by decide +kernel
def f_St_takes_L28 (w0 : Nat) (l2 : Int32) : Option Int32 := (bnd (f_H_isWithin l2 (1 : Int32) (12 : Int32)) fun x4 => (if (x4 = (0 : Int32) ∨ x4 = (1 : Int32)) then (some x4) else none))
set_option maxRecDepth 100000 in
set_option maxHeartbeats 4000000 in
theorem x_St_takes_L28 {G : xG} {S : List xSh} {Rf : Nat → Nat → Option Nat} (hT : xTH S Rf) {w0 : Nat} (hw0 : S[w0]? = some (.inl 8)) {l2 : Int32} {I : Nat → Nat → Int32} {L : Nat → Nat → Int64} {q : Int32} (hf : f_St_takes_L28 w0 l2 = some q) : X G 2 m_St_takes 28 [(2, .int l2)] [] (S, I, L, Rf) (some (.int q), (S, I, L, Rf)) := by
  replace hf := (f_St_takes_L28.eq_1 _ _).symm.trans hf
  refine X_iload_n (pc := 28) (i := 2) 0 dX8_takes_28 rfl rfl ?_
  refine X_iconst (pc := 29) (1 : Int32) dX8_takes_29 (by decide) ?_
  refine X_bipush (pc := 30) (12 : Int32) dX8_takes_30 (by decide) ?_
  refine X_invSN_i (pc := 32) (c_H_isWithin hT rfl) ok_H_isWithin k_854 k_438 nd_6 (by decide) rfl (Nat.le_of_ble_eq_true rfl) dX8_takes_32 ?_
  obtain ⟨x4, ex4, hf⟩ := bnd_e hf
  refine X_tope ex4 ?_
  obtain ⟨c5, hf⟩ := gd_some hf
  cases hf
  exact X_zreturn (pc := 35) rfl (nar_b c5) dX8_takes_35
def f_St_takes (w0 : Nat) (a0 : Int32) (a1 : Int32) : Option Int32 := (if a0 = (0 : Int32) then (f_St_takes_L28 w0 a1) else (if a0 = (1 : Int32) then (f_St_takes_L28 w0 a1) else (if a0 = (2 : Int32) then (bnd (f_H_isWithin a1 (0 : Int32) (1 : Int32)) fun x6 => (if (x6 = (0 : Int32) ∨ x6 = (1 : Int32)) then (some x6) else none)) else (some (0 : Int32)))))
set_option maxRecDepth 100000 in
set_option maxHeartbeats 4000000 in
theorem c_St_takes {G : xG} {S : List xSh} {Rf : Nat → Nat → Option Nat} (hT : xTH S Rf) {w0 : Nat} {a0 : Int32} {a1 : Int32} (hw0 : S[w0]? = some (.inl 8)) {I : Nat → Nat → Int32} {L : Nat → Nat → Int64} {q : Int32} (hf : f_St_takes w0 a0 a1 = some q) : CT G 2 m_St_takes [.ref (xB G + w0), .int a0, .int a1] (S, I, L, Rf) (some (.int q), (S, I, L, Rf)) := by
  refine CT.of (by decide +kernel) (Nat.le_of_ble_eq_true rfl) ?_
  show X G 2 m_St_takes 0 [(0, .ref (xB G + w0)), (1, .int a0), (2, .int a1)] [] (S, I, L, Rf) (some (.int q), (S, I, L, Rf))
  replace hf := (f_St_takes.eq_1 _ _ _).symm.trans hf
  refine X_iload_n (pc := 0) (i := 1) 1 dX8_takes_0 rfl rfl ?_
  by_cases c1 : a0 = (0 : Int32)
  · replace hf := (if_pos c1).symm.trans hf
    refine X_tabIn (pc := 1) (off := 27) (0) 28 dX8_takes_1 (by rw [c1]; rfl) (by decide) ?_
    exact X_lvs [2] rfl (x_St_takes_L28 hT hw0 hf)
  · replace hf := (if_neg c1).symm.trans hf
    by_cases c2 : a0 = (1 : Int32)
    · replace hf := (if_pos c2).symm.trans hf
      refine X_tabIn (pc := 1) (off := 27) (1) 28 dX8_takes_1 (by rw [c2]; rfl) (by decide) ?_
      exact X_lvs [2] rfl (x_St_takes_L28 hT hw0 hf)
    · replace hf := (if_neg c2).symm.trans hf
      by_cases c3 : a0 = (2 : Int32)
      · replace hf := (if_pos c3).symm.trans hf
        refine X_tabIn (pc := 1) (off := 35) (2) 36 dX8_takes_1 (by rw [c3]; rfl) (by decide) ?_
        refine X_iload_n (pc := 36) (i := 2) 2 dX8_takes_36 rfl rfl ?_
        refine X_iconst (pc := 37) (0 : Int32) dX8_takes_37 (by decide) ?_
        refine X_iconst (pc := 38) (1 : Int32) dX8_takes_38 (by decide) ?_
        refine X_invSN_i (pc := 39) (c_H_isWithin hT rfl) ok_H_isWithin k_854 k_438 nd_6 (by decide) rfl (Nat.le_of_ble_eq_true rfl) dX8_takes_39 ?_
        obtain ⟨x6, ex6, hf⟩ := bnd_e hf
        refine X_tope ex6 ?_
        obtain ⟨c7, hf⟩ := gd_some hf
        cases hf
        exact X_zreturn (pc := 42) rfl (nar_b c7) dX8_takes_42
      · replace hf := (if_neg c3).symm.trans hf
        refine X_tabOut (pc := 1) 43 dX8_takes_1 (by have zc1 := lv_neT (a := 0) c1 rfl; have zc2 := lv_neT (a := 1) c2 rfl; have zc3 := lv_neT (a := 2) c3 rfl; omega) (by decide) ?_
        refine X_iconst (pc := 43) (0 : Int32) dX8_takes_43 (by decide) ?_
        cases hf
        exact X_zreturn (pc := 44) rfl (nar_b (by decide)) dX8_takes_44
def f_H_isBarred_S (a0 : Nat) : Int32 := (0 : Int32)
set_option maxRecDepth 100000 in
set_option maxHeartbeats 4000000 in
theorem c_H_isBarred_S {G : xG} {S : List xSh} {Rf : Nat → Nat → Option Nat} (hT : xTH S Rf) {a0 : Nat} (ha0 : S[a0]? = some (.inl 8)) {I : Nat → Nat → Int32} {L : Nat → Nat → Int64} {q : Int32} (hf : f_H_isBarred_S a0 = q) : CT G 1 m_H_isBarred [.ref (xB G + 0), .ref (xB G + a0)] (S, I, L, Rf) (some (.int q), (S, I, L, Rf)) := by
  refine CT.of (by decide +kernel) (Nat.le_of_ble_eq_true rfl) ?_
  show X G 1 m_H_isBarred 0 [(0, .ref (xB G + 0)), (1, .ref (xB G + a0))] [] (S, I, L, Rf) (some (.int q), (S, I, L, Rf))
  replace hf := (f_H_isBarred_S.eq_1 _).symm.trans hf
  refine X_aload_n (pc := 0) (i := 1) 1 dX11_isBarred_0 rfl rfl ?_
  refine X_instNo (pc := 1) (ci := 8) ha0 k_568 (by decide) dX11_isBarred_1 ?_
  refine X_if_eq_t (pc := 4) 32 dX11_isBarred_4 (by decide) (by decide) ?_
  refine X_iconst (pc := 32) (0 : Int32) dX11_isBarred_32 (by decide) ?_
  subst hf
  exact X_zreturn (pc := 33) rfl (nar_b (by decide)) dX11_isBarred_33
theorem dX11_correct_0 : decode cX11_correct 0 = .ok (.aload_n 0, 1) := by decide +kernel
theorem dX11_correct_1 : decode cX11_correct 1 = .ok (.iload_n 1, 1) := by decide +kernel
theorem dX11_correct_2 : decode cX11_correct 2 = .ok (.invokevirtual 184, 3) := by decide +kernel
theorem dX11_correct_5 : decode cX11_correct 5 = .ok (.astore 4, 2) := by decide +kernel
theorem dX11_correct_7 : decode cX11_correct 7 = .ok (.aload 4, 2) := by decide +kernel
theorem dX11_correct_9 : decode cX11_correct 9 = .ok (.ifnull 13, 3) := by decide +kernel
theorem dX11_correct_12 : decode cX11_correct 12 = .ok (.aload 4, 2) := by decide +kernel
theorem dX11_correct_14 : decode cX11_correct 14 = .ok (.iload_n 2, 1) := by decide +kernel
theorem dX11_correct_15 : decode cX11_correct 15 = .ok (.iload_n 3, 1) := by decide +kernel
theorem dX11_correct_16 : decode cX11_correct 16 = .ok (.invokevirtual 188, 3) := by decide +kernel
theorem dX11_correct_19 : decode cX11_correct 19 = .ok (.ifCond .ne 5, 3) := by decide +kernel
theorem dX11_correct_22 : decode cX11_correct 22 = .ok (.iconst (-1), 1) := by decide +kernel
theorem dX11_correct_23 : decode cX11_correct 23 = .ok (.ireturn, 1) := by decide +kernel
theorem dX11_correct_24 : decode cX11_correct 24 = .ok (.aload_n 0, 1) := by decide +kernel
theorem dX11_correct_25 : decode cX11_correct 25 = .ok (.getfield 77, 3) := by decide +kernel
theorem dX11_correct_28 : decode cX11_correct 28 = .ok (.ifCond .eq 12, 3) := by decide +kernel
theorem dX11_correct_31 : decode cX11_correct 31 = .ok (.aload_n 0, 1) := by decide +kernel
theorem dX11_correct_32 : decode cX11_correct 32 = .ok (.aload 4, 2) := by decide +kernel
theorem dX11_correct_34 : decode cX11_correct 34 = .ok (.invokevirtual 192, 3) := by decide +kernel
theorem dX11_correct_37 : decode cX11_correct 37 = .ok (.ifCond .eq 6, 3) := by decide +kernel
theorem dX11_correct_40 : decode cX11_correct 40 = .ok (.bipush (-2), 2) := by decide +kernel
theorem dX11_correct_42 : decode cX11_correct 42 = .ok (.ireturn, 1) := by decide +kernel
theorem dX11_correct_43 : decode cX11_correct 43 = .ok (.aload_n 0, 1) := by decide +kernel
theorem dX11_correct_44 : decode cX11_correct 44 = .ok (.iconst 4, 1) := by decide +kernel
theorem dX11_correct_45 : decode cX11_correct 45 = .ok (.iload_n 1, 1) := by decide +kernel
theorem dX11_correct_46 : decode cX11_correct 46 = .ok (.iload_n 2, 1) := by decide +kernel
theorem dX11_correct_47 : decode cX11_correct 47 = .ok (.iload_n 3, 1) := by decide +kernel
theorem dX11_correct_48 : decode cX11_correct 48 = .ok (.invokevirtual 157, 3) := by decide +kernel
theorem dX11_correct_51 : decode cX11_correct 51 = .ok (.ifCond .eq 13, 3) := by decide +kernel
theorem dX11_correct_54 : decode cX11_correct 54 = .ok (.aload_n 0, 1) := by decide +kernel
theorem dX11_correct_55 : decode cX11_correct 55 = .ok (.iload_n 1, 1) := by decide +kernel
theorem dX11_correct_56 : decode cX11_correct 56 = .ok (.iload_n 2, 1) := by decide +kernel
theorem dX11_correct_57 : decode cX11_correct 57 = .ok (.iload_n 3, 1) := by decide +kernel
theorem dX11_correct_58 : decode cX11_correct 58 = .ok (.invokevirtual 196, 3) := by decide +kernel
theorem dX11_correct_61 : decode cX11_correct 61 = .ok (.goto 5, 3) := by decide +kernel
theorem dX11_correct_64 : decode cX11_correct 64 = .ok (.bipush (-3), 2) := by decide +kernel
theorem dX11_correct_66 : decode cX11_correct 66 = .ok (.ireturn, 1) := by decide +kernel
def f_H_correct (S : List xSh) (Rf : Nat → Nat → Option Nat) (a0 : Int32) (a1 : Int32) (a2 : Int32) (I : Nat → Nat → Int32) (L : Nat → Nat → Int64) : Option (Int32 × (Nat → Nat → Int32) × (Nat → Nat → Int64)) := ((f_H_workAt S Rf a0 I L).bind fun q1 => (oc q1 (some ((-1 : Int32), I, L)) fun w3 => (if S[w3]? = some (.inl 4) then (if (f_Di_takes w3 a1 a2 I L) = (0 : Int32) then (some ((-1 : Int32), I, L)) else (if (I 0 8) = (0 : Int32) then (some ((-2 : Int32), I, L)) else (if (f_H_isBarred_D w3) = (0 : Int32) then ((f_H_enter (4 : Int32) a0 a1 a2 I L).bind fun q9 => (if q9.1 = (0 : Int32) then (some ((-3 : Int32), q9.2.1, q9.2.2)) else ((f_H_putRight S Rf a0 a1 a2 q9.2.1 q9.2.2).bind fun q12 => (some (q12.1, q12.2.1, q12.2.2))))) else (some ((-2 : Int32), I, L))))) else (if S[w3]? = some (.inl 1) then ((f_Ca_takes w3 a1 a2).bind fun q15 => (if q15 = (0 : Int32) then (some ((-1 : Int32), I, L)) else (if (I 0 8) = (0 : Int32) then (some ((-2 : Int32), I, L)) else ((f_H_isBarred_C w3 I L).bind fun q19 => (if q19 = (0 : Int32) then ((f_H_enter (4 : Int32) a0 a1 a2 I L).bind fun q22 => (if q22.1 = (0 : Int32) then (some ((-3 : Int32), q22.2.1, q22.2.2)) else ((f_H_putRight S Rf a0 a1 a2 q22.2.1 q22.2.2).bind fun q25 => (some (q25.1, q25.2.1, q25.2.2))))) else (some ((-2 : Int32), I, L))))))) else (if S[w3]? = some (.inl 8) then ((f_St_takes w3 a1 a2).bind fun q28 => (if q28 = (0 : Int32) then (some ((-1 : Int32), I, L)) else (if (I 0 8) = (0 : Int32) then (some ((-2 : Int32), I, L)) else (if (f_H_isBarred_S w3) = (0 : Int32) then ((f_H_enter (4 : Int32) a0 a1 a2 I L).bind fun q33 => (if q33.1 = (0 : Int32) then (some ((-3 : Int32), q33.2.1, q33.2.2)) else ((f_H_putRight S Rf a0 a1 a2 q33.2.1 q33.2.2).bind fun q36 => (some (q36.1, q36.2.1, q36.2.2))))) else (some ((-2 : Int32), I, L)))))) else none)))))
set_option maxRecDepth 100000 in
set_option maxHeartbeats 4000000 in
theorem c_H_correct {G : xG} {S : List xSh} {Rf : Nat → Nat → Option Nat} (hT : xTH S Rf) {a0 : Int32} {a1 : Int32} {a2 : Int32} {I : Nat → Nat → Int32} {L : Nat → Nat → Int64} {q : (Int32 × (Nat → Nat → Int32) × (Nat → Nat → Int64))} (hf : f_H_correct S Rf a0 a1 a2 I L = some q) : CT G 4 m_H_correct [.ref (xB G + 0), .int a0, .int a1, .int a2] (S, I, L, Rf) (some (.int q.1), (S, q.2.1, q.2.2, Rf)) := by
  refine CT.of (by decide +kernel) (Nat.le_of_ble_eq_true rfl) ?_
  show X G 4 m_H_correct 0 [(0, .ref (xB G + 0)), (1, .int a0), (2, .int a1), (3, .int a2)] [] (S, I, L, Rf) (some (.int q.1), (S, q.2.1, q.2.2, Rf))
  replace hf := (f_H_correct.eq_1 _ _ _ _ _ _ _).symm.trans hf
  refine X_aload_n (pc := 0) (i := 0) 0 dX11_correct_0 rfl rfl ?_
  refine X_iload_n (pc := 1) (i := 1) 1 dX11_correct_1 rfl rfl ?_
  obtain ⟨q1, c2, hf⟩ := bd_some hf
  rcases oc_cases hf with ⟨hr4, hf⟩ | ⟨w3, hr4, hf⟩
  · rw [hr4] at c2
    refine X_invV_aN (pc := 2) (c_H_workAt hT c2) ok_H_workAt (ci := 10) (sh_0 hT) k_837 k_839 k_18 nd_24 (by decide) rfl (Nat.le_of_ble_eq_true rfl) dX11_correct_2 ?_
    refine X_astoreN (pc := 5) [(4, .null), (0, .ref (xB G + 0)), (1, .int a0), (2, .int a1), (3, .int a2)] dX11_correct_5 (by decide) rfl ?_
    refine X_aloadN (pc := 7) (i := 4) 0 dX11_correct_7 rfl ?_
    refine X_ifnull_t (pc := 9) 22 dX11_correct_9 (by decide) ?_
    refine X_iconst (pc := 22) (-1 : Int32) dX11_correct_22 (by decide) ?_
    cases hf
    exact X_ireturn (pc := 23) rfl dX11_correct_23
  · rw [hr4] at c2
    refine X_invV_aS (pc := 2) (c_H_workAt hT c2) ok_H_workAt (ci := 10) (sh_0 hT) k_837 k_839 k_18 nd_24 (by decide) rfl (Nat.le_of_ble_eq_true rfl) dX11_correct_2 ?_
    refine X_astore (pc := 5) [(4, .ref (xB G + w3)), (0, .ref (xB G + 0)), (1, .int a0), (2, .int a1), (3, .int a2)] dX11_correct_5 (by decide) rfl ?_
    refine X_aload (pc := 7) 0 dX11_correct_7 rfl ?_
    refine X_ifnull_f (pc := 9) dX11_correct_9 ?_
    refine X_aload (pc := 12) 0 dX11_correct_12 rfl ?_
    refine X_iload_n (pc := 14) (i := 2) 3 dX11_correct_14 rfl rfl ?_
    refine X_iload_n (pc := 15) (i := 3) 4 dX11_correct_15 rfl rfl ?_
    by_cases hs5 : S[w3]? = some (.inl 4)
    · replace hf := (if_pos hs5).symm.trans hf
      refine X_invU_i (pc := 16) (c_Di_takes hT hs5 rfl) ok_Di_takes (ci := 4) hs5 k_841 k_843 k_842 (by decide +kernel) k_848 k_847 nd_25 (by decide) rfl (Nat.le_of_ble_eq_true rfl) dX11_correct_16 ?_
      by_cases c6 : (f_Di_takes w3 a1 a2 I L) = (0 : Int32)
      · replace hf := (if_pos c6).symm.trans hf
        refine X_if_ne_f (pc := 19) 24 dX11_correct_19 (by decide) c6 ?_
        refine X_iconst (pc := 22) (-1 : Int32) dX11_correct_22 (by decide) ?_
        cases hf
        exact X_ireturn (pc := 23) rfl dX11_correct_23
      · replace hf := (if_neg c6).symm.trans hf
        refine X_if_ne_t (pc := 19) 24 dX11_correct_19 (by decide) c6 ?_
        refine X_aload_n (pc := 24) (i := 0) 1 dX11_correct_24 rfl rfl ?_
        refine X_get (pc := 25) (a := 0) (ci := 10) (j := 8) (.int (I 0 8)) (sh_0 hT) (by decide) k_385 rfl dX11_correct_25 ?_
        by_cases c7 : (I 0 8) = (0 : Int32)
        · replace hf := (if_pos c7).symm.trans hf
          refine X_if_eq_t (pc := 28) 40 dX11_correct_28 (by decide) c7 ?_
          refine X_bipush (pc := 40) (-2 : Int32) dX11_correct_40 (by decide) ?_
          cases hf
          exact X_ireturn (pc := 42) rfl dX11_correct_42
        · replace hf := (if_neg c7).symm.trans hf
          refine X_if_eq_f (pc := 28) 40 dX11_correct_28 (by decide) c7 ?_
          refine X_aload_n (pc := 31) (i := 0) 1 dX11_correct_31 rfl rfl ?_
          refine X_aload (pc := 32) 0 dX11_correct_32 rfl ?_
          refine X_invV_i (pc := 34) (c_H_isBarred_D hT hs5 rfl) ok_H_isBarred (ci := 10) (sh_0 hT) k_855 k_857 k_19 nd_26 (by decide) rfl (Nat.le_of_ble_eq_true rfl) dX11_correct_34 ?_
          by_cases c8 : (f_H_isBarred_D w3) = (0 : Int32)
          · replace hf := (if_pos c8).symm.trans hf
            refine X_if_eq_t (pc := 37) 43 dX11_correct_37 (by decide) c8 ?_
            refine X_aload_n (pc := 43) (i := 0) 1 dX11_correct_43 rfl rfl ?_
            refine X_iconst (pc := 44) (4 : Int32) dX11_correct_44 (by decide) ?_
            refine X_iload_n (pc := 45) (i := 1) 2 dX11_correct_45 rfl rfl ?_
            refine X_iload_n (pc := 46) (i := 2) 3 dX11_correct_46 rfl rfl ?_
            refine X_iload_n (pc := 47) (i := 3) 4 dX11_correct_47 rfl rfl ?_
            obtain ⟨q9, c10, hf⟩ := bd_some hf
            refine X_invV_i (pc := 48) (c_H_enter hT c10) ok_H_enter (ci := 10) (sh_0 hT) k_690 k_692 k_10 nd_18 (by decide) rfl (Nat.le_of_ble_eq_true rfl) dX11_correct_48 ?_
            by_cases c11 : q9.1 = (0 : Int32)
            · replace hf := (if_pos c11).symm.trans hf
              refine X_if_eq_t (pc := 51) 64 dX11_correct_51 (by decide) c11 ?_
              refine X_bipush (pc := 64) (-3 : Int32) dX11_correct_64 (by decide) ?_
              cases hf
              exact X_ireturn (pc := 66) rfl dX11_correct_66
            · replace hf := (if_neg c11).symm.trans hf
              refine X_if_eq_f (pc := 51) 64 dX11_correct_51 (by decide) c11 ?_
              refine X_aload_n (pc := 54) (i := 0) 1 dX11_correct_54 rfl rfl ?_
              refine X_iload_n (pc := 55) (i := 1) 2 dX11_correct_55 rfl rfl ?_
              refine X_iload_n (pc := 56) (i := 2) 3 dX11_correct_56 rfl rfl ?_
              refine X_iload_n (pc := 57) (i := 3) 4 dX11_correct_57 rfl rfl ?_
              obtain ⟨q12, c13, hf⟩ := bd_some hf
              refine X_invV_i (pc := 58) (c_H_putRight hT c13) ok_H_putRight (ci := 10) (sh_0 hT) k_865 k_867 k_20 nd_15 (by decide) rfl (Nat.le_of_ble_eq_true rfl) dX11_correct_58 ?_
              refine X_goto (pc := 61) 66 dX11_correct_61 (by decide) ?_
              cases hf
              exact X_ireturn (pc := 66) rfl dX11_correct_66
          · replace hf := (if_neg c8).symm.trans hf
            refine X_if_eq_f (pc := 37) 43 dX11_correct_37 (by decide) c8 ?_
            refine X_bipush (pc := 40) (-2 : Int32) dX11_correct_40 (by decide) ?_
            cases hf
            exact X_ireturn (pc := 42) rfl dX11_correct_42
    · replace hf := (if_neg hs5).symm.trans hf
      by_cases hs14 : S[w3]? = some (.inl 1)
      · replace hf := (if_pos hs14).symm.trans hf
        obtain ⟨q15, c16, hf⟩ := bd_some hf
        refine X_invU_i (pc := 16) (c_Ca_takes hT hs14 c16) ok_Ca_takes (ci := 1) hs14 k_841 k_843 k_842 (by decide +kernel) k_845 k_844 nd_25 (by decide) rfl (Nat.le_of_ble_eq_true rfl) dX11_correct_16 ?_
        by_cases c17 : q15 = (0 : Int32)
        · replace hf := (if_pos c17).symm.trans hf
          refine X_if_ne_f (pc := 19) 24 dX11_correct_19 (by decide) c17 ?_
          refine X_iconst (pc := 22) (-1 : Int32) dX11_correct_22 (by decide) ?_
          cases hf
          exact X_ireturn (pc := 23) rfl dX11_correct_23
        · replace hf := (if_neg c17).symm.trans hf
          refine X_if_ne_t (pc := 19) 24 dX11_correct_19 (by decide) c17 ?_
          refine X_aload_n (pc := 24) (i := 0) 1 dX11_correct_24 rfl rfl ?_
          refine X_get (pc := 25) (a := 0) (ci := 10) (j := 8) (.int (I 0 8)) (sh_0 hT) (by decide) k_385 rfl dX11_correct_25 ?_
          by_cases c18 : (I 0 8) = (0 : Int32)
          · replace hf := (if_pos c18).symm.trans hf
            refine X_if_eq_t (pc := 28) 40 dX11_correct_28 (by decide) c18 ?_
            refine X_bipush (pc := 40) (-2 : Int32) dX11_correct_40 (by decide) ?_
            cases hf
            exact X_ireturn (pc := 42) rfl dX11_correct_42
          · replace hf := (if_neg c18).symm.trans hf
            refine X_if_eq_f (pc := 28) 40 dX11_correct_28 (by decide) c18 ?_
            refine X_aload_n (pc := 31) (i := 0) 1 dX11_correct_31 rfl rfl ?_
            refine X_aload (pc := 32) 0 dX11_correct_32 rfl ?_
            obtain ⟨q19, c20, hf⟩ := bd_some hf
            refine X_invV_i (pc := 34) (c_H_isBarred_C hT hs14 c20) ok_H_isBarred (ci := 10) (sh_0 hT) k_855 k_857 k_19 nd_26 (by decide) rfl (Nat.le_of_ble_eq_true rfl) dX11_correct_34 ?_
            by_cases c21 : q19 = (0 : Int32)
            · replace hf := (if_pos c21).symm.trans hf
              refine X_if_eq_t (pc := 37) 43 dX11_correct_37 (by decide) c21 ?_
              refine X_aload_n (pc := 43) (i := 0) 1 dX11_correct_43 rfl rfl ?_
              refine X_iconst (pc := 44) (4 : Int32) dX11_correct_44 (by decide) ?_
              refine X_iload_n (pc := 45) (i := 1) 2 dX11_correct_45 rfl rfl ?_
              refine X_iload_n (pc := 46) (i := 2) 3 dX11_correct_46 rfl rfl ?_
              refine X_iload_n (pc := 47) (i := 3) 4 dX11_correct_47 rfl rfl ?_
              obtain ⟨q22, c23, hf⟩ := bd_some hf
              refine X_invV_i (pc := 48) (c_H_enter hT c23) ok_H_enter (ci := 10) (sh_0 hT) k_690 k_692 k_10 nd_18 (by decide) rfl (Nat.le_of_ble_eq_true rfl) dX11_correct_48 ?_
              by_cases c24 : q22.1 = (0 : Int32)
              · replace hf := (if_pos c24).symm.trans hf
                refine X_if_eq_t (pc := 51) 64 dX11_correct_51 (by decide) c24 ?_
                refine X_bipush (pc := 64) (-3 : Int32) dX11_correct_64 (by decide) ?_
                cases hf
                exact X_ireturn (pc := 66) rfl dX11_correct_66
              · replace hf := (if_neg c24).symm.trans hf
                refine X_if_eq_f (pc := 51) 64 dX11_correct_51 (by decide) c24 ?_
                refine X_aload_n (pc := 54) (i := 0) 1 dX11_correct_54 rfl rfl ?_
                refine X_iload_n (pc := 55) (i := 1) 2 dX11_correct_55 rfl rfl ?_
                refine X_iload_n (pc := 56) (i := 2) 3 dX11_correct_56 rfl rfl ?_
                refine X_iload_n (pc := 57) (i := 3) 4 dX11_correct_57 rfl rfl ?_
                obtain ⟨q25, c26, hf⟩ := bd_some hf
                refine X_invV_i (pc := 58) (c_H_putRight hT c26) ok_H_putRight (ci := 10) (sh_0 hT) k_865 k_867 k_20 nd_15 (by decide) rfl (Nat.le_of_ble_eq_true rfl) dX11_correct_58 ?_
                refine X_goto (pc := 61) 66 dX11_correct_61 (by decide) ?_
                cases hf
                exact X_ireturn (pc := 66) rfl dX11_correct_66
            · replace hf := (if_neg c21).symm.trans hf
              refine X_if_eq_f (pc := 37) 43 dX11_correct_37 (by decide) c21 ?_
              refine X_bipush (pc := 40) (-2 : Int32) dX11_correct_40 (by decide) ?_
              cases hf
              exact X_ireturn (pc := 42) rfl dX11_correct_42
      · replace hf := (if_neg hs14).symm.trans hf
        obtain ⟨hs27, hf⟩ := gd_some hf
        obtain ⟨q28, c29, hf⟩ := bd_some hf
        refine X_invU_i (pc := 16) (c_St_takes hT hs27 c29) ok_St_takes (ci := 8) hs27 k_841 k_843 k_842 (by decide +kernel) k_852 k_851 nd_25 (by decide) rfl (Nat.le_of_ble_eq_true rfl) dX11_correct_16 ?_
        by_cases c30 : q28 = (0 : Int32)
        · replace hf := (if_pos c30).symm.trans hf
          refine X_if_ne_f (pc := 19) 24 dX11_correct_19 (by decide) c30 ?_
          refine X_iconst (pc := 22) (-1 : Int32) dX11_correct_22 (by decide) ?_
          cases hf
          exact X_ireturn (pc := 23) rfl dX11_correct_23
        · replace hf := (if_neg c30).symm.trans hf
          refine X_if_ne_t (pc := 19) 24 dX11_correct_19 (by decide) c30 ?_
          refine X_aload_n (pc := 24) (i := 0) 1 dX11_correct_24 rfl rfl ?_
          refine X_get (pc := 25) (a := 0) (ci := 10) (j := 8) (.int (I 0 8)) (sh_0 hT) (by decide) k_385 rfl dX11_correct_25 ?_
          by_cases c31 : (I 0 8) = (0 : Int32)
          · replace hf := (if_pos c31).symm.trans hf
            refine X_if_eq_t (pc := 28) 40 dX11_correct_28 (by decide) c31 ?_
            refine X_bipush (pc := 40) (-2 : Int32) dX11_correct_40 (by decide) ?_
            cases hf
            exact X_ireturn (pc := 42) rfl dX11_correct_42
          · replace hf := (if_neg c31).symm.trans hf
            refine X_if_eq_f (pc := 28) 40 dX11_correct_28 (by decide) c31 ?_
            refine X_aload_n (pc := 31) (i := 0) 1 dX11_correct_31 rfl rfl ?_
            refine X_aload (pc := 32) 0 dX11_correct_32 rfl ?_
            refine X_invV_i (pc := 34) (c_H_isBarred_S hT hs27 rfl) ok_H_isBarred (ci := 10) (sh_0 hT) k_855 k_857 k_19 nd_26 (by decide) rfl (Nat.le_of_ble_eq_true rfl) dX11_correct_34 ?_
            by_cases c32 : (f_H_isBarred_S w3) = (0 : Int32)
            · replace hf := (if_pos c32).symm.trans hf
              refine X_if_eq_t (pc := 37) 43 dX11_correct_37 (by decide) c32 ?_
              refine X_aload_n (pc := 43) (i := 0) 1 dX11_correct_43 rfl rfl ?_
              refine X_iconst (pc := 44) (4 : Int32) dX11_correct_44 (by decide) ?_
              refine X_iload_n (pc := 45) (i := 1) 2 dX11_correct_45 rfl rfl ?_
              refine X_iload_n (pc := 46) (i := 2) 3 dX11_correct_46 rfl rfl ?_
              refine X_iload_n (pc := 47) (i := 3) 4 dX11_correct_47 rfl rfl ?_
              obtain ⟨q33, c34, hf⟩ := bd_some hf
              refine X_invV_i (pc := 48) (c_H_enter hT c34) ok_H_enter (ci := 10) (sh_0 hT) k_690 k_692 k_10 nd_18 (by decide) rfl (Nat.le_of_ble_eq_true rfl) dX11_correct_48 ?_
              by_cases c35 : q33.1 = (0 : Int32)
              · replace hf := (if_pos c35).symm.trans hf
                refine X_if_eq_t (pc := 51) 64 dX11_correct_51 (by decide) c35 ?_
                refine X_bipush (pc := 64) (-3 : Int32) dX11_correct_64 (by decide) ?_
                cases hf
                exact X_ireturn (pc := 66) rfl dX11_correct_66
              · replace hf := (if_neg c35).symm.trans hf
                refine X_if_eq_f (pc := 51) 64 dX11_correct_51 (by decide) c35 ?_
                refine X_aload_n (pc := 54) (i := 0) 1 dX11_correct_54 rfl rfl ?_
                refine X_iload_n (pc := 55) (i := 1) 2 dX11_correct_55 rfl rfl ?_
                refine X_iload_n (pc := 56) (i := 2) 3 dX11_correct_56 rfl rfl ?_
                refine X_iload_n (pc := 57) (i := 3) 4 dX11_correct_57 rfl rfl ?_
                obtain ⟨q36, c37, hf⟩ := bd_some hf
                refine X_invV_i (pc := 58) (c_H_putRight hT c37) ok_H_putRight (ci := 10) (sh_0 hT) k_865 k_867 k_20 nd_15 (by decide) rfl (Nat.le_of_ble_eq_true rfl) dX11_correct_58 ?_
                refine X_goto (pc := 61) 66 dX11_correct_61 (by decide) ?_
                cases hf
                exact X_ireturn (pc := 66) rfl dX11_correct_66
            · replace hf := (if_neg c32).symm.trans hf
              refine X_if_eq_f (pc := 37) 43 dX11_correct_37 (by decide) c32 ?_
              refine X_bipush (pc := 40) (-2 : Int32) dX11_correct_40 (by decide) ?_
              cases hf
              exact X_ireturn (pc := 42) rfl dX11_correct_42
theorem u_H_correct {S : List xSh} {Rf : Nat → Nat → Option Nat} {a0 : Int32} {a1 : Int32} {a2 : Int32} {I : Nat → Nat → Int32} {L : Nat → Nat → Int64} {q : (Int32 × (Nat → Nat → Int32) × (Nat → Nat → Int64))} (hf : f_H_correct S Rf a0 a1 a2 I L = some q) : FR S [16, 2503] [] I q.2.1 L q.2.2 := by
  replace hf := (f_H_correct.eq_1 _ _ _ _ _ _ _).symm.trans hf
  obtain ⟨q1, c2, hf⟩ := bd_some hf
  rcases oc_cases hf with ⟨hr4, hf⟩ | ⟨w3, hr4, hf⟩
  · rw [hr4] at c2
    cases hf
    exact FR.rf
  · rw [hr4] at c2
    by_cases hs5 : S[w3]? = some (.inl 4)
    · replace hf := (if_pos hs5).symm.trans hf
      by_cases c6 : (f_Di_takes w3 a1 a2 I L) = (0 : Int32)
      · replace hf := (if_pos c6).symm.trans hf
        cases hf
        exact FR.rf
      · replace hf := (if_neg c6).symm.trans hf
        by_cases c7 : (I 0 8) = (0 : Int32)
        · replace hf := (if_pos c7).symm.trans hf
          cases hf
          exact FR.rf
        · replace hf := (if_neg c7).symm.trans hf
          by_cases c8 : (f_H_isBarred_D w3) = (0 : Int32)
          · replace hf := (if_pos c8).symm.trans hf
            obtain ⟨q9, c10, hf⟩ := bd_some hf
            by_cases c11 : q9.1 = (0 : Int32)
            · replace hf := (if_pos c11).symm.trans hf
              cases hf
              exact (FR.tr FR.rf (u_H_enter (q := q9) c10) (by decide) (by decide))
            · replace hf := (if_neg c11).symm.trans hf
              obtain ⟨q12, c13, hf⟩ := bd_some hf
              cases hf
              exact (FR.tr (FR.tr FR.rf (u_H_enter (q := q9) c10) (by decide) (by decide)) (u_H_putRight (q := q12) c13) (by decide) (by decide))
          · replace hf := (if_neg c8).symm.trans hf
            cases hf
            exact FR.rf
    · replace hf := (if_neg hs5).symm.trans hf
      by_cases hs14 : S[w3]? = some (.inl 1)
      · replace hf := (if_pos hs14).symm.trans hf
        obtain ⟨q15, c16, hf⟩ := bd_some hf
        by_cases c17 : q15 = (0 : Int32)
        · replace hf := (if_pos c17).symm.trans hf
          cases hf
          exact FR.rf
        · replace hf := (if_neg c17).symm.trans hf
          by_cases c18 : (I 0 8) = (0 : Int32)
          · replace hf := (if_pos c18).symm.trans hf
            cases hf
            exact FR.rf
          · replace hf := (if_neg c18).symm.trans hf
            obtain ⟨q19, c20, hf⟩ := bd_some hf
            by_cases c21 : q19 = (0 : Int32)
            · replace hf := (if_pos c21).symm.trans hf
              obtain ⟨q22, c23, hf⟩ := bd_some hf
              by_cases c24 : q22.1 = (0 : Int32)
              · replace hf := (if_pos c24).symm.trans hf
                cases hf
                exact (FR.tr FR.rf (u_H_enter (q := q22) c23) (by decide) (by decide))
              · replace hf := (if_neg c24).symm.trans hf
                obtain ⟨q25, c26, hf⟩ := bd_some hf
                cases hf
                exact (FR.tr (FR.tr FR.rf (u_H_enter (q := q22) c23) (by decide) (by decide)) (u_H_putRight (q := q25) c26) (by decide) (by decide))
            · replace hf := (if_neg c21).symm.trans hf
              cases hf
              exact FR.rf
      · replace hf := (if_neg hs14).symm.trans hf
        obtain ⟨hs27, hf⟩ := gd_some hf
        obtain ⟨q28, c29, hf⟩ := bd_some hf
        by_cases c30 : q28 = (0 : Int32)
        · replace hf := (if_pos c30).symm.trans hf
          cases hf
          exact FR.rf
        · replace hf := (if_neg c30).symm.trans hf
          by_cases c31 : (I 0 8) = (0 : Int32)
          · replace hf := (if_pos c31).symm.trans hf
            cases hf
            exact FR.rf
          · replace hf := (if_neg c31).symm.trans hf
            by_cases c32 : (f_H_isBarred_S w3) = (0 : Int32)
            · replace hf := (if_pos c32).symm.trans hf
              obtain ⟨q33, c34, hf⟩ := bd_some hf
              by_cases c35 : q33.1 = (0 : Int32)
              · replace hf := (if_pos c35).symm.trans hf
                cases hf
                exact (FR.tr FR.rf (u_H_enter (q := q33) c34) (by decide) (by decide))
              · replace hf := (if_neg c35).symm.trans hf
                obtain ⟨q36, c37, hf⟩ := bd_some hf
                cases hf
                exact (FR.tr (FR.tr FR.rf (u_H_enter (q := q33) c34) (by decide) (by decide)) (u_H_putRight (q := q36) c37) (by decide) (by decide))
            · replace hf := (if_neg c32).symm.trans hf
              cases hf
              exact FR.rf
theorem dX11_strikeNow_0 : decode cX11_strikeNow 0 = .ok (.aload_n 0, 1) := by decide +kernel
theorem dX11_strikeNow_1 : decode cX11_strikeNow 1 = .ok (.iload_n 1, 1) := by decide +kernel
theorem dX11_strikeNow_2 : decode cX11_strikeNow 2 = .ok (.invokevirtual 184, 3) := by decide +kernel
theorem dX11_strikeNow_5 : decode cX11_strikeNow 5 = .ok (.astore_n 3, 1) := by decide +kernel
theorem dX11_strikeNow_6 : decode cX11_strikeNow 6 = .ok (.aload_n 3, 1) := by decide +kernel
theorem dX11_strikeNow_7 : decode cX11_strikeNow 7 = .ok (.instanceof 130, 3) := by decide +kernel
theorem dX11_strikeNow_10 : decode cX11_strikeNow 10 = .ok (.ifCond .eq 20, 3) := by decide +kernel
theorem dX11_strikeNow_13 : decode cX11_strikeNow 13 = .ok (.aload_n 3, 1) := by decide +kernel
theorem dX11_strikeNow_14 : decode cX11_strikeNow 14 = .ok (.checkcast 130, 3) := by decide +kernel
theorem dX11_strikeNow_17 : decode cX11_strikeNow 17 = .ok (.astore_n 2, 1) := by decide +kernel
theorem dX11_strikeNow_18 : decode cX11_strikeNow 18 = .ok (.aload_n 2, 1) := by decide +kernel
theorem dX11_strikeNow_19 : decode cX11_strikeNow 19 = .ok (.aload_n 0, 1) := by decide +kernel
theorem dX11_strikeNow_20 : decode cX11_strikeNow 20 = .ok (.getfield 10, 3) := by decide +kernel
theorem dX11_strikeNow_23 : decode cX11_strikeNow 23 = .ok (.getfield 218, 3) := by decide +kernel
theorem dX11_strikeNow_26 : decode cX11_strikeNow 26 = .ok (.invokevirtual 396, 3) := by decide +kernel
theorem dX11_strikeNow_29 : decode cX11_strikeNow 29 = .ok (.ireturn, 1) := by decide +kernel
theorem dX11_strikeNow_30 : decode cX11_strikeNow 30 = .ok (.iconst (-1), 1) := by decide +kernel
theorem dX11_strikeNow_31 : decode cX11_strikeNow 31 = .ok (.ireturn, 1) := by decide +kernel
def f_H_strikeNow (S : List xSh) (Rf : Nat → Nat → Option Nat) (a0 : Int32) (I : Nat → Nat → Int32) (L : Nat → Nat → Int64) : Option (Int32 × (Nat → Nat → Int32) × (Nat → Nat → Int64)) := ((f_H_workAt S Rf a0 I L).bind fun q1 => (oc q1 (some ((-1 : Int32), I, L)) fun w3 => (if S[w3]? = some (.inl 4) then (some ((-1 : Int32), I, L)) else (if S[w3]? = some (.inl 1) then (some ((-1 : Int32), I, L)) else (if S[w3]? = some (.inl 8) then ((f_St_sound S Rf w3 (I 1 12) I L).bind fun q8 => (some (q8.1, q8.2.1, q8.2.2))) else none)))))
set_option maxRecDepth 100000 in
set_option maxHeartbeats 4000000 in
theorem c_H_strikeNow {G : xG} {S : List xSh} {Rf : Nat → Nat → Option Nat} (hT : xTH S Rf) {a0 : Int32} {I : Nat → Nat → Int32} {L : Nat → Nat → Int64} {q : (Int32 × (Nat → Nat → Int32) × (Nat → Nat → Int64))} (hf : f_H_strikeNow S Rf a0 I L = some q) : CT G 3 m_H_strikeNow [.ref (xB G + 0), .int a0] (S, I, L, Rf) (some (.int q.1), (S, q.2.1, q.2.2, Rf)) := by
  refine CT.of (by decide +kernel) (Nat.le_of_ble_eq_true rfl) ?_
  show X G 3 m_H_strikeNow 0 [(0, .ref (xB G + 0)), (1, .int a0)] [] (S, I, L, Rf) (some (.int q.1), (S, q.2.1, q.2.2, Rf))
  replace hf := (f_H_strikeNow.eq_1 _ _ _ _ _).symm.trans hf
  refine X_aload_n (pc := 0) (i := 0) 0 dX11_strikeNow_0 rfl rfl ?_
  refine X_iload_n (pc := 1) (i := 1) 1 dX11_strikeNow_1 rfl rfl ?_
  obtain ⟨q1, c2, hf⟩ := bd_some hf
  rcases oc_cases hf with ⟨hr4, hf⟩ | ⟨w3, hr4, hf⟩
  · rw [hr4] at c2
    refine X_invV_aN (pc := 2) (c_H_workAt hT c2) ok_H_workAt (ci := 10) (sh_0 hT) k_837 k_839 k_18 nd_24 (by decide) rfl (Nat.le_of_ble_eq_true rfl) dX11_strikeNow_2 ?_
    refine X_astore_nN (pc := 5) (i := 3) [(3, .null), (0, .ref (xB G + 0)), (1, .int a0)] dX11_strikeNow_5 rfl (by decide) rfl ?_
    refine X_aload_nN (pc := 6) (i := 3) 0 dX11_strikeNow_6 rfl rfl ?_
    refine X_instN (pc := 7) dX11_strikeNow_7 ?_
    refine X_if_eq_t (pc := 10) 30 dX11_strikeNow_10 (by decide) (by decide) ?_
    refine X_iconst (pc := 30) (-1 : Int32) dX11_strikeNow_30 (by decide) ?_
    cases hf
    exact X_ireturn (pc := 31) rfl dX11_strikeNow_31
  · rw [hr4] at c2
    refine X_invV_aS (pc := 2) (c_H_workAt hT c2) ok_H_workAt (ci := 10) (sh_0 hT) k_837 k_839 k_18 nd_24 (by decide) rfl (Nat.le_of_ble_eq_true rfl) dX11_strikeNow_2 ?_
    refine X_astore_n (pc := 5) (i := 3) [(3, .ref (xB G + w3)), (0, .ref (xB G + 0)), (1, .int a0)] dX11_strikeNow_5 rfl (by decide) rfl ?_
    refine X_aload_n (pc := 6) (i := 3) 0 dX11_strikeNow_6 rfl rfl ?_
    by_cases hs5 : S[w3]? = some (.inl 4)
    · replace hf := (if_pos hs5).symm.trans hf
      refine X_instNo (pc := 7) (ci := 4) hs5 k_617 (by decide) dX11_strikeNow_7 ?_
      refine X_if_eq_t (pc := 10) 30 dX11_strikeNow_10 (by decide) (by decide) ?_
      refine X_iconst (pc := 30) (-1 : Int32) dX11_strikeNow_30 (by decide) ?_
      cases hf
      exact X_ireturn (pc := 31) rfl dX11_strikeNow_31
    · replace hf := (if_neg hs5).symm.trans hf
      by_cases hs6 : S[w3]? = some (.inl 1)
      · replace hf := (if_pos hs6).symm.trans hf
        refine X_instNo (pc := 7) (ci := 1) hs6 k_617 (by decide) dX11_strikeNow_7 ?_
        refine X_if_eq_t (pc := 10) 30 dX11_strikeNow_10 (by decide) (by decide) ?_
        refine X_iconst (pc := 30) (-1 : Int32) dX11_strikeNow_30 (by decide) ?_
        cases hf
        exact X_ireturn (pc := 31) rfl dX11_strikeNow_31
      · replace hf := (if_neg hs6).symm.trans hf
        obtain ⟨hs7, hf⟩ := gd_some hf
        refine X_instYes (pc := 7) (ci := 8) hs7 k_617 dX11_strikeNow_7 ?_
        refine X_if_eq_f (pc := 10) 30 dX11_strikeNow_10 (by decide) (by decide) ?_
        refine X_aload_n (pc := 13) (i := 3) 0 dX11_strikeNow_13 rfl rfl ?_
        refine X_castYes (pc := 14) (ci := 8) hs7 k_617 dX11_strikeNow_14 ?_
        refine X_astore_n (pc := 17) (i := 2) [(2, .ref (xB G + w3)), (3, .ref (xB G + w3)), (0, .ref (xB G + 0)), (1, .int a0)] dX11_strikeNow_17 rfl (by decide) rfl ?_
        refine X_aload_n (pc := 18) (i := 2) 0 dX11_strikeNow_18 rfl rfl ?_
        refine X_aload_n (pc := 19) (i := 0) 2 dX11_strikeNow_19 rfl rfl ?_
        refine X_getr (pc := 20) (a := 0) (ci := 10) (j := 0) (c := 1) (sh_0 hT) (by decide) k_377 (rf_0_0 hT) (fun _ h => h) dX11_strikeNow_20 ?_
        refine X_get (pc := 23) (a := 1) (ci := 5) (j := 12) (.int (I 1 12)) (sh_1 hT) (by decide) k_192 rfl dX11_strikeNow_23 ?_
        obtain ⟨q8, c9, hf⟩ := bd_some hf
        refine X_invV_i (pc := 26) (c_St_sound hT hs7 c9) ok_St_sound (ci := 8) hs7 k_889 k_793 k_794 nd_8 (by decide) rfl (Nat.le_of_ble_eq_true rfl) dX11_strikeNow_26 ?_
        cases hf
        exact X_ireturn (pc := 29) rfl dX11_strikeNow_29
theorem u_H_strikeNow {S : List xSh} {Rf : Nat → Nat → Option Nat} {a0 : Int32} {I : Nat → Nat → Int32} {L : Nat → Nat → Int64} {q : (Int32 × (Nat → Nat → Int32) × (Nat → Nat → Int64))} (hf : f_H_strikeNow S Rf a0 I L = some q) : FR S [14, 2303] [] I q.2.1 L q.2.2 := by
  replace hf := (f_H_strikeNow.eq_1 _ _ _ _ _).symm.trans hf
  obtain ⟨q1, c2, hf⟩ := bd_some hf
  rcases oc_cases hf with ⟨hr4, hf⟩ | ⟨w3, hr4, hf⟩
  · rw [hr4] at c2
    cases hf
    exact FR.rf
  · rw [hr4] at c2
    by_cases hs5 : S[w3]? = some (.inl 4)
    · replace hf := (if_pos hs5).symm.trans hf
      cases hf
      exact FR.rf
    · replace hf := (if_neg hs5).symm.trans hf
      by_cases hs6 : S[w3]? = some (.inl 1)
      · replace hf := (if_pos hs6).symm.trans hf
        cases hf
        exact FR.rf
      · replace hf := (if_neg hs6).symm.trans hf
        obtain ⟨hs7, hf⟩ := gd_some hf
        obtain ⟨q8, c9, hf⟩ := bd_some hf
        cases hf
        exact (FR.tr FR.rf (u_St_sound hs7 (q := q8) c9) (by decide) (by decide))
theorem dX11_trip_0 : decode cX11_trip 0 = .ok (.aload_n 0, 1) := by decide +kernel
theorem dX11_trip_1 : decode cX11_trip 1 = .ok (.iload_n 1, 1) := by decide +kernel
theorem dX11_trip_2 : decode cX11_trip 2 = .ok (.invokevirtual 184, 3) := by decide +kernel
theorem dX11_trip_5 : decode cX11_trip 5 = .ok (.instanceof 130, 3) := by decide +kernel
theorem dX11_trip_8 : decode cX11_trip 8 = .ok (.ifCond .ne 5, 3) := by decide +kernel
theorem dX11_trip_11 : decode cX11_trip 11 = .ok (.iconst (-1), 1) := by decide +kernel
theorem dX11_trip_12 : decode cX11_trip 12 = .ok (.ireturn, 1) := by decide +kernel
theorem dX11_trip_13 : decode cX11_trip 13 = .ok (.aload_n 0, 1) := by decide +kernel
theorem dX11_trip_14 : decode cX11_trip 14 = .ok (.getfield 77, 3) := by decide +kernel
theorem dX11_trip_17 : decode cX11_trip 17 = .ok (.ifCond .ne 6, 3) := by decide +kernel
theorem dX11_trip_20 : decode cX11_trip 20 = .ok (.bipush (-2), 2) := by decide +kernel
theorem dX11_trip_22 : decode cX11_trip 22 = .ok (.ireturn, 1) := by decide +kernel
theorem dX11_trip_23 : decode cX11_trip 23 = .ok (.aload_n 0, 1) := by decide +kernel
theorem dX11_trip_24 : decode cX11_trip 24 = .ok (.iconst 5, 1) := by decide +kernel
theorem dX11_trip_25 : decode cX11_trip 25 = .ok (.iload_n 1, 1) := by decide +kernel
theorem dX11_trip_26 : decode cX11_trip 26 = .ok (.iconst 0, 1) := by decide +kernel
theorem dX11_trip_27 : decode cX11_trip 27 = .ok (.iconst 0, 1) := by decide +kernel
theorem dX11_trip_28 : decode cX11_trip 28 = .ok (.invokevirtual 157, 3) := by decide +kernel
theorem dX11_trip_31 : decode cX11_trip 31 = .ok (.ifCond .eq 11, 3) := by decide +kernel
theorem dX11_trip_34 : decode cX11_trip 34 = .ok (.aload_n 0, 1) := by decide +kernel
theorem dX11_trip_35 : decode cX11_trip 35 = .ok (.iload_n 1, 1) := by decide +kernel
theorem dX11_trip_36 : decode cX11_trip 36 = .ok (.invokevirtual 200, 3) := by decide +kernel
theorem dX11_trip_39 : decode cX11_trip 39 = .ok (.goto 5, 3) := by decide +kernel
theorem dX11_trip_42 : decode cX11_trip 42 = .ok (.bipush (-3), 2) := by decide +kernel
theorem dX11_trip_44 : decode cX11_trip 44 = .ok (.ireturn, 1) := by decide +kernel
def f_H_trip (S : List xSh) (Rf : Nat → Nat → Option Nat) (a0 : Int32) (I : Nat → Nat → Int32) (L : Nat → Nat → Int64) : Option (Int32 × (Nat → Nat → Int32) × (Nat → Nat → Int64)) := ((f_H_workAt S Rf a0 I L).bind fun q1 => (oc q1 (some ((-1 : Int32), I, L)) fun w3 => (if S[w3]? = some (.inl 4) then (some ((-1 : Int32), I, L)) else (if S[w3]? = some (.inl 1) then (some ((-1 : Int32), I, L)) else (if S[w3]? = some (.inl 8) then (if (I 0 8) = (0 : Int32) then (some ((-2 : Int32), I, L)) else ((f_H_enter (5 : Int32) a0 (0 : Int32) (0 : Int32) I L).bind fun q9 => (if q9.1 = (0 : Int32) then (some ((-3 : Int32), q9.2.1, q9.2.2)) else ((f_H_strikeNow S Rf a0 q9.2.1 q9.2.2).bind fun q12 => (some (q12.1, q12.2.1, q12.2.2)))))) else none)))))
set_option maxRecDepth 100000 in
set_option maxHeartbeats 4000000 in
theorem c_H_trip {G : xG} {S : List xSh} {Rf : Nat → Nat → Option Nat} (hT : xTH S Rf) {a0 : Int32} {I : Nat → Nat → Int32} {L : Nat → Nat → Int64} {q : (Int32 × (Nat → Nat → Int32) × (Nat → Nat → Int64))} (hf : f_H_trip S Rf a0 I L = some q) : CT G 4 m_H_trip [.ref (xB G + 0), .int a0] (S, I, L, Rf) (some (.int q.1), (S, q.2.1, q.2.2, Rf)) := by
  refine CT.of (by decide +kernel) (Nat.le_of_ble_eq_true rfl) ?_
  show X G 4 m_H_trip 0 [(0, .ref (xB G + 0)), (1, .int a0)] [] (S, I, L, Rf) (some (.int q.1), (S, q.2.1, q.2.2, Rf))
  replace hf := (f_H_trip.eq_1 _ _ _ _ _).symm.trans hf
  refine X_aload_n (pc := 0) (i := 0) 0 dX11_trip_0 rfl rfl ?_
  refine X_iload_n (pc := 1) (i := 1) 1 dX11_trip_1 rfl rfl ?_
  obtain ⟨q1, c2, hf⟩ := bd_some hf
  rcases oc_cases hf with ⟨hr4, hf⟩ | ⟨w3, hr4, hf⟩
  · rw [hr4] at c2
    refine X_invV_aN (pc := 2) (c_H_workAt hT c2) ok_H_workAt (ci := 10) (sh_0 hT) k_837 k_839 k_18 nd_24 (by decide) rfl (Nat.le_of_ble_eq_true rfl) dX11_trip_2 ?_
    refine X_instN (pc := 5) dX11_trip_5 ?_
    refine X_if_ne_f (pc := 8) 13 dX11_trip_8 (by decide) (by decide) ?_
    refine X_iconst (pc := 11) (-1 : Int32) dX11_trip_11 (by decide) ?_
    cases hf
    exact X_ireturn (pc := 12) rfl dX11_trip_12
  · rw [hr4] at c2
    refine X_invV_aS (pc := 2) (c_H_workAt hT c2) ok_H_workAt (ci := 10) (sh_0 hT) k_837 k_839 k_18 nd_24 (by decide) rfl (Nat.le_of_ble_eq_true rfl) dX11_trip_2 ?_
    by_cases hs5 : S[w3]? = some (.inl 4)
    · replace hf := (if_pos hs5).symm.trans hf
      refine X_instNo (pc := 5) (ci := 4) hs5 k_617 (by decide) dX11_trip_5 ?_
      refine X_if_ne_f (pc := 8) 13 dX11_trip_8 (by decide) (by decide) ?_
      refine X_iconst (pc := 11) (-1 : Int32) dX11_trip_11 (by decide) ?_
      cases hf
      exact X_ireturn (pc := 12) rfl dX11_trip_12
    · replace hf := (if_neg hs5).symm.trans hf
      by_cases hs6 : S[w3]? = some (.inl 1)
      · replace hf := (if_pos hs6).symm.trans hf
        refine X_instNo (pc := 5) (ci := 1) hs6 k_617 (by decide) dX11_trip_5 ?_
        refine X_if_ne_f (pc := 8) 13 dX11_trip_8 (by decide) (by decide) ?_
        refine X_iconst (pc := 11) (-1 : Int32) dX11_trip_11 (by decide) ?_
        cases hf
        exact X_ireturn (pc := 12) rfl dX11_trip_12
      · replace hf := (if_neg hs6).symm.trans hf
        obtain ⟨hs7, hf⟩ := gd_some hf
        refine X_instYes (pc := 5) (ci := 8) hs7 k_617 dX11_trip_5 ?_
        refine X_if_ne_t (pc := 8) 13 dX11_trip_8 (by decide) (by decide) ?_
        refine X_aload_n (pc := 13) (i := 0) 0 dX11_trip_13 rfl rfl ?_
        refine X_get (pc := 14) (a := 0) (ci := 10) (j := 8) (.int (I 0 8)) (sh_0 hT) (by decide) k_385 rfl dX11_trip_14 ?_
        by_cases c8 : (I 0 8) = (0 : Int32)
        · replace hf := (if_pos c8).symm.trans hf
          refine X_if_ne_f (pc := 17) 23 dX11_trip_17 (by decide) c8 ?_
          refine X_bipush (pc := 20) (-2 : Int32) dX11_trip_20 (by decide) ?_
          cases hf
          exact X_ireturn (pc := 22) rfl dX11_trip_22
        · replace hf := (if_neg c8).symm.trans hf
          refine X_if_ne_t (pc := 17) 23 dX11_trip_17 (by decide) c8 ?_
          refine X_aload_n (pc := 23) (i := 0) 0 dX11_trip_23 rfl rfl ?_
          refine X_iconst (pc := 24) (5 : Int32) dX11_trip_24 (by decide) ?_
          refine X_iload_n (pc := 25) (i := 1) 1 dX11_trip_25 rfl rfl ?_
          refine X_iconst (pc := 26) (0 : Int32) dX11_trip_26 (by decide) ?_
          refine X_iconst (pc := 27) (0 : Int32) dX11_trip_27 (by decide) ?_
          obtain ⟨q9, c10, hf⟩ := bd_some hf
          refine X_invV_i (pc := 28) (c_H_enter hT c10) ok_H_enter (ci := 10) (sh_0 hT) k_690 k_692 k_10 nd_18 (by decide) rfl (Nat.le_of_ble_eq_true rfl) dX11_trip_28 ?_
          by_cases c11 : q9.1 = (0 : Int32)
          · replace hf := (if_pos c11).symm.trans hf
            refine X_if_eq_t (pc := 31) 42 dX11_trip_31 (by decide) c11 ?_
            refine X_bipush (pc := 42) (-3 : Int32) dX11_trip_42 (by decide) ?_
            cases hf
            exact X_ireturn (pc := 44) rfl dX11_trip_44
          · replace hf := (if_neg c11).symm.trans hf
            refine X_if_eq_f (pc := 31) 42 dX11_trip_31 (by decide) c11 ?_
            refine X_aload_n (pc := 34) (i := 0) 0 dX11_trip_34 rfl rfl ?_
            refine X_iload_n (pc := 35) (i := 1) 1 dX11_trip_35 rfl rfl ?_
            obtain ⟨q12, c13, hf⟩ := bd_some hf
            refine X_invV_i (pc := 36) (c_H_strikeNow hT c13) ok_H_strikeNow (ci := 10) (sh_0 hT) k_885 k_887 k_21 nd_8 (by decide) rfl (Nat.le_of_ble_eq_true rfl) dX11_trip_36 ?_
            refine X_goto (pc := 39) 44 dX11_trip_39 (by decide) ?_
            cases hf
            exact X_ireturn (pc := 44) rfl dX11_trip_44
theorem u_H_trip {S : List xSh} {Rf : Nat → Nat → Option Nat} {a0 : Int32} {I : Nat → Nat → Int32} {L : Nat → Nat → Int64} {q : (Int32 × (Nat → Nat → Int32) × (Nat → Nat → Int64))} (hf : f_H_trip S Rf a0 I L = some q) : FR S [14, 16, 2303, 2503] [] I q.2.1 L q.2.2 := by
  replace hf := (f_H_trip.eq_1 _ _ _ _ _).symm.trans hf
  obtain ⟨q1, c2, hf⟩ := bd_some hf
  rcases oc_cases hf with ⟨hr4, hf⟩ | ⟨w3, hr4, hf⟩
  · rw [hr4] at c2
    cases hf
    exact FR.rf
  · rw [hr4] at c2
    by_cases hs5 : S[w3]? = some (.inl 4)
    · replace hf := (if_pos hs5).symm.trans hf
      cases hf
      exact FR.rf
    · replace hf := (if_neg hs5).symm.trans hf
      by_cases hs6 : S[w3]? = some (.inl 1)
      · replace hf := (if_pos hs6).symm.trans hf
        cases hf
        exact FR.rf
      · replace hf := (if_neg hs6).symm.trans hf
        obtain ⟨hs7, hf⟩ := gd_some hf
        by_cases c8 : (I 0 8) = (0 : Int32)
        · replace hf := (if_pos c8).symm.trans hf
          cases hf
          exact FR.rf
        · replace hf := (if_neg c8).symm.trans hf
          obtain ⟨q9, c10, hf⟩ := bd_some hf
          by_cases c11 : q9.1 = (0 : Int32)
          · replace hf := (if_pos c11).symm.trans hf
            cases hf
            exact (FR.tr FR.rf (u_H_enter (q := q9) c10) (by decide) (by decide))
          · replace hf := (if_neg c11).symm.trans hf
            obtain ⟨q12, c13, hf⟩ := bd_some hf
            cases hf
            exact (FR.tr (FR.tr FR.rf (u_H_enter (q := q9) c10) (by decide) (by decide)) (u_H_strikeNow (q := q12) c13) (by decide) (by decide))
theorem dX3_restart_0 : decode cX3_restart 0 = .ok (.aload_n 0, 1) := by decide +kernel
theorem dX3_restart_1 : decode cX3_restart 1 = .ok (.iconst 0, 1) := by decide +kernel
theorem dX3_restart_2 : decode cX3_restart 2 = .ok (.putfield 13, 3) := by decide +kernel
theorem dX3_restart_5 : decode cX3_restart 5 = .ok (.aload_n 0, 1) := by decide +kernel
theorem dX3_restart_6 : decode cX3_restart 6 = .ok (.iconst 0, 1) := by decide +kernel
theorem dX3_restart_7 : decode cX3_restart 7 = .ok (.putfield 16, 3) := by decide +kernel
theorem dX3_restart_10 : decode cX3_restart 10 = .ok (.aload_n 0, 1) := by decide +kernel
theorem dX3_restart_11 : decode cX3_restart 11 = .ok (.iconst 0, 1) := by decide +kernel
theorem dX3_restart_12 : decode cX3_restart 12 = .ok (.invokevirtual 20, 3) := by decide +kernel
theorem dX3_restart_15 : decode cX3_restart 15 = .ok (.return_, 1) := by decide +kernel
def f_Cr_restart (w0 : Nat) (I : Nat → Nat → Int32) (L : Nat → Nat → Int64) : Option ((Nat → Nat → Int32) × (Nat → Nat → Int64)) := ((f_Cr_setCount w0 (0 : Int32) (uI (uI I w0 1 (0 : Int32)) w0 4 (0 : Int32)) L).bind fun q1 => (some (q1.1, q1.2)))
set_option maxRecDepth 100000 in
set_option maxHeartbeats 4000000 in
theorem c_Cr_restart {G : xG} {S : List xSh} {Rf : Nat → Nat → Option Nat} (hT : xTH S Rf) {w0 : Nat} (hw0 : S[w0]? = some (.inl 3)) {I : Nat → Nat → Int32} {L : Nat → Nat → Int64} {q : ((Nat → Nat → Int32) × (Nat → Nat → Int64))} (hf : f_Cr_restart w0 I L = some q) : CT G 2 m_Cr_restart [.ref (xB G + w0)] (S, I, L, Rf) (none, (S, q.1, q.2, Rf)) := by
  refine CT.of (by decide +kernel) (Nat.le_of_ble_eq_true rfl) ?_
  show X G 2 m_Cr_restart 0 [(0, .ref (xB G + w0))] [] (S, I, L, Rf) (none, (S, q.1, q.2, Rf))
  replace hf := (f_Cr_restart.eq_1 _ _ _).symm.trans hf
  refine X_aload_n (pc := 0) (i := 0) 0 dX3_restart_0 rfl rfl ?_
  refine X_iconst (pc := 1) (0 : Int32) dX3_restart_1 (by decide) ?_
  refine X_puti (pc := 2) (a := w0) (ci := 3) (j := 1) false hw0 (by decide) k_654 rfl (fun h => by cases h) rfl dX3_restart_2 ?_
  refine X_aload_n (pc := 5) (i := 0) 0 dX3_restart_5 rfl rfl ?_
  refine X_iconst (pc := 6) (0 : Int32) dX3_restart_6 (by decide) ?_
  refine X_putz (pc := 7) (a := w0) (ci := 3) (j := 4) false hw0 (by decide) k_660 rfl (fun h => by cases h) rfl (by decide) dX3_restart_7 ?_
  refine X_aload_n (pc := 10) (i := 0) 0 dX3_restart_10 rfl rfl ?_
  refine X_iconst (pc := 11) (0 : Int32) dX3_restart_11 (by decide) ?_
  obtain ⟨q1, c2, hf⟩ := bd_some hf
  refine X_invV_v (pc := 12) (c_Cr_setCount hT hw0 c2) ok_Cr_setCount (ci := 3) hw0 k_758 k_760 k_14 nd_13 (by decide) rfl (Nat.le_of_ble_eq_true rfl) dX3_restart_12 ?_
  cases hf
  exact X_return (pc := 15) rfl dX3_restart_15
theorem u_Cr_restart {S : List xSh} {w0 : Nat} (hw0 : S[w0]? = some (.inl 3)) {I : Nat → Nat → Int32} {L : Nat → Nat → Int64} {q : ((Nat → Nat → Int32) × (Nat → Nat → Int64))} (hf : f_Cr_restart w0 I L = some q) : FR S [] [] I q.1 L q.2 := by
  replace hf := (f_Cr_restart.eq_1 _ _ _).symm.trans hf
  obtain ⟨q1, c2, hf⟩ := bd_some hf
  cases hf
  exact (FR.tr (FR.dy (FR.dy FR.rf hw0 (by decide)) hw0 (by decide)) (u_Cr_setCount hw0 (q := q1) c2) (by decide) (by decide))
theorem dX11_restartMovement_0 : decode cX11_restartMovement 0 = .ok (.aload_n 0, 1) := by decide +kernel
theorem dX11_restartMovement_1 : decode cX11_restartMovement 1 = .ok (.getfield 10, 3) := by decide +kernel
theorem dX11_restartMovement_4 : decode cX11_restartMovement 4 = .ok (.invokevirtual 363, 3) := by decide +kernel
theorem dX11_restartMovement_7 : decode cX11_restartMovement 7 = .ok (.aload_n 0, 1) := by decide +kernel
theorem dX11_restartMovement_8 : decode cX11_restartMovement 8 = .ok (.getfield 38, 3) := by decide +kernel
theorem dX11_restartMovement_11 : decode cX11_restartMovement 11 = .ok (.iconst 0, 1) := by decide +kernel
theorem dX11_restartMovement_12 : decode cX11_restartMovement 12 = .ok (.putfield 73, 3) := by decide +kernel
theorem dX11_restartMovement_15 : decode cX11_restartMovement 15 = .ok (.iconst 0, 1) := by decide +kernel
theorem dX11_restartMovement_16 : decode cX11_restartMovement 16 = .ok (.istore_n 1, 1) := by decide +kernel
theorem dX11_restartMovement_17 : decode cX11_restartMovement 17 = .ok (.iload_n 1, 1) := by decide +kernel
theorem dX11_restartMovement_18 : decode cX11_restartMovement 18 = .ok (.aload_n 0, 1) := by decide +kernel
theorem dX11_restartMovement_19 : decode cX11_restartMovement 19 = .ok (.getfield 132, 3) := by decide +kernel
theorem dX11_restartMovement_22 : decode cX11_restartMovement 22 = .ok (.if_icmp .ge 28, 3) := by decide +kernel
theorem dX11_restartMovement_25 : decode cX11_restartMovement 25 = .ok (.aload_n 0, 1) := by decide +kernel
theorem dX11_restartMovement_26 : decode cX11_restartMovement 26 = .ok (.iload_n 1, 1) := by decide +kernel
theorem dX11_restartMovement_27 : decode cX11_restartMovement 27 = .ok (.invokevirtual 184, 3) := by decide +kernel
theorem dX11_restartMovement_30 : decode cX11_restartMovement 30 = .ok (.astore_n 2, 1) := by decide +kernel
theorem dX11_restartMovement_31 : decode cX11_restartMovement 31 = .ok (.aload_n 2, 1) := by decide +kernel
theorem dX11_restartMovement_32 : decode cX11_restartMovement 32 = .ok (.ifnull 12, 3) := by decide +kernel
theorem dX11_restartMovement_35 : decode cX11_restartMovement 35 = .ok (.aload_n 2, 1) := by decide +kernel
theorem dX11_restartMovement_36 : decode cX11_restartMovement 36 = .ok (.iconst 0, 1) := by decide +kernel
theorem dX11_restartMovement_37 : decode cX11_restartMovement 37 = .ok (.putfield 257, 3) := by decide +kernel
theorem dX11_restartMovement_40 : decode cX11_restartMovement 40 = .ok (.aload_n 2, 1) := by decide +kernel
theorem dX11_restartMovement_41 : decode cX11_restartMovement 41 = .ok (.invokevirtual 366, 3) := by decide +kernel
theorem dX11_restartMovement_44 : decode cX11_restartMovement 44 = .ok (.iinc 1 1, 3) := by decide +kernel
theorem dX11_restartMovement_47 : decode cX11_restartMovement 47 = .ok (.goto (-30), 3) := by decide +kernel
theorem dX11_restartMovement_50 : decode cX11_restartMovement 50 = .ok (.iconst 0, 1) := by decide +kernel
theorem dX11_restartMovement_51 : decode cX11_restartMovement 51 = .ok (.istore_n 1, 1) := by decide +kernel
theorem dX11_restartMovement_52 : decode cX11_restartMovement 52 = .ok (.iload_n 1, 1) := by decide +kernel
theorem dX11_restartMovement_53 : decode cX11_restartMovement 53 = .ok (.aload_n 0, 1) := by decide +kernel
theorem dX11_restartMovement_54 : decode cX11_restartMovement 54 = .ok (.getfield 138, 3) := by decide +kernel
theorem dX11_restartMovement_57 : decode cX11_restartMovement 57 = .ok (.if_icmp .ge 23, 3) := by decide +kernel
theorem dX11_restartMovement_60 : decode cX11_restartMovement 60 = .ok (.aload_n 0, 1) := by decide +kernel
theorem dX11_restartMovement_61 : decode cX11_restartMovement 61 = .ok (.iload_n 1, 1) := by decide +kernel
theorem dX11_restartMovement_62 : decode cX11_restartMovement 62 = .ok (.invokevirtual 176, 3) := by decide +kernel
theorem dX11_restartMovement_65 : decode cX11_restartMovement 65 = .ok (.astore_n 2, 1) := by decide +kernel
theorem dX11_restartMovement_66 : decode cX11_restartMovement 66 = .ok (.aload_n 2, 1) := by decide +kernel
theorem dX11_restartMovement_67 : decode cX11_restartMovement 67 = .ok (.ifnull 7, 3) := by decide +kernel
theorem dX11_restartMovement_70 : decode cX11_restartMovement 70 = .ok (.aload_n 2, 1) := by decide +kernel
theorem dX11_restartMovement_71 : decode cX11_restartMovement 71 = .ok (.invokevirtual 367, 3) := by decide +kernel
theorem dX11_restartMovement_74 : decode cX11_restartMovement 74 = .ok (.iinc 1 1, 3) := by decide +kernel
theorem dX11_restartMovement_77 : decode cX11_restartMovement 77 = .ok (.goto (-25), 3) := by decide +kernel
theorem dX11_restartMovement_80 : decode cX11_restartMovement 80 = .ok (.return_, 1) := by decide +kernel
def f_H_restartMovement_L52 (S : List xSh) (Rf : Nat → Nat → Option Nat) : Nat → Int32 → (Nat → Nat → Int32) → (Nat → Nat → Int64) → Option ((Nat → Nat → Int32) × (Nat → Nat → Int64))
  | 0, _, _, _ => none
  | n + 1, l1, I, L => (if (I 0 7) ≤ l1 then (some (I, L)) else ((f_H_chronographAt S Rf l1 I L).bind fun q5 => (oc q5 (f_H_restartMovement_L52 S Rf n (l1 + (1 : Int32)) I L) fun w7 => (if S[w7]? = some (.inl 3) then ((f_Cr_restart w7 I L).bind fun q10 => (f_H_restartMovement_L52 S Rf n (l1 + (1 : Int32)) q10.1 q10.2)) else none))))
set_option maxRecDepth 100000 in
set_option maxHeartbeats 4000000 in
theorem x_H_restartMovement_L52 {G : xG} {S : List xSh} {Rf : Nat → Nat → Option Nat} (hT : xTH S Rf) : ∀ (n : Nat) {l1 : Int32} {I : Nat → Nat → Int32} {L : Nat → Nat → Int64} {q : ((Nat → Nat → Int32) × (Nat → Nat → Int64))}, f_H_restartMovement_L52 S Rf n l1 I L = some q → X G 4 m_H_restartMovement 52 [(0, .ref (xB G + 0)), (1, .int l1)] [] (S, I, L, Rf) (none, (S, q.1, q.2, Rf)) := by
  intro n
  induction n with
  | zero =>
    intro l1 I L q hf
    exact absurd (show none = some q from hf) (by simp)
  | succ n ih =>
    intro l1 I L q hf
    replace hf := (f_H_restartMovement_L52.eq_2 _ _ _ _ _ _).symm.trans hf
    refine X_iload_n (pc := 52) (i := 1) 1 dX11_restartMovement_52 rfl rfl ?_
    refine X_aload_n (pc := 53) (i := 0) 0 dX11_restartMovement_53 rfl rfl ?_
    refine X_get (pc := 54) (a := 0) (ci := 10) (j := 7) (.int (I 0 7)) (sh_0 hT) (by decide) k_384 rfl dX11_restartMovement_54 ?_
    by_cases c4 : (I 0 7) ≤ l1
    · replace hf := (if_pos c4).symm.trans hf
      refine X_icmp_ge_t (pc := 57) 80 dX11_restartMovement_57 (by decide) c4 ?_
      cases hf
      exact X_return (pc := 80) rfl dX11_restartMovement_80
    · replace hf := (if_neg c4).symm.trans hf
      refine X_icmp_ge_f (pc := 57) 80 dX11_restartMovement_57 (by decide) c4 ?_
      refine X_aload_n (pc := 60) (i := 0) 0 dX11_restartMovement_60 rfl rfl ?_
      refine X_iload_n (pc := 61) (i := 1) 1 dX11_restartMovement_61 rfl rfl ?_
      obtain ⟨q5, c6, hf⟩ := bd_some hf
      rcases oc_cases hf with ⟨hr8, hf⟩ | ⟨w7, hr8, hf⟩
      · rw [hr8] at c6
        refine X_invV_aN (pc := 62) (c_H_chronographAt hT c6) ok_H_chronographAt (ci := 10) (sh_0 hT) k_821 k_823 k_17 nd_23 (by decide) rfl (Nat.le_of_ble_eq_true rfl) dX11_restartMovement_62 ?_
        refine X_astore_nN (pc := 65) (i := 2) [(2, .null), (0, .ref (xB G + 0)), (1, .int l1)] dX11_restartMovement_65 rfl (by decide) rfl ?_
        refine X_aload_nN (pc := 66) (i := 2) 0 dX11_restartMovement_66 rfl rfl ?_
        refine X_ifnull_t (pc := 67) 74 dX11_restartMovement_67 (by decide) ?_
        refine X_iinc (pc := 74) (i := 1) (q := 2) (v := (l1 + (1 : Int32))) [(1, .int (l1 + (1 : Int32))), (2, .null), (0, .ref (xB G + 0))] dX11_restartMovement_74 rfl rfl (by decide) rfl ?_
        refine X_goto (pc := 77) 52 dX11_restartMovement_77 (by decide) ?_
        exact X_lvs [2, 0] rfl (ih hf)
      · obtain ⟨hs9, hf⟩ := gd_some hf
        rw [hr8] at c6
        refine X_invV_aS (pc := 62) (c_H_chronographAt hT c6) ok_H_chronographAt (ci := 10) (sh_0 hT) k_821 k_823 k_17 nd_23 (by decide) rfl (Nat.le_of_ble_eq_true rfl) dX11_restartMovement_62 ?_
        refine X_astore_n (pc := 65) (i := 2) [(2, .ref (xB G + w7)), (0, .ref (xB G + 0)), (1, .int l1)] dX11_restartMovement_65 rfl (by decide) rfl ?_
        refine X_aload_n (pc := 66) (i := 2) 0 dX11_restartMovement_66 rfl rfl ?_
        refine X_ifnull_f (pc := 67) dX11_restartMovement_67 ?_
        refine X_aload_n (pc := 70) (i := 2) 0 dX11_restartMovement_70 rfl rfl ?_
        obtain ⟨q10, c11, hf⟩ := bd_some hf
        refine X_invV_v (pc := 71) (c_Cr_restart hT hs9 c11) ok_Cr_restart (ci := 3) hs9 k_899 k_900 k_901 nd_1 (by decide) rfl (Nat.le_of_ble_eq_true rfl) dX11_restartMovement_71 ?_
        refine X_iinc (pc := 74) (i := 1) (q := 2) (v := (l1 + (1 : Int32))) [(1, .int (l1 + (1 : Int32))), (2, .ref (xB G + w7)), (0, .ref (xB G + 0))] dX11_restartMovement_74 rfl rfl (by decide) rfl ?_
        refine X_goto (pc := 77) 52 dX11_restartMovement_77 (by decide) ?_
        exact X_lvs [2, 0] rfl (ih hf)
theorem u_H_restartMovement_L52 {S : List xSh} {Rf : Nat → Nat → Option Nat} : ∀ (n : Nat) {l1 : Int32} {I : Nat → Nat → Int32} {L : Nat → Nat → Int64} {q : ((Nat → Nat → Int32) × (Nat → Nat → Int64))}, f_H_restartMovement_L52 S Rf n l1 I L = some q → FR S [1108, 1109, 1110, 1111, 1112, 1113, 1114, 1903, 2303] [1107] I q.1 L q.2 := by
  intro n
  induction n with
  | zero =>
    intro l1 I L q hf
    exact absurd (show none = some q from hf) (by simp)
  | succ n ih =>
    intro l1 I L q hf
    replace hf := (f_H_restartMovement_L52.eq_2 _ _ _ _ _ _).symm.trans hf
    by_cases c4 : (I 0 7) ≤ l1
    · replace hf := (if_pos c4).symm.trans hf
      cases hf
      exact FR.rf
    · replace hf := (if_neg c4).symm.trans hf
      obtain ⟨q5, c6, hf⟩ := bd_some hf
      rcases oc_cases hf with ⟨hr8, hf⟩ | ⟨w7, hr8, hf⟩
      · rw [hr8] at c6
        exact FR.tr FR.rf (ih hf) (by decide) (by decide)
      · obtain ⟨hs9, hf⟩ := gd_some hf
        rw [hr8] at c6
        obtain ⟨q10, c11, hf⟩ := bd_some hf
        exact FR.tr (FR.tr FR.rf (u_Cr_restart hs9 (q := q10) c11) (by decide) (by decide)) (ih hf) (by decide) (by decide)
def f_H_restartMovement_L17 (S : List xSh) (Rf : Nat → Nat → Option Nat) : Nat → Int32 → (Nat → Nat → Int32) → (Nat → Nat → Int64) → Option ((Nat → Nat → Int32) × (Nat → Nat → Int64))
  | 0, _, _, _ => none
  | n + 1, l1, I, L => (if (I 0 6) ≤ l1 then (f_H_restartMovement_L52 S Rf xF (0 : Int32) I L) else ((f_H_workAt S Rf l1 I L).bind fun q12 => (oc q12 (f_H_restartMovement_L17 S Rf n (l1 + (1 : Int32)) I L) fun w14 => (if S[w14]? = some (.inl 4) then ((f_Di_restart w14 (uI I w14 1 (0 : Int32)) L).bind fun q17 => (f_H_restartMovement_L17 S Rf n (l1 + (1 : Int32)) q17.1 q17.2)) else (if S[w14]? = some (.inl 1) then ((f_Ca_restart w14 (uI I w14 1 (0 : Int32)) L).bind fun q20 => (f_H_restartMovement_L17 S Rf n (l1 + (1 : Int32)) q20.1 q20.2)) else (if S[w14]? = some (.inl 8) then ((f_St_restart w14 (uI I w14 1 (0 : Int32)) L).bind fun q23 => (f_H_restartMovement_L17 S Rf n (l1 + (1 : Int32)) q23.1 q23.2)) else none))))))
set_option maxRecDepth 100000 in
set_option maxHeartbeats 4000000 in
theorem x_H_restartMovement_L17 {G : xG} {S : List xSh} {Rf : Nat → Nat → Option Nat} (hT : xTH S Rf) : ∀ (n : Nat) {l1 : Int32} {I : Nat → Nat → Int32} {L : Nat → Nat → Int64} {q : ((Nat → Nat → Int32) × (Nat → Nat → Int64))}, f_H_restartMovement_L17 S Rf n l1 I L = some q → X G 4 m_H_restartMovement 17 [(0, .ref (xB G + 0)), (1, .int l1)] [] (S, I, L, Rf) (none, (S, q.1, q.2, Rf)) := by
  intro n
  induction n with
  | zero =>
    intro l1 I L q hf
    exact absurd (show none = some q from hf) (by simp)
  | succ n ih =>
    intro l1 I L q hf
    replace hf := (f_H_restartMovement_L17.eq_2 _ _ _ _ _ _).symm.trans hf
    refine X_iload_n (pc := 17) (i := 1) 1 dX11_restartMovement_17 rfl rfl ?_
    refine X_aload_n (pc := 18) (i := 0) 0 dX11_restartMovement_18 rfl rfl ?_
    refine X_get (pc := 19) (a := 0) (ci := 10) (j := 6) (.int (I 0 6)) (sh_0 hT) (by decide) k_383 rfl dX11_restartMovement_19 ?_
    by_cases c3 : (I 0 6) ≤ l1
    · replace hf := (if_pos c3).symm.trans hf
      refine X_icmp_ge_t (pc := 22) 50 dX11_restartMovement_22 (by decide) c3 ?_
      refine X_iconst (pc := 50) (0 : Int32) dX11_restartMovement_50 (by decide) ?_
      refine X_istore_n (pc := 51) (i := 1) [(1, .int (0 : Int32)), (0, .ref (xB G + 0))] dX11_restartMovement_51 rfl (by decide) rfl ?_
      exact X_lvs [1, 0] rfl (x_H_restartMovement_L52 hT xF hf)
    · replace hf := (if_neg c3).symm.trans hf
      refine X_icmp_ge_f (pc := 22) 50 dX11_restartMovement_22 (by decide) c3 ?_
      refine X_aload_n (pc := 25) (i := 0) 0 dX11_restartMovement_25 rfl rfl ?_
      refine X_iload_n (pc := 26) (i := 1) 1 dX11_restartMovement_26 rfl rfl ?_
      obtain ⟨q12, c13, hf⟩ := bd_some hf
      rcases oc_cases hf with ⟨hr15, hf⟩ | ⟨w14, hr15, hf⟩
      · rw [hr15] at c13
        refine X_invV_aN (pc := 27) (c_H_workAt hT c13) ok_H_workAt (ci := 10) (sh_0 hT) k_837 k_839 k_18 nd_24 (by decide) rfl (Nat.le_of_ble_eq_true rfl) dX11_restartMovement_27 ?_
        refine X_astore_nN (pc := 30) (i := 2) [(2, .null), (0, .ref (xB G + 0)), (1, .int l1)] dX11_restartMovement_30 rfl (by decide) rfl ?_
        refine X_aload_nN (pc := 31) (i := 2) 0 dX11_restartMovement_31 rfl rfl ?_
        refine X_ifnull_t (pc := 32) 44 dX11_restartMovement_32 (by decide) ?_
        refine X_iinc (pc := 44) (i := 1) (q := 2) (v := (l1 + (1 : Int32))) [(1, .int (l1 + (1 : Int32))), (2, .null), (0, .ref (xB G + 0))] dX11_restartMovement_44 rfl rfl (by decide) rfl ?_
        refine X_goto (pc := 47) 17 dX11_restartMovement_47 (by decide) ?_
        exact X_lvs [2, 0] rfl (ih hf)
      · rw [hr15] at c13
        refine X_invV_aS (pc := 27) (c_H_workAt hT c13) ok_H_workAt (ci := 10) (sh_0 hT) k_837 k_839 k_18 nd_24 (by decide) rfl (Nat.le_of_ble_eq_true rfl) dX11_restartMovement_27 ?_
        refine X_astore_n (pc := 30) (i := 2) [(2, .ref (xB G + w14)), (0, .ref (xB G + 0)), (1, .int l1)] dX11_restartMovement_30 rfl (by decide) rfl ?_
        refine X_aload_n (pc := 31) (i := 2) 0 dX11_restartMovement_31 rfl rfl ?_
        refine X_ifnull_f (pc := 32) dX11_restartMovement_32 ?_
        refine X_aload_n (pc := 35) (i := 2) 0 dX11_restartMovement_35 rfl rfl ?_
        refine X_iconst (pc := 36) (0 : Int32) dX11_restartMovement_36 (by decide) ?_
        by_cases hs16 : S[w14]? = some (.inl 4)
        · replace hf := (if_pos hs16).symm.trans hf
          refine X_puti (pc := 37) (a := w14) (ci := 4) (j := 1) false hs16 (by decide) k_528 rfl (fun h => by cases h) rfl dX11_restartMovement_37 ?_
          refine X_aload_n (pc := 40) (i := 2) 0 dX11_restartMovement_40 rfl rfl ?_
          obtain ⟨q17, c18, hf⟩ := bd_some hf
          refine X_invU_v (pc := 41) (c_Di_restart hT hs16 c18) ok_Di_restart (ci := 4) hs16 k_542 k_544 k_543 (by decide +kernel) k_555 k_554 nd_1 (by decide) rfl (Nat.le_of_ble_eq_true rfl) dX11_restartMovement_41 ?_
          refine X_iinc (pc := 44) (i := 1) (q := 2) (v := (l1 + (1 : Int32))) [(1, .int (l1 + (1 : Int32))), (2, .ref (xB G + w14)), (0, .ref (xB G + 0))] dX11_restartMovement_44 rfl rfl (by decide) rfl ?_
          refine X_goto (pc := 47) 17 dX11_restartMovement_47 (by decide) ?_
          exact X_lvs [2, 0] rfl (ih hf)
        · replace hf := (if_neg hs16).symm.trans hf
          by_cases hs19 : S[w14]? = some (.inl 1)
          · replace hf := (if_pos hs19).symm.trans hf
            refine X_puti (pc := 37) (a := w14) (ci := 1) (j := 1) false hs19 (by decide) k_528 rfl (fun h => by cases h) rfl dX11_restartMovement_37 ?_
            refine X_aload_n (pc := 40) (i := 2) 0 dX11_restartMovement_40 rfl rfl ?_
            obtain ⟨q20, c21, hf⟩ := bd_some hf
            refine X_invU_v (pc := 41) (c_Ca_restart hT hs19 c21) ok_Ca_restart (ci := 1) hs19 k_542 k_544 k_543 (by decide +kernel) k_546 k_545 nd_1 (by decide) rfl (Nat.le_of_ble_eq_true rfl) dX11_restartMovement_41 ?_
            refine X_iinc (pc := 44) (i := 1) (q := 2) (v := (l1 + (1 : Int32))) [(1, .int (l1 + (1 : Int32))), (2, .ref (xB G + w14)), (0, .ref (xB G + 0))] dX11_restartMovement_44 rfl rfl (by decide) rfl ?_
            refine X_goto (pc := 47) 17 dX11_restartMovement_47 (by decide) ?_
            exact X_lvs [2, 0] rfl (ih hf)
          · replace hf := (if_neg hs19).symm.trans hf
            obtain ⟨hs22, hf⟩ := gd_some hf
            refine X_puti (pc := 37) (a := w14) (ci := 8) (j := 1) false hs22 (by decide) k_528 rfl (fun h => by cases h) rfl dX11_restartMovement_37 ?_
            refine X_aload_n (pc := 40) (i := 2) 0 dX11_restartMovement_40 rfl rfl ?_
            obtain ⟨q23, c24, hf⟩ := bd_some hf
            refine X_invU_v (pc := 41) (c_St_restart hT hs22 c24) ok_St_restart (ci := 8) hs22 k_542 k_544 k_543 (by decide +kernel) k_558 k_557 nd_1 (by decide) rfl (Nat.le_of_ble_eq_true rfl) dX11_restartMovement_41 ?_
            refine X_iinc (pc := 44) (i := 1) (q := 2) (v := (l1 + (1 : Int32))) [(1, .int (l1 + (1 : Int32))), (2, .ref (xB G + w14)), (0, .ref (xB G + 0))] dX11_restartMovement_44 rfl rfl (by decide) rfl ?_
            refine X_goto (pc := 47) 17 dX11_restartMovement_47 (by decide) ?_
            exact X_lvs [2, 0] rfl (ih hf)
theorem u_H_restartMovement_L17 {S : List xSh} {Rf : Nat → Nat → Option Nat} : ∀ (n : Nat) {l1 : Int32} {I : Nat → Nat → Int32} {L : Nat → Nat → Int64} {q : ((Nat → Nat → Int32) × (Nat → Nat → Int64))}, f_H_restartMovement_L17 S Rf n l1 I L = some q → FR S [1108, 1109, 1110, 1111, 1112, 1113, 1114, 1903, 2303] [1107] I q.1 L q.2 := by
  intro n
  induction n with
  | zero =>
    intro l1 I L q hf
    exact absurd (show none = some q from hf) (by simp)
  | succ n ih =>
    intro l1 I L q hf
    replace hf := (f_H_restartMovement_L17.eq_2 _ _ _ _ _ _).symm.trans hf
    by_cases c3 : (I 0 6) ≤ l1
    · replace hf := (if_pos c3).symm.trans hf
      exact FR.tr FR.rf (u_H_restartMovement_L52 xF hf) (by decide) (by decide)
    · replace hf := (if_neg c3).symm.trans hf
      obtain ⟨q12, c13, hf⟩ := bd_some hf
      rcases oc_cases hf with ⟨hr15, hf⟩ | ⟨w14, hr15, hf⟩
      · rw [hr15] at c13
        exact FR.tr FR.rf (ih hf) (by decide) (by decide)
      · rw [hr15] at c13
        by_cases hs16 : S[w14]? = some (.inl 4)
        · replace hf := (if_pos hs16).symm.trans hf
          obtain ⟨q17, c18, hf⟩ := bd_some hf
          exact FR.tr (FR.tr (FR.dy FR.rf hs16 (by decide)) (u_Di_restart hs16 (q := q17) c18) (by decide) (by decide)) (ih hf) (by decide) (by decide)
        · replace hf := (if_neg hs16).symm.trans hf
          by_cases hs19 : S[w14]? = some (.inl 1)
          · replace hf := (if_pos hs19).symm.trans hf
            obtain ⟨q20, c21, hf⟩ := bd_some hf
            exact FR.tr (FR.tr (FR.dy FR.rf hs19 (by decide)) (u_Ca_restart hs19 (q := q20) c21) (by decide) (by decide)) (ih hf) (by decide) (by decide)
          · replace hf := (if_neg hs19).symm.trans hf
            obtain ⟨hs22, hf⟩ := gd_some hf
            obtain ⟨q23, c24, hf⟩ := bd_some hf
            exact FR.tr (FR.tr (FR.dy FR.rf hs22 (by decide)) (u_St_restart hs22 (q := q23) c24) (by decide) (by decide)) (ih hf) (by decide) (by decide)
def f_H_restartMovement (S : List xSh) (Rf : Nat → Nat → Option Nat) (I : Nat → Nat → Int32) (L : Nat → Nat → Int64) : Option ((Nat → Nat → Int32) × (Nat → Nat → Int64)) := ((f_Es_restart I L).bind fun q1 => (f_H_restartMovement_L17 S Rf xF (0 : Int32) (uI q1.1 13 3 (0 : Int32)) q1.2))
set_option maxRecDepth 100000 in
set_option maxHeartbeats 4000000 in
theorem c_H_restartMovement {G : xG} {S : List xSh} {Rf : Nat → Nat → Option Nat} (hT : xTH S Rf) {I : Nat → Nat → Int32} {L : Nat → Nat → Int64} {q : ((Nat → Nat → Int32) × (Nat → Nat → Int64))} (hf : f_H_restartMovement S Rf I L = some q) : CT G 4 m_H_restartMovement [.ref (xB G + 0)] (S, I, L, Rf) (none, (S, q.1, q.2, Rf)) := by
  refine CT.of (by decide +kernel) (Nat.le_of_ble_eq_true rfl) ?_
  show X G 4 m_H_restartMovement 0 [(0, .ref (xB G + 0))] [] (S, I, L, Rf) (none, (S, q.1, q.2, Rf))
  replace hf := (f_H_restartMovement.eq_1 _ _ _ _).symm.trans hf
  refine X_aload_n (pc := 0) (i := 0) 0 dX11_restartMovement_0 rfl rfl ?_
  refine X_getr (pc := 1) (a := 0) (ci := 10) (j := 0) (c := 1) (sh_0 hT) (by decide) k_377 (rf_0_0 hT) (fun _ h => h) dX11_restartMovement_1 ?_
  obtain ⟨q1, c2, hf⟩ := bd_some hf
  refine X_invV_v (pc := 4) (c_Es_restart hT c2) ok_Es_restart (ci := 5) (sh_1 hT) k_898 k_374 k_375 nd_1 (by decide) rfl (Nat.le_of_ble_eq_true rfl) dX11_restartMovement_4 ?_
  refine X_aload_n (pc := 7) (i := 0) 0 dX11_restartMovement_7 rfl rfl ?_
  refine X_getr (pc := 8) (a := 0) (ci := 10) (j := 4) (c := 13) (sh_0 hT) (by decide) k_381 (rf_0_4 hT) (fun _ h => h) dX11_restartMovement_8 ?_
  refine X_iconst (pc := 11) (0 : Int32) dX11_restartMovement_11 (by decide) ?_
  refine X_puti (pc := 12) (a := 13) (ci := 7) (j := 3) false (sh_13 hT) (by decide) k_161 rfl (fun h => by cases h) rfl dX11_restartMovement_12 ?_
  refine X_iconst (pc := 15) (0 : Int32) dX11_restartMovement_15 (by decide) ?_
  refine X_istore_n (pc := 16) (i := 1) [(1, .int (0 : Int32)), (0, .ref (xB G + 0))] dX11_restartMovement_16 rfl (by decide) rfl ?_
  exact X_lvs [1, 0] rfl (x_H_restartMovement_L17 hT xF hf)
theorem u_H_restartMovement {S : List xSh} {Rf : Nat → Nat → Option Nat} {I : Nat → Nat → Int32} {L : Nat → Nat → Int64} {q : ((Nat → Nat → Int32) × (Nat → Nat → Int64))} (hf : f_H_restartMovement S Rf I L = some q) : FR S [1108, 1109, 1110, 1111, 1112, 1113, 1114, 1903, 2303] [1107] I q.1 L q.2 := by
  replace hf := (f_H_restartMovement.eq_1 _ _ _ _).symm.trans hf
  obtain ⟨q1, c2, hf⟩ := bd_some hf
  exact FR.tr (FR.fi (FR.tr FR.rf (u_Es_restart (q := q1) c2) (by decide) (by decide)) (by decide)) (u_H_restartMovement_L17 xF hf) (by decide) (by decide)
theorem dX7_has_0 : decode cX7_has 0 = .ok (.iload_n 1, 1) := by decide +kernel
theorem dX7_has_1 : decode cX7_has 1 = .ok (.ifCond .lt 35, 3) := by decide +kernel
theorem dX7_has_4 : decode cX7_has 4 = .ok (.iload_n 1, 1) := by decide +kernel
theorem dX7_has_5 : decode cX7_has 5 = .ok (.aload_n 0, 1) := by decide +kernel
theorem dX7_has_6 : decode cX7_has 6 = .ok (.getfield 15, 3) := by decide +kernel
theorem dX7_has_9 : decode cX7_has 9 = .ok (.if_icmp .ge 27, 3) := by decide +kernel
theorem dX7_has_12 : decode cX7_has 12 = .ok (.iload_n 1, 1) := by decide +kernel
theorem dX7_has_13 : decode cX7_has 13 = .ok (.aload_n 0, 1) := by decide +kernel
theorem dX7_has_14 : decode cX7_has 14 = .ok (.getfield 22, 3) := by decide +kernel
theorem dX7_has_17 : decode cX7_has 17 = .ok (.if_icmp .ge 19, 3) := by decide +kernel
theorem dX7_has_20 : decode cX7_has 20 = .ok (.iload_n 2, 1) := by decide +kernel
theorem dX7_has_21 : decode cX7_has 21 = .ok (.ifCond .lt 15, 3) := by decide +kernel
theorem dX7_has_24 : decode cX7_has 24 = .ok (.iload_n 2, 1) := by decide +kernel
theorem dX7_has_25 : decode cX7_has 25 = .ok (.aload_n 0, 1) := by decide +kernel
theorem dX7_has_26 : decode cX7_has 26 = .ok (.getfield 9, 3) := by decide +kernel
theorem dX7_has_29 : decode cX7_has 29 = .ok (.if_icmp .ge 7, 3) := by decide +kernel
theorem dX7_has_32 : decode cX7_has 32 = .ok (.iconst 1, 1) := by decide +kernel
theorem dX7_has_33 : decode cX7_has 33 = .ok (.goto 4, 3) := by decide +kernel
theorem dX7_has_36 : decode cX7_has 36 = .ok (.iconst 0, 1) := by decide +kernel
theorem dX7_has_37 : decode cX7_has 37 = .ok (.ireturn, 1) := by decide +kernel
def f_Ro_has_15 (a0 : Int32) (a1 : Int32) (I : Nat → Nat → Int32) (L : Nat → Nat → Int64) : Int32 := (if a0 < (0 : Int32) then (0 : Int32) else (if (I 15 1) ≤ a0 then (0 : Int32) else (if (I 15 3) ≤ a0 then (0 : Int32) else (if a1 < (0 : Int32) then (0 : Int32) else (if (I 15 0) ≤ a1 then (0 : Int32) else (1 : Int32))))))
set_option maxRecDepth 100000 in
set_option maxHeartbeats 4000000 in
theorem c_Ro_has_15 {G : xG} {S : List xSh} {Rf : Nat → Nat → Option Nat} (hT : xTH S Rf) {a0 : Int32} {a1 : Int32} {I : Nat → Nat → Int32} {L : Nat → Nat → Int64} {q : Int32} (hf : f_Ro_has_15 a0 a1 I L = q) : CT G 1 m_Ro_has [.ref (xB G + 15), .int a0, .int a1] (S, I, L, Rf) (some (.int q), (S, I, L, Rf)) := by
  refine CT.of (by decide +kernel) (Nat.le_of_ble_eq_true rfl) ?_
  show X G 1 m_Ro_has 0 [(0, .ref (xB G + 15)), (1, .int a0), (2, .int a1)] [] (S, I, L, Rf) (some (.int q), (S, I, L, Rf))
  replace hf := (f_Ro_has_15.eq_1 _ _ _ _).symm.trans hf
  refine X_iload_n (pc := 0) (i := 1) 1 dX7_has_0 rfl rfl ?_
  by_cases c1 : a0 < (0 : Int32)
  · replace hf := (if_pos c1).symm.trans hf
    refine X_if_lt_t (pc := 1) 36 dX7_has_1 (by decide) c1 ?_
    refine X_iconst (pc := 36) (0 : Int32) dX7_has_36 (by decide) ?_
    subst hf
    exact X_zreturn (pc := 37) rfl (nar_b (by decide)) dX7_has_37
  · replace hf := (if_neg c1).symm.trans hf
    refine X_if_lt_f (pc := 1) 36 dX7_has_1 (by decide) c1 ?_
    refine X_iload_n (pc := 4) (i := 1) 1 dX7_has_4 rfl rfl ?_
    refine X_aload_n (pc := 5) (i := 0) 0 dX7_has_5 rfl rfl ?_
    refine X_get (pc := 6) (a := 15) (ci := 7) (j := 1) (.int (I 15 1)) (sh_15 hT) (by decide) k_158 rfl dX7_has_6 ?_
    by_cases c2 : (I 15 1) ≤ a0
    · replace hf := (if_pos c2).symm.trans hf
      refine X_icmp_ge_t (pc := 9) 36 dX7_has_9 (by decide) c2 ?_
      refine X_iconst (pc := 36) (0 : Int32) dX7_has_36 (by decide) ?_
      subst hf
      exact X_zreturn (pc := 37) rfl (nar_b (by decide)) dX7_has_37
    · replace hf := (if_neg c2).symm.trans hf
      refine X_icmp_ge_f (pc := 9) 36 dX7_has_9 (by decide) c2 ?_
      refine X_iload_n (pc := 12) (i := 1) 1 dX7_has_12 rfl rfl ?_
      refine X_aload_n (pc := 13) (i := 0) 0 dX7_has_13 rfl rfl ?_
      refine X_get (pc := 14) (a := 15) (ci := 7) (j := 3) (.int (I 15 3)) (sh_15 hT) (by decide) k_160 rfl dX7_has_14 ?_
      by_cases c3 : (I 15 3) ≤ a0
      · replace hf := (if_pos c3).symm.trans hf
        refine X_icmp_ge_t (pc := 17) 36 dX7_has_17 (by decide) c3 ?_
        refine X_iconst (pc := 36) (0 : Int32) dX7_has_36 (by decide) ?_
        subst hf
        exact X_zreturn (pc := 37) rfl (nar_b (by decide)) dX7_has_37
      · replace hf := (if_neg c3).symm.trans hf
        refine X_icmp_ge_f (pc := 17) 36 dX7_has_17 (by decide) c3 ?_
        refine X_iload_n (pc := 20) (i := 2) 2 dX7_has_20 rfl rfl ?_
        by_cases c4 : a1 < (0 : Int32)
        · replace hf := (if_pos c4).symm.trans hf
          refine X_if_lt_t (pc := 21) 36 dX7_has_21 (by decide) c4 ?_
          refine X_iconst (pc := 36) (0 : Int32) dX7_has_36 (by decide) ?_
          subst hf
          exact X_zreturn (pc := 37) rfl (nar_b (by decide)) dX7_has_37
        · replace hf := (if_neg c4).symm.trans hf
          refine X_if_lt_f (pc := 21) 36 dX7_has_21 (by decide) c4 ?_
          refine X_iload_n (pc := 24) (i := 2) 2 dX7_has_24 rfl rfl ?_
          refine X_aload_n (pc := 25) (i := 0) 0 dX7_has_25 rfl rfl ?_
          refine X_get (pc := 26) (a := 15) (ci := 7) (j := 0) (.int (I 15 0)) (sh_15 hT) (by decide) k_157 rfl dX7_has_26 ?_
          by_cases c5 : (I 15 0) ≤ a1
          · replace hf := (if_pos c5).symm.trans hf
            refine X_icmp_ge_t (pc := 29) 36 dX7_has_29 (by decide) c5 ?_
            refine X_iconst (pc := 36) (0 : Int32) dX7_has_36 (by decide) ?_
            subst hf
            exact X_zreturn (pc := 37) rfl (nar_b (by decide)) dX7_has_37
          · replace hf := (if_neg c5).symm.trans hf
            refine X_icmp_ge_f (pc := 29) 36 dX7_has_29 (by decide) c5 ?_
            refine X_iconst (pc := 32) (1 : Int32) dX7_has_32 (by decide) ?_
            refine X_goto (pc := 33) 37 dX7_has_33 (by decide) ?_
            subst hf
            exact X_zreturn (pc := 37) rfl (nar_b (by decide)) dX7_has_37

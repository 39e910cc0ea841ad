theorem dX11_search_0 : decode cX11_search 0 = .ok (.iload_n 1, 1) := by decide +kernel
theorem dX11_search_1 : decode cX11_search 1 = .ok (.iconst 1, 1) := by decide +kernel
theorem dX11_search_2 : decode cX11_search 2 = .ok (.ldc 183, 2) := by decide +kernel
theorem dX11_search_4 : decode cX11_search 4 = .ok (.invokestatic 113, 3) := by decide +kernel
theorem dX11_search_7 : decode cX11_search 7 = .ok (.ifCond .eq 13, 3) := by decide +kernel
theorem dX11_search_10 : decode cX11_search 10 = .ok (.iload_n 2, 1) := by decide +kernel
theorem dX11_search_11 : decode cX11_search 11 = .ok (.iconst 1, 1) := by decide +kernel
theorem dX11_search_12 : decode cX11_search 12 = .ok (.ldc 183, 2) := by decide +kernel
theorem dX11_search_14 : decode cX11_search 14 = .ok (.invokestatic 113, 3) := by decide +kernel
theorem dX11_search_17 : decode cX11_search 17 = .ok (.ifCond .ne 5, 3) := by decide +kernel
theorem dX11_search_20 : decode cX11_search 20 = .ok (.iconst (-1), 1) := by decide +kernel
theorem dX11_search_21 : decode cX11_search 21 = .ok (.ireturn, 1) := by decide +kernel
theorem dX11_search_22 : decode cX11_search 22 = .ok (.iload_n 3, 1) := by decide +kernel
theorem dX11_search_23 : decode cX11_search 23 = .ok (.iconst 1, 1) := by decide +kernel
theorem dX11_search_24 : decode cX11_search 24 = .ok (.iconst 3, 1) := by decide +kernel
theorem dX11_search_25 : decode cX11_search 25 = .ok (.invokestatic 113, 3) := by decide +kernel
theorem dX11_search_28 : decode cX11_search 28 = .ok (.ifCond .eq 16, 3) := by decide +kernel
theorem dX11_search_31 : decode cX11_search 31 = .ok (.aload_n 0, 1) := by decide +kernel
theorem dX11_search_32 : decode cX11_search 32 = .ok (.getfield 66, 3) := by decide +kernel
theorem dX11_search_35 : decode cX11_search 35 = .ok (.iload_n 1, 1) := by decide +kernel
theorem dX11_search_36 : decode cX11_search 36 = .ok (.iload_n 2, 1) := by decide +kernel
theorem dX11_search_37 : decode cX11_search 37 = .ok (.iload_n 3, 1) := by decide +kernel
theorem dX11_search_38 : decode cX11_search 38 = .ok (.invokevirtual 299, 3) := by decide +kernel
theorem dX11_search_41 : decode cX11_search 41 = .ok (.goto 4, 3) := by decide +kernel
theorem dX11_search_44 : decode cX11_search 44 = .ok (.iconst (-1), 1) := by decide +kernel
theorem dX11_search_45 : decode cX11_search 45 = .ok (.ireturn, 1) := by decide +kernel
def f_H_search (a0 : Int32) (a1 : Int32) (a2 : Int32) (I : Nat → Nat → Int32) (L : Nat → Nat → Int64) : Option (Int32 × (Nat → Nat → Int32) × (Nat → Nat → Int64)) := (bnd (f_H_isWithin a0 (1 : Int32) (100000 : Int32)) fun x1 => (if x1 = (0 : Int32) then (some ((-1 : Int32), I, L)) else (bnd (f_H_isWithin a1 (1 : Int32) (100000 : Int32)) fun x3 => (if x3 = (0 : Int32) then (some ((-1 : Int32), I, L)) else (bnd (f_H_isWithin a2 (1 : Int32) (3 : Int32)) fun x5 => (if x5 = (0 : Int32) then (some ((-1 : Int32), I, L)) else ((f_Tr_find a0 a1 a2 I L).bind fun q7 => (some (q7.1, q7.2.1, q7.2.2)))))))))
set_option maxRecDepth 100000 in
set_option maxHeartbeats 4000000 in
theorem c_H_search {G : xG} {S : List xSh} {Rf : Nat → Nat → Option Nat} (hT : xTH S Rf) {a0 : Int32} {a1 : Int32} {a2 : Int32} {I : Nat → Nat → Int32} {L : Nat → Nat → Int64} {q : (Int32 × (Nat → Nat → Int32) × (Nat → Nat → Int64))} (hf : f_H_search a0 a1 a2 I L = some q) : CT G 5 m_H_search [.ref (xP G 0), .int a0, .int a1, .int a2] (S, I, L, Rf) (some (.int q.1), (S, q.2.1, q.2.2, Rf)) := by
  refine CT.of (by decide +kernel) (Nat.le_of_ble_eq_true rfl) ?_
  show X G 5 m_H_search 0 [(0, .ref (xP G 0)), (1, .int a0), (2, .int a1), (3, .int a2)] [] (S, I, L, Rf) (some (.int q.1), (S, q.2.1, q.2.2, Rf))
  replace hf := (f_H_search.eq_1 _ _ _ _ _).symm.trans hf
  refine X_iload_n (pc := 0) (i := 1) 1 dX11_search_0 rfl rfl ?_
  refine X_iconst (pc := 1) (1 : Int32) dX11_search_1 (by decide) ?_
  refine X_ldc (pc := 2) (100000 : Int32) k_846 dX11_search_2 ?_
  refine X_invS_i (pc := 4) (c_H_isWithin hT rfl) ok_H_isWithin k_563 k_564 nd_6 (by decide) rfl (Nat.le_of_ble_eq_true rfl) dX11_search_4 ?_
  obtain ⟨x1, ex1, hf⟩ := bnd_e hf
  refine X_tope ex1 ?_
  by_cases c2 : x1 = (0 : Int32)
  · replace hf := (if_pos c2).symm.trans hf
    refine X_if_eq_t (pc := 7) 20 dX11_search_7 (by decide) c2 ?_
    refine X_iconst (pc := 20) (-1 : Int32) dX11_search_20 (by decide) ?_
    cases hf
    exact X_ireturn (pc := 21) rfl dX11_search_21
  · replace hf := (if_neg c2).symm.trans hf
    refine X_if_eq_f (pc := 7) 20 dX11_search_7 (by decide) c2 ?_
    refine X_iload_n (pc := 10) (i := 2) 2 dX11_search_10 rfl rfl ?_
    refine X_iconst (pc := 11) (1 : Int32) dX11_search_11 (by decide) ?_
    refine X_ldc (pc := 12) (100000 : Int32) k_846 dX11_search_12 ?_
    refine X_invS_i (pc := 14) (c_H_isWithin hT rfl) ok_H_isWithin k_563 k_564 nd_6 (by decide) rfl (Nat.le_of_ble_eq_true rfl) dX11_search_14 ?_
    obtain ⟨x3, ex3, hf⟩ := bnd_e hf
    refine X_tope ex3 ?_
    by_cases c4 : x3 = (0 : Int32)
    · replace hf := (if_pos c4).symm.trans hf
      refine X_if_ne_f (pc := 17) 22 dX11_search_17 (by decide) c4 ?_
      refine X_iconst (pc := 20) (-1 : Int32) dX11_search_20 (by decide) ?_
      cases hf
      exact X_ireturn (pc := 21) rfl dX11_search_21
    · replace hf := (if_neg c4).symm.trans hf
      refine X_if_ne_t (pc := 17) 22 dX11_search_17 (by decide) c4 ?_
      refine X_iload_n (pc := 22) (i := 3) 3 dX11_search_22 rfl rfl ?_
      refine X_iconst (pc := 23) (1 : Int32) dX11_search_23 (by decide) ?_
      refine X_iconst (pc := 24) (3 : Int32) dX11_search_24 (by decide) ?_
      refine X_invS_i (pc := 25) (c_H_isWithin hT rfl) ok_H_isWithin k_563 k_564 nd_6 (by decide) rfl (Nat.le_of_ble_eq_true rfl) dX11_search_25 ?_
      obtain ⟨x5, ex5, hf⟩ := bnd_e hf
      refine X_tope ex5 ?_
      by_cases c6 : x5 = (0 : Int32)
      · replace hf := (if_pos c6).symm.trans hf
        refine X_if_eq_t (pc := 28) 44 dX11_search_28 (by decide) c6 ?_
        refine X_iconst (pc := 44) (-1 : Int32) dX11_search_44 (by decide) ?_
        cases hf
        exact X_ireturn (pc := 45) rfl dX11_search_45
      · replace hf := (if_neg c6).symm.trans hf
        refine X_if_eq_f (pc := 28) 44 dX11_search_28 (by decide) c6 ?_
        refine X_aload_n (pc := 31) (i := 0) 0 dX11_search_31 rfl rfl ?_
        refine X_getr (pc := 32) (a := 0) (ci := 10) (j := 12) (c := 17) (sh_0 hT) (by decide) k_506 (rf_0_9 hT) (fun _ h => h) dX11_search_32 ?_
        refine X_iload_n (pc := 35) (i := 1) 1 dX11_search_35 rfl rfl ?_
        refine X_iload_n (pc := 36) (i := 2) 2 dX11_search_36 rfl rfl ?_
        refine X_iload_n (pc := 37) (i := 3) 3 dX11_search_37 rfl rfl ?_
        obtain ⟨q7, c8, hf⟩ := bd_some hf
        refine X_invV_i (pc := 38) (c_Tr_find hT c8) ok_Tr_find (ci := 9) (sh_17 hT) k_1006 k_1007 k_1008 nd_16 (by decide) rfl (Nat.le_of_ble_eq_true rfl) dX11_search_38 ?_
        refine X_goto (pc := 41) 45 dX11_search_41 (by decide) ?_
        cases hf
        exact X_ireturn (pc := 45) rfl dX11_search_45
theorem u_H_search {S : List xSh} {a0 : Int32} {a1 : Int32} {a2 : Int32} {I : Nat → Nat → Int32} {L : Nat → Nat → Int64} {q : (Int32 × (Nat → Nat → Int32) × (Nat → Nat → Int64))} (hf : f_H_search a0 a1 a2 I L = some q) : FR S [18, 19, 20, 21, 2704] [2707, 2708, 2709, 2710, 2711, 2712] I q.2.1 L q.2.2 := by
  replace hf := (f_H_search.eq_1 _ _ _ _ _).symm.trans hf
  obtain ⟨x1, ex1, hf⟩ := bnd_e hf
  by_cases c2 : x1 = (0 : Int32)
  · replace hf := (if_pos c2).symm.trans hf
    cases hf
    exact FR.rf
  · replace hf := (if_neg c2).symm.trans hf
    obtain ⟨x3, ex3, hf⟩ := bnd_e hf
    by_cases c4 : x3 = (0 : Int32)
    · replace hf := (if_pos c4).symm.trans hf
      cases hf
      exact FR.rf
    · replace hf := (if_neg c4).symm.trans hf
      obtain ⟨x5, ex5, hf⟩ := bnd_e hf
      by_cases c6 : x5 = (0 : Int32)
      · replace hf := (if_pos c6).symm.trans hf
        cases hf
        exact FR.rf
      · replace hf := (if_neg c6).symm.trans hf
        obtain ⟨q7, c8, hf⟩ := bd_some hf
        cases hf
        exact (FR.tr FR.rf (u_Tr_find (q := q7) c8) (by decide) (by decide))
theorem dX11_train_0 : decode cX11_train 0 = .ok (.iload_n 2, 1) := by decide +kernel
theorem dX11_train_1 : decode cX11_train 1 = .ok (.iconst 0, 1) := by decide +kernel
theorem dX11_train_2 : decode cX11_train 2 = .ok (.iconst 1, 1) := by decide +kernel
theorem dX11_train_3 : decode cX11_train 3 = .ok (.invokestatic 113, 3) := by decide +kernel
theorem dX11_train_6 : decode cX11_train 6 = .ok (.ifCond .eq 20, 3) := by decide +kernel
theorem dX11_train_9 : decode cX11_train 9 = .ok (.iload_n 1, 1) := by decide +kernel
theorem dX11_train_10 : decode cX11_train 10 = .ok (.iconst 0, 1) := by decide +kernel
theorem dX11_train_11 : decode cX11_train 11 = .ok (.aload_n 0, 1) := by decide +kernel
theorem dX11_train_12 : decode cX11_train 12 = .ok (.getfield 66, 3) := by decide +kernel
theorem dX11_train_15 : decode cX11_train 15 = .ok (.getfield 302, 3) := by decide +kernel
theorem dX11_train_18 : decode cX11_train 18 = .ok (.iconst 1, 1) := by decide +kernel
theorem dX11_train_19 : decode cX11_train 19 = .ok (.isub, 1) := by decide +kernel
theorem dX11_train_20 : decode cX11_train 20 = .ok (.invokestatic 113, 3) := by decide +kernel
theorem dX11_train_23 : decode cX11_train 23 = .ok (.ifCond .ne 5, 3) := by decide +kernel
theorem dX11_train_26 : decode cX11_train 26 = .ok (.iconst 0, 1) := by decide +kernel
theorem dX11_train_27 : decode cX11_train 27 = .ok (.ireturn, 1) := by decide +kernel
theorem dX11_train_28 : decode cX11_train 28 = .ok (.iload_n 2, 1) := by decide +kernel
theorem dX11_train_29 : decode cX11_train 29 = .ok (.ifCond .ne 15, 3) := by decide +kernel
theorem dX11_train_32 : decode cX11_train 32 = .ok (.aload_n 0, 1) := by decide +kernel
theorem dX11_train_33 : decode cX11_train 33 = .ok (.getfield 66, 3) := by decide +kernel
theorem dX11_train_36 : decode cX11_train 36 = .ok (.getfield 305, 3) := by decide +kernel
theorem dX11_train_39 : decode cX11_train 39 = .ok (.iload_n 1, 1) := by decide +kernel
theorem dX11_train_40 : decode cX11_train 40 = .ok (.iaload, 1) := by decide +kernel
theorem dX11_train_41 : decode cX11_train 41 = .ok (.goto 12, 3) := by decide +kernel
theorem dX11_train_44 : decode cX11_train 44 = .ok (.aload_n 0, 1) := by decide +kernel
theorem dX11_train_45 : decode cX11_train 45 = .ok (.getfield 66, 3) := by decide +kernel
theorem dX11_train_48 : decode cX11_train 48 = .ok (.getfield 308, 3) := by decide +kernel
theorem dX11_train_51 : decode cX11_train 51 = .ok (.iload_n 1, 1) := by decide +kernel
theorem dX11_train_52 : decode cX11_train 52 = .ok (.iaload, 1) := by decide +kernel
theorem dX11_train_53 : decode cX11_train 53 = .ok (.ireturn, 1) := by decide +kernel
def f_H_train (a0 : Int32) (a1 : Int32) (I : Nat → Nat → Int32) (L : Nat → Nat → Int64) : Option Int32 := (bnd (f_H_isWithin a1 (0 : Int32) (1 : Int32)) fun x1 => (if x1 = (0 : Int32) then (some (0 : Int32)) else (bnd (f_H_isWithin a0 (0 : Int32) ((I 17 4) - (1 : Int32))) fun x3 => (if x3 = (0 : Int32) then (some (0 : Int32)) else (if a1 = (0 : Int32) then (if (0 ≤ a0 ∧ a0 < (3 : Int32)) then (some (I 18 (a0.toNatClampNeg))) else none) else (if (0 ≤ a0 ∧ a0 < (3 : Int32)) then (some (I 19 (a0.toNatClampNeg))) else none))))))
set_option maxRecDepth 100000 in
set_option maxHeartbeats 4000000 in
theorem c_H_train {G : xG} {S : List xSh} {Rf : Nat → Nat → Option Nat} (hT : xTH S Rf) {a0 : Int32} {a1 : Int32} {I : Nat → Nat → Int32} {L : Nat → Nat → Int64} {q : Int32} (hf : f_H_train a0 a1 I L = some q) : CT G 2 m_H_train [.ref (xP G 0), .int a0, .int a1] (S, I, L, Rf) (some (.int q), (S, I, L, Rf)) := by
  refine CT.of (by decide +kernel) (Nat.le_of_ble_eq_true rfl) ?_
  show X G 2 m_H_train 0 [(0, .ref (xP G 0)), (1, .int a0), (2, .int a1)] [] (S, I, L, Rf) (some (.int q), (S, I, L, Rf))
  replace hf := (f_H_train.eq_1 _ _ _ _).symm.trans hf
  refine X_iload_n (pc := 0) (i := 2) 2 dX11_train_0 rfl rfl ?_
  refine X_iconst (pc := 1) (0 : Int32) dX11_train_1 (by decide) ?_
  refine X_iconst (pc := 2) (1 : Int32) dX11_train_2 (by decide) ?_
  refine X_invS_i (pc := 3) (c_H_isWithin hT rfl) ok_H_isWithin k_563 k_564 nd_6 (by decide) rfl (Nat.le_of_ble_eq_true rfl) dX11_train_3 ?_
  obtain ⟨x1, ex1, hf⟩ := bnd_e hf
  refine X_tope ex1 ?_
  by_cases c2 : x1 = (0 : Int32)
  · replace hf := (if_pos c2).symm.trans hf
    refine X_if_eq_t (pc := 6) 26 dX11_train_6 (by decide) c2 ?_
    refine X_iconst (pc := 26) (0 : Int32) dX11_train_26 (by decide) ?_
    cases hf
    exact X_ireturn (pc := 27) rfl dX11_train_27
  · replace hf := (if_neg c2).symm.trans hf
    refine X_if_eq_f (pc := 6) 26 dX11_train_6 (by decide) c2 ?_
    refine X_iload_n (pc := 9) (i := 1) 1 dX11_train_9 rfl rfl ?_
    refine X_iconst (pc := 10) (0 : Int32) dX11_train_10 (by decide) ?_
    refine X_aload_n (pc := 11) (i := 0) 0 dX11_train_11 rfl rfl ?_
    refine X_getr (pc := 12) (a := 0) (ci := 10) (j := 12) (c := 17) (sh_0 hT) (by decide) k_506 (rf_0_9 hT) (fun _ h => h) dX11_train_12 ?_
    refine X_get (pc := 15) (a := 17) (ci := 9) (j := 4) (.int (I 17 4)) (sh_17 hT) (by decide) k_256 rfl dX11_train_15 ?_
    refine X_iconst (pc := 18) (1 : Int32) dX11_train_18 (by decide) ?_
    refine X_isub (pc := 19) dX11_train_19 ?_
    refine X_invS_i (pc := 20) (c_H_isWithin hT rfl) ok_H_isWithin k_563 k_564 nd_6 (by decide) rfl (Nat.le_of_ble_eq_true rfl) dX11_train_20 ?_
    obtain ⟨x3, ex3, hf⟩ := bnd_e hf
    refine X_tope ex3 ?_
    by_cases c4 : x3 = (0 : Int32)
    · replace hf := (if_pos c4).symm.trans hf
      refine X_if_ne_f (pc := 23) 28 dX11_train_23 (by decide) c4 ?_
      refine X_iconst (pc := 26) (0 : Int32) dX11_train_26 (by decide) ?_
      cases hf
      exact X_ireturn (pc := 27) rfl dX11_train_27
    · replace hf := (if_neg c4).symm.trans hf
      refine X_if_ne_t (pc := 23) 28 dX11_train_23 (by decide) c4 ?_
      refine X_iload_n (pc := 28) (i := 2) 2 dX11_train_28 rfl rfl ?_
      by_cases c5 : a1 = (0 : Int32)
      · replace hf := (if_pos c5).symm.trans hf
        refine X_if_ne_f (pc := 29) 44 dX11_train_29 (by decide) c5 ?_
        refine X_aload_n (pc := 32) (i := 0) 0 dX11_train_32 rfl rfl ?_
        refine X_getr (pc := 33) (a := 0) (ci := 10) (j := 12) (c := 17) (sh_0 hT) (by decide) k_506 (rf_0_9 hT) (fun _ h => h) dX11_train_33 ?_
        refine X_getr (pc := 36) (a := 17) (ci := 9) (j := 5) (c := 18) (sh_17 hT) (by decide) k_258 (rf_17_5 hT) (fun _ h => h) dX11_train_36 ?_
        refine X_iload_n (pc := 39) (i := 1) 1 dX11_train_39 rfl rfl ?_
        obtain ⟨c6, hf⟩ := gd_some hf
        refine X_ialdj (pc := 40) (j := a0.toNatClampNeg) (I 18 (a0.toNatClampNeg)) (sh_18 hT) (vp_in_lit (N := 3) c6 (by decide)) rfl rfl dX11_train_40 ?_
        refine X_goto (pc := 41) 53 dX11_train_41 (by decide) ?_
        cases hf
        exact X_ireturn (pc := 53) rfl dX11_train_53
      · replace hf := (if_neg c5).symm.trans hf
        refine X_if_ne_t (pc := 29) 44 dX11_train_29 (by decide) c5 ?_
        refine X_aload_n (pc := 44) (i := 0) 0 dX11_train_44 rfl rfl ?_
        refine X_getr (pc := 45) (a := 0) (ci := 10) (j := 12) (c := 17) (sh_0 hT) (by decide) k_506 (rf_0_9 hT) (fun _ h => h) dX11_train_45 ?_
        refine X_getr (pc := 48) (a := 17) (ci := 9) (j := 6) (c := 19) (sh_17 hT) (by decide) k_260 (rf_17_6 hT) (fun _ h => h) dX11_train_48 ?_
        refine X_iload_n (pc := 51) (i := 1) 1 dX11_train_51 rfl rfl ?_
        obtain ⟨c7, hf⟩ := gd_some hf
        refine X_ialdj (pc := 52) (j := a0.toNatClampNeg) (I 19 (a0.toNatClampNeg)) (sh_19 hT) (vp_in_lit (N := 3) c7 (by decide)) rfl rfl dX11_train_52 ?_
        cases hf
        exact X_ireturn (pc := 53) rfl dX11_train_53
theorem dX11_error_0 : decode cX11_error 0 = .ok (.iload_n 1, 1) := by decide +kernel
theorem dX11_error_1 : decode cX11_error 1 = .ok (.lookupswitch 43 #[(0, 27), (1, 35)], 27) := by decide +kernel
theorem dX11_error_28 : decode cX11_error 28 = .ok (.aload_n 0, 1) := by decide +kernel
theorem dX11_error_29 : decode cX11_error 29 = .ok (.getfield 66, 3) := by decide +kernel
theorem dX11_error_32 : decode cX11_error 32 = .ok (.getfield 311, 3) := by decide +kernel
theorem dX11_error_35 : decode cX11_error 35 = .ok (.lreturn, 1) := by decide +kernel
theorem dX11_error_36 : decode cX11_error 36 = .ok (.aload_n 0, 1) := by decide +kernel
theorem dX11_error_37 : decode cX11_error 37 = .ok (.getfield 66, 3) := by decide +kernel
theorem dX11_error_40 : decode cX11_error 40 = .ok (.getfield 315, 3) := by decide +kernel
theorem dX11_error_43 : decode cX11_error 43 = .ok (.lreturn, 1) := by decide +kernel
theorem dX11_error_44 : decode cX11_error 44 = .ok (.ldc2_w 223, 3) := by decide +kernel
theorem dX11_error_47 : decode cX11_error 47 = .ok (.lreturn, 1) := by decide +kernel
def f_H_error (a0 : Int32) (I : Nat → Nat → Int32) (L : Nat → Nat → Int64) : Int64 := (if a0 = (0 : Int32) then (L 17 7) else (if a0 = (1 : Int32) then (L 17 8) else (-9999999 : Int64)))
set_option maxRecDepth 100000 in
set_option maxHeartbeats 4000000 in
theorem c_H_error {G : xG} {S : List xSh} {Rf : Nat → Nat → Option Nat} (hT : xTH S Rf) {a0 : Int32} {I : Nat → Nat → Int32} {L : Nat → Nat → Int64} {q : Int64} (hf : f_H_error a0 I L = q) : CT G 1 m_H_error [.ref (xP G 0), .int a0] (S, I, L, Rf) (some (.long q), (S, I, L, Rf)) := by
  refine CT.of (by decide +kernel) (Nat.le_of_ble_eq_true rfl) ?_
  show X G 1 m_H_error 0 [(0, .ref (xP G 0)), (1, .int a0)] [] (S, I, L, Rf) (some (.long q), (S, I, L, Rf))
  replace hf := (f_H_error.eq_1 _ _ _).symm.trans hf
  refine X_iload_n (pc := 0) (i := 1) 1 dX11_error_0 rfl rfl ?_
  by_cases c1 : a0 = (0 : Int32)
  · replace hf := (if_pos c1).symm.trans hf
    refine X_lookup (pc := 1) (off := 27) 28 dX11_error_1 (by decide) (by rw [c1]; rfl) (by decide) ?_
    refine X_aload_n (pc := 28) (i := 0) 0 dX11_error_28 rfl rfl ?_
    refine X_getr (pc := 29) (a := 0) (ci := 10) (j := 12) (c := 17) (sh_0 hT) (by decide) k_506 (rf_0_9 hT) (fun _ h => h) dX11_error_29 ?_
    refine X_get (pc := 32) (a := 17) (ci := 9) (j := 7) (.long (L 17 7)) (sh_17 hT) (by decide) k_262 rfl dX11_error_32 ?_
    subst hf
    exact X_lreturn (pc := 35) rfl dX11_error_35
  · replace hf := (if_neg c1).symm.trans hf
    by_cases c2 : a0 = (1 : Int32)
    · replace hf := (if_pos c2).symm.trans hf
      refine X_lookup (pc := 1) (off := 35) 36 dX11_error_1 (by decide) (by rw [c2]; rfl) (by decide) ?_
      refine X_aload_n (pc := 36) (i := 0) 0 dX11_error_36 rfl rfl ?_
      refine X_getr (pc := 37) (a := 0) (ci := 10) (j := 12) (c := 17) (sh_0 hT) (by decide) k_506 (rf_0_9 hT) (fun _ h => h) dX11_error_37 ?_
      refine X_get (pc := 40) (a := 17) (ci := 9) (j := 8) (.long (L 17 8)) (sh_17 hT) (by decide) k_264 rfl dX11_error_40 ?_
      subst hf
      exact X_lreturn (pc := 43) rfl dX11_error_43
    · replace hf := (if_neg c2).symm.trans hf
      refine X_lookup (pc := 1) (off := 43) 44 dX11_error_1 (by decide) ((lv_osw c1 rfl).trans ((lv_osw c2 rfl).trans rfl)) (by decide) ?_
      refine X_ldc2 (pc := 44) (-9999999 : Int64) k_954 dX11_error_44 ?_
      subst hf
      exact X_lreturn (pc := 47) rfl dX11_error_47
theorem dX11_chain_0 : decode cX11_chain 0 = .ok (.aload_n 0, 1) := by decide +kernel
theorem dX11_chain_1 : decode cX11_chain 1 = .ok (.getfield 73, 3) := by decide +kernel
theorem dX11_chain_4 : decode cX11_chain 4 = .ok (.getfield 318, 3) := by decide +kernel
theorem dX11_chain_7 : decode cX11_chain 7 = .ok (.istore_n 1, 1) := by decide +kernel
theorem dX11_chain_8 : decode cX11_chain 8 = .ok (.aload_n 0, 1) := by decide +kernel
theorem dX11_chain_9 : decode cX11_chain 9 = .ok (.getfield 73, 3) := by decide +kernel
theorem dX11_chain_12 : decode cX11_chain 12 = .ok (.iconst 0, 1) := by decide +kernel
theorem dX11_chain_13 : decode cX11_chain 13 = .ok (.putfield 318, 3) := by decide +kernel
theorem dX11_chain_16 : decode cX11_chain 16 = .ok (.iload_n 1, 1) := by decide +kernel
theorem dX11_chain_17 : decode cX11_chain 17 = .ok (.ireturn, 1) := by decide +kernel
def f_H_chain (I : Nat → Nat → Int32) (L : Nat → Nat → Int64) : Option (Int32 × (Nat → Nat → Int32) × (Nat → Nat → Int64)) := (bnd (I 22 0) fun x1 => (some (x1, (uI I 22 0 (0 : Int32)), L)))
set_option maxRecDepth 100000 in
set_option maxHeartbeats 4000000 in
theorem c_H_chain {G : xG} {S : List xSh} {Rf : Nat → Nat → Option Nat} (hT : xTH S Rf) {I : Nat → Nat → Int32} {L : Nat → Nat → Int64} {q : (Int32 × (Nat → Nat → Int32) × (Nat → Nat → Int64))} (hf : f_H_chain I L = some q) : CT G 1 m_H_chain [.ref (xP G 0)] (S, I, L, Rf) (some (.int q.1), (S, q.2.1, q.2.2, Rf)) := by
  refine CT.of (by decide +kernel) (Nat.le_of_ble_eq_true rfl) ?_
  show X G 1 m_H_chain 0 [(0, .ref (xP G 0))] [] (S, I, L, Rf) (some (.int q.1), (S, q.2.1, q.2.2, Rf))
  replace hf := (f_H_chain.eq_1 _ _).symm.trans hf
  refine X_aload_n (pc := 0) (i := 0) 0 dX11_chain_0 rfl rfl ?_
  refine X_getr (pc := 1) (a := 0) (ci := 10) (j := 13) (c := 22) (sh_0 hT) (by decide) k_507 (rf_0_10 hT) (fun _ h => h) dX11_chain_1 ?_
  refine X_get (pc := 4) (a := 22) (ci := 2) (j := 0) (.int (I 22 0)) (sh_22 hT) (by decide) k_309 rfl dX11_chain_4 ?_
  obtain ⟨x1, ex1, hf⟩ := bnd_e hf
  refine X_tope ex1 ?_
  refine X_istore_n (pc := 7) (i := 1) [(1, .int x1), (0, .ref (xP G 0))] dX11_chain_7 rfl (by decide) rfl ?_
  refine X_aload_n (pc := 8) (i := 0) 1 dX11_chain_8 rfl rfl ?_
  refine X_getr (pc := 9) (a := 0) (ci := 10) (j := 13) (c := 22) (sh_0 hT) (by decide) k_507 (rf_0_10 hT) (fun _ h => h) dX11_chain_9 ?_
  refine X_iconst (pc := 12) (0 : Int32) dX11_chain_12 (by decide) ?_
  refine X_puti (pc := 13) (a := 22) (ci := 2) (j := 0) 0 rfl false (sh_22 hT) (by decide) k_309 rfl (fun h => by cases h) rfl dX11_chain_13 ?_
  refine X_iload_n (pc := 16) (i := 1) 0 dX11_chain_16 rfl rfl ?_
  cases hf
  exact X_ireturn (pc := 17) rfl dX11_chain_17
theorem u_H_chain {S : List xSh} {I : Nat → Nat → Int32} {L : Nat → Nat → Int64} {q : (Int32 × (Nat → Nat → Int32) × (Nat → Nat → Int64))} (hf : f_H_chain I L = some q) : FR S [3200] [] I q.2.1 L q.2.2 := by
  replace hf := (f_H_chain.eq_1 _ _).symm.trans hf
  obtain ⟨x1, ex1, hf⟩ := bnd_e hf
  cases hf
  exact (FR.fi FR.rf (by decide))
theorem dX2_add_0 : decode cX2_add 0 = .ok (.aload_n 0, 1) := by decide +kernel
theorem dX2_add_1 : decode cX2_add 1 = .ok (.getfield 28, 3) := by decide +kernel
theorem dX2_add_4 : decode cX2_add 4 = .ok (.bipush 8, 2) := by decide +kernel
theorem dX2_add_6 : decode cX2_add 6 = .ok (.if_icmp .lt 6, 3) := by decide +kernel
theorem dX2_add_9 : decode cX2_add 9 = .ok (.bipush (-3), 2) := by decide +kernel
theorem dX2_add_11 : decode cX2_add 11 = .ok (.ireturn, 1) := by decide +kernel
theorem dX2_add_12 : decode cX2_add 12 = .ok (.aload_n 0, 1) := by decide +kernel
theorem dX2_add_13 : decode cX2_add 13 = .ok (.getfield 11, 3) := by decide +kernel
theorem dX2_add_16 : decode cX2_add 16 = .ok (.aload_n 0, 1) := by decide +kernel
theorem dX2_add_17 : decode cX2_add 17 = .ok (.getfield 28, 3) := by decide +kernel
theorem dX2_add_20 : decode cX2_add 20 = .ok (.iload_n 1, 1) := by decide +kernel
theorem dX2_add_21 : decode cX2_add 21 = .ok (.iastore, 1) := by decide +kernel
theorem dX2_add_22 : decode cX2_add 22 = .ok (.aload_n 0, 1) := by decide +kernel
theorem dX2_add_23 : decode cX2_add 23 = .ok (.getfield 15, 3) := by decide +kernel
theorem dX2_add_26 : decode cX2_add 26 = .ok (.aload_n 0, 1) := by decide +kernel
theorem dX2_add_27 : decode cX2_add 27 = .ok (.getfield 28, 3) := by decide +kernel
theorem dX2_add_30 : decode cX2_add 30 = .ok (.iload_n 2, 1) := by decide +kernel
theorem dX2_add_31 : decode cX2_add 31 = .ok (.iastore, 1) := by decide +kernel
theorem dX2_add_32 : decode cX2_add 32 = .ok (.aload_n 0, 1) := by decide +kernel
theorem dX2_add_33 : decode cX2_add 33 = .ok (.getfield 18, 3) := by decide +kernel
theorem dX2_add_36 : decode cX2_add 36 = .ok (.aload_n 0, 1) := by decide +kernel
theorem dX2_add_37 : decode cX2_add 37 = .ok (.getfield 28, 3) := by decide +kernel
theorem dX2_add_40 : decode cX2_add 40 = .ok (.iload_n 3, 1) := by decide +kernel
theorem dX2_add_41 : decode cX2_add 41 = .ok (.iastore, 1) := by decide +kernel
theorem dX2_add_42 : decode cX2_add 42 = .ok (.aload_n 0, 1) := by decide +kernel
theorem dX2_add_43 : decode cX2_add 43 = .ok (.getfield 21, 3) := by decide +kernel
theorem dX2_add_46 : decode cX2_add 46 = .ok (.aload_n 0, 1) := by decide +kernel
theorem dX2_add_47 : decode cX2_add 47 = .ok (.getfield 28, 3) := by decide +kernel
theorem dX2_add_50 : decode cX2_add 50 = .ok (.iload 4, 2) := by decide +kernel
theorem dX2_add_52 : decode cX2_add 52 = .ok (.iastore, 1) := by decide +kernel
theorem dX2_add_53 : decode cX2_add 53 = .ok (.aload_n 0, 1) := by decide +kernel
theorem dX2_add_54 : decode cX2_add 54 = .ok (.dup, 1) := by decide +kernel
theorem dX2_add_55 : decode cX2_add 55 = .ok (.getfield 28, 3) := by decide +kernel
theorem dX2_add_58 : decode cX2_add 58 = .ok (.dup_x1, 1) := by decide +kernel
theorem dX2_add_59 : decode cX2_add 59 = .ok (.iconst 1, 1) := by decide +kernel
theorem dX2_add_60 : decode cX2_add 60 = .ok (.iadd, 1) := by decide +kernel
theorem dX2_add_61 : decode cX2_add 61 = .ok (.putfield 28, 3) := by decide +kernel
theorem dX2_add_64 : decode cX2_add 64 = .ok (.ireturn, 1) := by decide +kernel
def f_Ch_add (a0 : Int32) (a1 : Int32) (a2 : Int32) (a3 : Int32) (I : Nat → Nat → Int32) (L : Nat → Nat → Int64) : Option (Int32 × (Nat → Nat → Int32) × (Nat → Nat → Int64)) := (if (I 22 0) < (8 : Int32) then (if (0 ≤ (I 22 0) ∧ (I 22 0) < (8 : Int32)) then (if (0 ≤ (I 22 0) ∧ (I 22 0) < (8 : Int32)) then (if (0 ≤ (I 22 0) ∧ (I 22 0) < (8 : Int32)) then (if (0 ≤ (I 22 0) ∧ (I 22 0) < (8 : Int32)) then (bnd ((I 22 0) + (1 : Int32)) fun x6 => (some ((I 22 0), (uI (uI (uI (uI (uI I 23 ((I 22 0).toNatClampNeg) a0) 24 ((I 22 0).toNatClampNeg) a1) 25 ((I 22 0).toNatClampNeg) a2) 26 ((I 22 0).toNatClampNeg) a3) 22 0 x6), L))) else none) else none) else none) else none) else (some ((-3 : Int32), I, L)))
set_option maxRecDepth 100000 in
set_option maxHeartbeats 4000000 in
theorem c_Ch_add {G : xG} {S : List xSh} {Rf : Nat → Nat → Option Nat} (hT : xTH S Rf) {a0 : Int32} {a1 : Int32} {a2 : Int32} {a3 : Int32} {I : Nat → Nat → Int32} {L : Nat → Nat → Int64} {q : (Int32 × (Nat → Nat → Int32) × (Nat → Nat → Int64))} (hf : f_Ch_add a0 a1 a2 a3 I L = some q) : CT G 1 m_Ch_add [.ref (xP G 22), .int a0, .int a1, .int a2, .int a3] (S, I, L, Rf) (some (.int q.1), (S, q.2.1, q.2.2, Rf)) := by
  refine CT.of (by decide +kernel) (Nat.le_of_ble_eq_true rfl) ?_
  show X G 1 m_Ch_add 0 [(0, .ref (xP G 22)), (1, .int a0), (2, .int a1), (3, .int a2), (4, .int a3)] [] (S, I, L, Rf) (some (.int q.1), (S, q.2.1, q.2.2, Rf))
  replace hf := (f_Ch_add.eq_1 _ _ _ _ _ _).symm.trans hf
  refine X_aload_n (pc := 0) (i := 0) 0 dX2_add_0 rfl rfl ?_
  refine X_get (pc := 1) (a := 22) (ci := 2) (j := 0) (.int (I 22 0)) (sh_22 hT) (by decide) k_308 rfl dX2_add_1 ?_
  refine X_bipush (pc := 4) (8 : Int32) dX2_add_4 (by decide) ?_
  by_cases c1 : (I 22 0) < (8 : Int32)
  · replace hf := (if_pos c1).symm.trans hf
    refine X_icmp_lt_t (pc := 6) 12 dX2_add_6 (by decide) c1 ?_
    refine X_aload_n (pc := 12) (i := 0) 0 dX2_add_12 rfl rfl ?_
    refine X_getr (pc := 13) (a := 22) (ci := 2) (j := 1) (c := 23) (sh_22 hT) (by decide) k_310 (rf_22_1 hT) (fun _ h => h) dX2_add_13 ?_
    refine X_aload_n (pc := 16) (i := 0) 0 dX2_add_16 rfl rfl ?_
    refine X_get (pc := 17) (a := 22) (ci := 2) (j := 0) (.int (I 22 0)) (sh_22 hT) (by decide) k_308 rfl dX2_add_17 ?_
    refine X_iload_n (pc := 20) (i := 1) 1 dX2_add_20 rfl rfl ?_
    obtain ⟨c2, hf⟩ := gd_some hf
    refine X_iastj (pc := 21) (j := ((I 22 0).toNatClampNeg)) (sh_23 hT) (vp_in_lit (N := 8) c2 (by decide)) rfl dX2_add_21 ?_
    refine X_aload_n (pc := 22) (i := 0) 0 dX2_add_22 rfl rfl ?_
    refine X_getr (pc := 23) (a := 22) (ci := 2) (j := 2) (c := 24) (sh_22 hT) (by decide) k_311 (rf_22_2 hT) (fun _ h => h) dX2_add_23 ?_
    refine X_aload_n (pc := 26) (i := 0) 0 dX2_add_26 rfl rfl ?_
    refine X_get (pc := 27) (a := 22) (ci := 2) (j := 0) (.int (I 22 0)) (sh_22 hT) (by decide) k_308 rfl dX2_add_27 ?_
    refine X_iload_n (pc := 30) (i := 2) 2 dX2_add_30 rfl rfl ?_
    obtain ⟨c3, hf⟩ := gd_some hf
    refine X_iastj (pc := 31) (j := ((I 22 0).toNatClampNeg)) (sh_24 hT) (vp_in_lit (N := 8) c3 (by decide)) rfl dX2_add_31 ?_
    refine X_aload_n (pc := 32) (i := 0) 0 dX2_add_32 rfl rfl ?_
    refine X_getr (pc := 33) (a := 22) (ci := 2) (j := 3) (c := 25) (sh_22 hT) (by decide) k_312 (rf_22_3 hT) (fun _ h => h) dX2_add_33 ?_
    refine X_aload_n (pc := 36) (i := 0) 0 dX2_add_36 rfl rfl ?_
    refine X_get (pc := 37) (a := 22) (ci := 2) (j := 0) (.int (I 22 0)) (sh_22 hT) (by decide) k_308 rfl dX2_add_37 ?_
    refine X_iload_n (pc := 40) (i := 3) 3 dX2_add_40 rfl rfl ?_
    obtain ⟨c4, hf⟩ := gd_some hf
    refine X_iastj (pc := 41) (j := ((I 22 0).toNatClampNeg)) (sh_25 hT) (vp_in_lit (N := 8) c4 (by decide)) rfl dX2_add_41 ?_
    refine X_aload_n (pc := 42) (i := 0) 0 dX2_add_42 rfl rfl ?_
    refine X_getr (pc := 43) (a := 22) (ci := 2) (j := 4) (c := 26) (sh_22 hT) (by decide) k_313 (rf_22_4 hT) (fun _ h => h) dX2_add_43 ?_
    refine X_aload_n (pc := 46) (i := 0) 0 dX2_add_46 rfl rfl ?_
    refine X_get (pc := 47) (a := 22) (ci := 2) (j := 0) (.int (I 22 0)) (sh_22 hT) (by decide) k_308 rfl dX2_add_47 ?_
    refine X_iload (pc := 50) 4 dX2_add_50 rfl ?_
    obtain ⟨c5, hf⟩ := gd_some hf
    refine X_iastj (pc := 52) (j := ((I 22 0).toNatClampNeg)) (sh_26 hT) (vp_in_lit (N := 8) c5 (by decide)) rfl dX2_add_52 ?_
    refine X_aload_n (pc := 53) (i := 0) 0 dX2_add_53 rfl rfl ?_
    refine X_dup (pc := 54) dX2_add_54 rfl ?_
    refine X_get (pc := 55) (a := 22) (ci := 2) (j := 0) (.int (I 22 0)) (sh_22 hT) (by decide) k_308 rfl dX2_add_55 ?_
    refine X_dup_x1 (pc := 58) dX2_add_58 rfl rfl ?_
    refine X_iconst (pc := 59) (1 : Int32) dX2_add_59 (by decide) ?_
    refine X_iadd (pc := 60) dX2_add_60 ?_
    obtain ⟨x6, ex6, hf⟩ := bnd_e hf
    refine X_tope ex6 ?_
    refine X_puti (pc := 61) (a := 22) (ci := 2) (j := 0) 0 rfl false (sh_22 hT) (by decide) k_308 rfl (fun h => by cases h) rfl dX2_add_61 ?_
    cases hf
    exact X_ireturn (pc := 64) rfl dX2_add_64
  · replace hf := (if_neg c1).symm.trans hf
    refine X_icmp_lt_f (pc := 6) 12 dX2_add_6 (by decide) c1 ?_
    refine X_bipush (pc := 9) (-3 : Int32) dX2_add_9 (by decide) ?_
    cases hf
    exact X_ireturn (pc := 11) rfl dX2_add_11
theorem u_Ch_add {S : List xSh} {a0 : Int32} {a1 : Int32} {a2 : Int32} {a3 : Int32} {I : Nat → Nat → Int32} {L : Nat → Nat → Int64} {q : (Int32 × (Nat → Nat → Int32) × (Nat → Nat → Int64))} (hf : f_Ch_add a0 a1 a2 a3 I L = some q) : FR S [23, 24, 25, 26, 3200] [] I q.2.1 L q.2.2 := by
  replace hf := (f_Ch_add.eq_1 _ _ _ _ _ _).symm.trans hf
  by_cases c1 : (I 22 0) < (8 : Int32)
  · replace hf := (if_pos c1).symm.trans hf
    obtain ⟨c2, hf⟩ := gd_some hf
    obtain ⟨c3, hf⟩ := gd_some hf
    obtain ⟨c4, hf⟩ := gd_some hf
    obtain ⟨c5, hf⟩ := gd_some hf
    obtain ⟨x6, ex6, hf⟩ := bnd_e hf
    cases hf
    exact (FR.fi (FR.ai (FR.ai (FR.ai (FR.ai FR.rf (by decide)) (by decide)) (by decide)) (by decide)) (by decide))
  · replace hf := (if_neg c1).symm.trans hf
    cases hf
    exact FR.rf
theorem dX11_size_0 : decode cX11_size 0 = .ok (.iload_n 1, 1) := by decide +kernel
theorem dX11_size_1 : decode cX11_size 1 = .ok (.iconst 1, 1) := by decide +kernel
theorem dX11_size_2 : decode cX11_size 2 = .ok (.if_icmp .eq 8, 3) := by decide +kernel
theorem dX11_size_5 : decode cX11_size 5 = .ok (.iload_n 1, 1) := by decide +kernel
theorem dX11_size_6 : decode cX11_size 6 = .ok (.iconst (-1), 1) := by decide +kernel
theorem dX11_size_7 : decode cX11_size 7 = .ok (.if_icmp .ne 13, 3) := by decide +kernel
theorem dX11_size_10 : decode cX11_size 10 = .ok (.iload_n 2, 1) := by decide +kernel
theorem dX11_size_11 : decode cX11_size 11 = .ok (.iconst 0, 1) := by decide +kernel
theorem dX11_size_12 : decode cX11_size 12 = .ok (.ldc 133, 2) := by decide +kernel
theorem dX11_size_14 : decode cX11_size 14 = .ok (.invokestatic 113, 3) := by decide +kernel
theorem dX11_size_17 : decode cX11_size 17 = .ok (.ifCond .ne 5, 3) := by decide +kernel
theorem dX11_size_20 : decode cX11_size 20 = .ok (.iconst (-1), 1) := by decide +kernel
theorem dX11_size_21 : decode cX11_size 21 = .ok (.ireturn, 1) := by decide +kernel
theorem dX11_size_22 : decode cX11_size 22 = .ok (.iload_n 3, 1) := by decide +kernel
theorem dX11_size_23 : decode cX11_size 23 = .ok (.sipush (-10000), 3) := by decide +kernel
theorem dX11_size_26 : decode cX11_size 26 = .ok (.sipush 10000, 3) := by decide +kernel
theorem dX11_size_29 : decode cX11_size 29 = .ok (.invokestatic 113, 3) := by decide +kernel
theorem dX11_size_32 : decode cX11_size 32 = .ok (.ifCond .eq 17, 3) := by decide +kernel
theorem dX11_size_35 : decode cX11_size 35 = .ok (.iload 4, 2) := by decide +kernel
theorem dX11_size_37 : decode cX11_size 37 = .ok (.sipush (-10000), 3) := by decide +kernel
theorem dX11_size_40 : decode cX11_size 40 = .ok (.sipush 10000, 3) := by decide +kernel
theorem dX11_size_43 : decode cX11_size 43 = .ok (.invokestatic 113, 3) := by decide +kernel
theorem dX11_size_46 : decode cX11_size 46 = .ok (.ifCond .ne 5, 3) := by decide +kernel
theorem dX11_size_49 : decode cX11_size 49 = .ok (.iconst (-1), 1) := by decide +kernel
theorem dX11_size_50 : decode cX11_size 50 = .ok (.ireturn, 1) := by decide +kernel
theorem dX11_size_51 : decode cX11_size 51 = .ok (.iload 4, 2) := by decide +kernel
theorem dX11_size_53 : decode cX11_size 53 = .ok (.iload_n 3, 1) := by decide +kernel
theorem dX11_size_54 : decode cX11_size 54 = .ok (.iload_n 3, 1) := by decide +kernel
theorem dX11_size_55 : decode cX11_size 55 = .ok (.bipush 99, 2) := by decide +kernel
theorem dX11_size_57 : decode cX11_size 57 = .ok (.iadd, 1) := by decide +kernel
theorem dX11_size_58 : decode cX11_size 58 = .ok (.invokestatic 113, 3) := by decide +kernel
theorem dX11_size_61 : decode cX11_size 61 = .ok (.ifCond .ne 5, 3) := by decide +kernel
theorem dX11_size_64 : decode cX11_size 64 = .ok (.iconst (-1), 1) := by decide +kernel
theorem dX11_size_65 : decode cX11_size 65 = .ok (.ireturn, 1) := by decide +kernel
theorem dX11_size_66 : decode cX11_size 66 = .ok (.aload_n 0, 1) := by decide +kernel
theorem dX11_size_67 : decode cX11_size 67 = .ok (.getfield 73, 3) := by decide +kernel
theorem dX11_size_70 : decode cX11_size 70 = .ok (.iload_n 1, 1) := by decide +kernel
theorem dX11_size_71 : decode cX11_size 71 = .ok (.iload_n 2, 1) := by decide +kernel
theorem dX11_size_72 : decode cX11_size 72 = .ok (.iload_n 3, 1) := by decide +kernel
theorem dX11_size_73 : decode cX11_size 73 = .ok (.iload 4, 2) := by decide +kernel
theorem dX11_size_75 : decode cX11_size 75 = .ok (.invokevirtual 321, 3) := by decide +kernel
theorem dX11_size_78 : decode cX11_size 78 = .ok (.ireturn, 1) := by decide +kernel
def f_H_size_L10 (l1 : Int32) (l2 : Int32) (l3 : Int32) (l4 : Int32) (I : (Nat → Nat → Int32)) (L : (Nat → Nat → Int64)) : Option (Int32 × (Nat → Nat → Int32) × (Nat → Nat → Int64)) := (bnd (f_H_isWithin l2 (0 : Int32) (1000000 : Int32)) fun x2 => (if x2 = (0 : Int32) then (some ((-1 : Int32), I, L)) else (bnd (f_H_isWithin l3 (-10000 : Int32) (10000 : Int32)) fun x4 => (if x4 = (0 : Int32) then (some ((-1 : Int32), I, L)) else (bnd (f_H_isWithin l4 (-10000 : Int32) (10000 : Int32)) fun x6 => (if x6 = (0 : Int32) then (some ((-1 : Int32), I, L)) else (if (f_H_isWithin l4 l3 (l3 + (99 : Int32))) = (0 : Int32) then (some ((-1 : Int32), I, L)) else ((f_Ch_add l1 l2 l3 l4 I L).bind fun q9 => (some (q9.1, q9.2.1, q9.2.2))))))))))
set_option maxRecDepth 100000 in
set_option maxHeartbeats 4000000 in
theorem x_H_size_L10 {G : xG} {S : List xSh} {Rf : Nat → Nat → Option Nat} (hT : xTH S Rf) {l1 : Int32} {l2 : Int32} {l3 : Int32} {l4 : Int32} {I : Nat → Nat → Int32} {L : Nat → Nat → Int64} {q : (Int32 × (Nat → Nat → Int32) × (Nat → Nat → Int64))} (hf : f_H_size_L10 l1 l2 l3 l4 I L = some q) : X G 2 m_H_size 10 [(0, .ref (xP G 0)), (1, .int l1), (2, .int l2), (3, .int l3), (4, .int l4)] [] (S, I, L, Rf) (some (.int q.1), (S, q.2.1, q.2.2, Rf)) := by
  replace hf := (f_H_size_L10.eq_1 _ _ _ _ _ _).symm.trans hf
  refine X_iload_n (pc := 10) (i := 2) 2 dX11_size_10 rfl rfl ?_
  refine X_iconst (pc := 11) (0 : Int32) dX11_size_11 (by decide) ?_
  refine X_ldc (pc := 12) (1000000 : Int32) k_636 dX11_size_12 ?_
  refine X_invS_i (pc := 14) (c_H_isWithin hT rfl) ok_H_isWithin k_563 k_564 nd_6 (by decide) rfl (Nat.le_of_ble_eq_true rfl) dX11_size_14 ?_
  obtain ⟨x2, ex2, hf⟩ := bnd_e hf
  refine X_tope ex2 ?_
  by_cases c3 : x2 = (0 : Int32)
  · replace hf := (if_pos c3).symm.trans hf
    refine X_if_ne_f (pc := 17) 22 dX11_size_17 (by decide) c3 ?_
    refine X_iconst (pc := 20) (-1 : Int32) dX11_size_20 (by decide) ?_
    cases hf
    exact X_ireturn (pc := 21) rfl dX11_size_21
  · replace hf := (if_neg c3).symm.trans hf
    refine X_if_ne_t (pc := 17) 22 dX11_size_17 (by decide) c3 ?_
    refine X_iload_n (pc := 22) (i := 3) 3 dX11_size_22 rfl rfl ?_
    refine X_sipush (pc := 23) (-10000 : Int32) dX11_size_23 (by decide) ?_
    refine X_sipush (pc := 26) (10000 : Int32) dX11_size_26 (by decide) ?_
    refine X_invS_i (pc := 29) (c_H_isWithin hT rfl) ok_H_isWithin k_563 k_564 nd_6 (by decide) rfl (Nat.le_of_ble_eq_true rfl) dX11_size_29 ?_
    obtain ⟨x4, ex4, hf⟩ := bnd_e hf
    refine X_tope ex4 ?_
    by_cases c5 : x4 = (0 : Int32)
    · replace hf := (if_pos c5).symm.trans hf
      refine X_if_eq_t (pc := 32) 49 dX11_size_32 (by decide) c5 ?_
      refine X_iconst (pc := 49) (-1 : Int32) dX11_size_49 (by decide) ?_
      cases hf
      exact X_ireturn (pc := 50) rfl dX11_size_50
    · replace hf := (if_neg c5).symm.trans hf
      refine X_if_eq_f (pc := 32) 49 dX11_size_32 (by decide) c5 ?_
      refine X_iload (pc := 35) 4 dX11_size_35 rfl ?_
      refine X_sipush (pc := 37) (-10000 : Int32) dX11_size_37 (by decide) ?_
      refine X_sipush (pc := 40) (10000 : Int32) dX11_size_40 (by decide) ?_
      refine X_invS_i (pc := 43) (c_H_isWithin hT rfl) ok_H_isWithin k_563 k_564 nd_6 (by decide) rfl (Nat.le_of_ble_eq_true rfl) dX11_size_43 ?_
      obtain ⟨x6, ex6, hf⟩ := bnd_e hf
      refine X_tope ex6 ?_
      by_cases c7 : x6 = (0 : Int32)
      · replace hf := (if_pos c7).symm.trans hf
        refine X_if_ne_f (pc := 46) 51 dX11_size_46 (by decide) c7 ?_
        refine X_iconst (pc := 49) (-1 : Int32) dX11_size_49 (by decide) ?_
        cases hf
        exact X_ireturn (pc := 50) rfl dX11_size_50
      · replace hf := (if_neg c7).symm.trans hf
        refine X_if_ne_t (pc := 46) 51 dX11_size_46 (by decide) c7 ?_
        refine X_iload (pc := 51) 4 dX11_size_51 rfl ?_
        refine X_iload_n (pc := 53) (i := 3) 3 dX11_size_53 rfl rfl ?_
        refine X_iload_n (pc := 54) (i := 3) 3 dX11_size_54 rfl rfl ?_
        refine X_bipush (pc := 55) (99 : Int32) dX11_size_55 (by decide) ?_
        refine X_iadd (pc := 57) dX11_size_57 ?_
        refine X_invS_i (pc := 58) (c_H_isWithin hT rfl) ok_H_isWithin k_563 k_564 nd_6 (by decide) rfl (Nat.le_of_ble_eq_true rfl) dX11_size_58 ?_
        by_cases c8 : (f_H_isWithin l4 l3 (l3 + (99 : Int32))) = (0 : Int32)
        · replace hf := (if_pos c8).symm.trans hf
          refine X_if_ne_f (pc := 61) 66 dX11_size_61 (by decide) c8 ?_
          refine X_iconst (pc := 64) (-1 : Int32) dX11_size_64 (by decide) ?_
          cases hf
          exact X_ireturn (pc := 65) rfl dX11_size_65
        · replace hf := (if_neg c8).symm.trans hf
          refine X_if_ne_t (pc := 61) 66 dX11_size_61 (by decide) c8 ?_
          refine X_aload_n (pc := 66) (i := 0) 0 dX11_size_66 rfl rfl ?_
          refine X_getr (pc := 67) (a := 0) (ci := 10) (j := 13) (c := 22) (sh_0 hT) (by decide) k_507 (rf_0_10 hT) (fun _ h => h) dX11_size_67 ?_
          refine X_iload_n (pc := 70) (i := 1) 1 dX11_size_70 rfl rfl ?_
          refine X_iload_n (pc := 71) (i := 2) 2 dX11_size_71 rfl rfl ?_
          refine X_iload_n (pc := 72) (i := 3) 3 dX11_size_72 rfl rfl ?_
          refine X_iload (pc := 73) 4 dX11_size_73 rfl ?_
          obtain ⟨q9, c10, hf⟩ := bd_some hf
          refine X_invV_i (pc := 75) (c_Ch_add hT c10) ok_Ch_add (ci := 2) (sh_22 hT) k_1063 k_1064 k_1065 nd_31 (by decide) rfl (Nat.le_of_ble_eq_true rfl) dX11_size_75 ?_
          cases hf
          exact X_ireturn (pc := 78) rfl dX11_size_78
theorem u_H_size_L10 {S : List xSh} {l1 : Int32} {l2 : Int32} {l3 : Int32} {l4 : Int32} {I : Nat → Nat → Int32} {L : Nat → Nat → Int64} {q : (Int32 × (Nat → Nat → Int32) × (Nat → Nat → Int64))} (hf : f_H_size_L10 l1 l2 l3 l4 I L = some q) : FR S [23, 24, 25, 26, 3200] [] I q.2.1 L q.2.2 := by
  replace hf := (f_H_size_L10.eq_1 _ _ _ _ _ _).symm.trans hf
  obtain ⟨x2, ex2, hf⟩ := bnd_e hf
  by_cases c3 : x2 = (0 : Int32)
  · replace hf := (if_pos c3).symm.trans hf
    cases hf
    exact FR.rf
  · replace hf := (if_neg c3).symm.trans hf
    obtain ⟨x4, ex4, hf⟩ := bnd_e hf
    by_cases c5 : x4 = (0 : Int32)
    · replace hf := (if_pos c5).symm.trans hf
      cases hf
      exact FR.rf
    · replace hf := (if_neg c5).symm.trans hf
      obtain ⟨x6, ex6, hf⟩ := bnd_e hf
      by_cases c7 : x6 = (0 : Int32)
      · replace hf := (if_pos c7).symm.trans hf
        cases hf
        exact FR.rf
      · replace hf := (if_neg c7).symm.trans hf
        by_cases c8 : (f_H_isWithin l4 l3 (l3 + (99 : Int32))) = (0 : Int32)
        · replace hf := (if_pos c8).symm.trans hf
          cases hf
          exact FR.rf
        · replace hf := (if_neg c8).symm.trans hf
          obtain ⟨q9, c10, hf⟩ := bd_some hf
          cases hf
          exact (FR.tr FR.rf (u_Ch_add (q := q9) c10) (by decide) (by decide))
def f_H_size (a0 : Int32) (a1 : Int32) (a2 : Int32) (a3 : Int32) (I : Nat → Nat → Int32) (L : Nat → Nat → Int64) : Option (Int32 × (Nat → Nat → Int32) × (Nat → Nat → Int64)) := (if a0 = (1 : Int32) then (f_H_size_L10 a0 a1 a2 a3 I L) else (if a0 = (-1 : Int32) then (f_H_size_L10 a0 a1 a2 a3 I L) else (some ((-1 : Int32), I, L))))
set_option maxRecDepth 100000 in
set_option maxHeartbeats 4000000 in
theorem c_H_size {G : xG} {S : List xSh} {Rf : Nat → Nat → Option Nat} (hT : xTH S Rf) {a0 : Int32} {a1 : Int32} {a2 : Int32} {a3 : Int32} {I : Nat → Nat → Int32} {L : Nat → Nat → Int64} {q : (Int32 × (Nat → Nat → Int32) × (Nat → Nat → Int64))} (hf : f_H_size a0 a1 a2 a3 I L = some q) : CT G 2 m_H_size [.ref (xP G 0), .int a0, .int a1, .int a2, .int a3] (S, I, L, Rf) (some (.int q.1), (S, q.2.1, q.2.2, Rf)) := by
  refine CT.of (by decide +kernel) (Nat.le_of_ble_eq_true rfl) ?_
  show X G 2 m_H_size 0 [(0, .ref (xP G 0)), (1, .int a0), (2, .int a1), (3, .int a2), (4, .int a3)] [] (S, I, L, Rf) (some (.int q.1), (S, q.2.1, q.2.2, Rf))
  replace hf := (f_H_size.eq_1 _ _ _ _ _ _).symm.trans hf
  refine X_iload_n (pc := 0) (i := 1) 1 dX11_size_0 rfl rfl ?_
  refine X_iconst (pc := 1) (1 : Int32) dX11_size_1 (by decide) ?_
  by_cases c1 : a0 = (1 : Int32)
  · replace hf := (if_pos c1).symm.trans hf
    refine X_icmp_eq_t (pc := 2) 10 dX11_size_2 (by decide) c1 ?_
    exact X_lvs [0, 1, 2, 3, 4] rfl (x_H_size_L10 hT hf)
  · replace hf := (if_neg c1).symm.trans hf
    refine X_icmp_eq_f (pc := 2) 10 dX11_size_2 (by decide) c1 ?_
    refine X_iload_n (pc := 5) (i := 1) 1 dX11_size_5 rfl rfl ?_
    refine X_iconst (pc := 6) (-1 : Int32) dX11_size_6 (by decide) ?_
    by_cases c11 : a0 = (-1 : Int32)
    · replace hf := (if_pos c11).symm.trans hf
      refine X_icmp_ne_f (pc := 7) 20 dX11_size_7 (by decide) c11 ?_
      exact X_lvs [0, 1, 2, 3, 4] rfl (x_H_size_L10 hT hf)
    · replace hf := (if_neg c11).symm.trans hf
      refine X_icmp_ne_t (pc := 7) 20 dX11_size_7 (by decide) c11 ?_
      refine X_iconst (pc := 20) (-1 : Int32) dX11_size_20 (by decide) ?_
      cases hf
      exact X_ireturn (pc := 21) rfl dX11_size_21
theorem u_H_size {S : List xSh} {a0 : Int32} {a1 : Int32} {a2 : Int32} {a3 : Int32} {I : Nat → Nat → Int32} {L : Nat → Nat → Int64} {q : (Int32 × (Nat → Nat → Int32) × (Nat → Nat → Int64))} (hf : f_H_size a0 a1 a2 a3 I L = some q) : FR S [23, 24, 25, 26, 3200] [] I q.2.1 L q.2.2 := by
  replace hf := (f_H_size.eq_1 _ _ _ _ _ _).symm.trans hf
  by_cases c1 : a0 = (1 : Int32)
  · replace hf := (if_pos c1).symm.trans hf
    exact FR.tr FR.rf (u_H_size_L10 hf) (by decide) (by decide)
  · replace hf := (if_neg c1).symm.trans hf
    by_cases c11 : a0 = (-1 : Int32)
    · replace hf := (if_pos c11).symm.trans hf
      exact FR.tr FR.rf (u_H_size_L10 hf) (by decide) (by decide)
    · replace hf := (if_neg c11).symm.trans hf
      cases hf
      exact FR.rf
theorem dX2_extreme_0 : decode cX2_extreme 0 = .ok (.iconst 0, 1) := by decide +kernel
theorem dX2_extreme_1 : decode cX2_extreme 1 = .ok (.istore_n 2, 1) := by decide +kernel
theorem dX2_extreme_2 : decode cX2_extreme 2 = .ok (.iconst 0, 1) := by decide +kernel
theorem dX2_extreme_3 : decode cX2_extreme 3 = .ok (.istore_n 3, 1) := by decide +kernel
theorem dX2_extreme_4 : decode cX2_extreme 4 = .ok (.iload_n 3, 1) := by decide +kernel
theorem dX2_extreme_5 : decode cX2_extreme 5 = .ok (.aload_n 0, 1) := by decide +kernel
theorem dX2_extreme_6 : decode cX2_extreme 6 = .ok (.getfield 28, 3) := by decide +kernel
theorem dX2_extreme_9 : decode cX2_extreme 9 = .ok (.if_icmp .ge 79, 3) := by decide +kernel
theorem dX2_extreme_12 : decode cX2_extreme 12 = .ok (.iload_n 1, 1) := by decide +kernel
theorem dX2_extreme_13 : decode cX2_extreme 13 = .ok (.ifCond .ne 7, 3) := by decide +kernel
theorem dX2_extreme_16 : decode cX2_extreme 16 = .ok (.iconst 1, 1) := by decide +kernel
theorem dX2_extreme_17 : decode cX2_extreme 17 = .ok (.goto 4, 3) := by decide +kernel
theorem dX2_extreme_20 : decode cX2_extreme 20 = .ok (.iconst 0, 1) := by decide +kernel
theorem dX2_extreme_21 : decode cX2_extreme 21 = .ok (.aload_n 0, 1) := by decide +kernel
theorem dX2_extreme_22 : decode cX2_extreme 22 = .ok (.getfield 11, 3) := by decide +kernel
theorem dX2_extreme_25 : decode cX2_extreme 25 = .ok (.iload_n 3, 1) := by decide +kernel
theorem dX2_extreme_26 : decode cX2_extreme 26 = .ok (.iaload, 1) := by decide +kernel
theorem dX2_extreme_27 : decode cX2_extreme 27 = .ok (.ifCond .le 7, 3) := by decide +kernel
theorem dX2_extreme_30 : decode cX2_extreme 30 = .ok (.iconst 1, 1) := by decide +kernel
theorem dX2_extreme_31 : decode cX2_extreme 31 = .ok (.goto 4, 3) := by decide +kernel
theorem dX2_extreme_34 : decode cX2_extreme 34 = .ok (.iconst 0, 1) := by decide +kernel
theorem dX2_extreme_35 : decode cX2_extreme 35 = .ok (.if_icmp .ne 7, 3) := by decide +kernel
theorem dX2_extreme_38 : decode cX2_extreme 38 = .ok (.iconst 1, 1) := by decide +kernel
theorem dX2_extreme_39 : decode cX2_extreme 39 = .ok (.goto 4, 3) := by decide +kernel
theorem dX2_extreme_42 : decode cX2_extreme 42 = .ok (.iconst 0, 1) := by decide +kernel
theorem dX2_extreme_43 : decode cX2_extreme 43 = .ok (.istore 4, 2) := by decide +kernel
theorem dX2_extreme_45 : decode cX2_extreme 45 = .ok (.iload_n 2, 1) := by decide +kernel
theorem dX2_extreme_46 : decode cX2_extreme 46 = .ok (.aload_n 0, 1) := by decide +kernel
theorem dX2_extreme_47 : decode cX2_extreme 47 = .ok (.getfield 11, 3) := by decide +kernel
theorem dX2_extreme_50 : decode cX2_extreme 50 = .ok (.iload_n 3, 1) := by decide +kernel
theorem dX2_extreme_51 : decode cX2_extreme 51 = .ok (.iaload, 1) := by decide +kernel
theorem dX2_extreme_52 : decode cX2_extreme 52 = .ok (.aload_n 0, 1) := by decide +kernel
theorem dX2_extreme_53 : decode cX2_extreme 53 = .ok (.getfield 15, 3) := by decide +kernel
theorem dX2_extreme_56 : decode cX2_extreme 56 = .ok (.iload_n 3, 1) := by decide +kernel
theorem dX2_extreme_57 : decode cX2_extreme 57 = .ok (.iaload, 1) := by decide +kernel
theorem dX2_extreme_58 : decode cX2_extreme 58 = .ok (.iload 4, 2) := by decide +kernel
theorem dX2_extreme_60 : decode cX2_extreme 60 = .ok (.ifCond .eq 12, 3) := by decide +kernel
theorem dX2_extreme_63 : decode cX2_extreme 63 = .ok (.aload_n 0, 1) := by decide +kernel
theorem dX2_extreme_64 : decode cX2_extreme 64 = .ok (.getfield 18, 3) := by decide +kernel
theorem dX2_extreme_67 : decode cX2_extreme 67 = .ok (.iload_n 3, 1) := by decide +kernel
theorem dX2_extreme_68 : decode cX2_extreme 68 = .ok (.iaload, 1) := by decide +kernel
theorem dX2_extreme_69 : decode cX2_extreme 69 = .ok (.goto 9, 3) := by decide +kernel
theorem dX2_extreme_72 : decode cX2_extreme 72 = .ok (.aload_n 0, 1) := by decide +kernel
theorem dX2_extreme_73 : decode cX2_extreme 73 = .ok (.getfield 21, 3) := by decide +kernel
theorem dX2_extreme_76 : decode cX2_extreme 76 = .ok (.iload_n 3, 1) := by decide +kernel
theorem dX2_extreme_77 : decode cX2_extreme 77 = .ok (.iaload, 1) := by decide +kernel
theorem dX2_extreme_78 : decode cX2_extreme 78 = .ok (.iadd, 1) := by decide +kernel
theorem dX2_extreme_79 : decode cX2_extreme 79 = .ok (.imul, 1) := by decide +kernel
theorem dX2_extreme_80 : decode cX2_extreme 80 = .ok (.iadd, 1) := by decide +kernel
theorem dX2_extreme_81 : decode cX2_extreme 81 = .ok (.istore_n 2, 1) := by decide +kernel
theorem dX2_extreme_82 : decode cX2_extreme 82 = .ok (.iinc 3 1, 3) := by decide +kernel
theorem dX2_extreme_85 : decode cX2_extreme 85 = .ok (.goto (-81), 3) := by decide +kernel
theorem dX2_extreme_88 : decode cX2_extreme 88 = .ok (.iload_n 2, 1) := by decide +kernel
theorem dX2_extreme_89 : decode cX2_extreme 89 = .ok (.ireturn, 1) := by decide +kernel
def f_Ch_extreme_L43 (k4 : Int32 → Int32 → Int32 → (Nat → Nat → Int32) → (Nat → Nat → Int64) → Option Int32) (l1 : Int32) (l2 : Int32) (l3 : Int32) (s0 : Int32) (I : (Nat → Nat → Int32)) (L : (Nat → Nat → Int64)) : Option Int32 := (if (0 ≤ l3 ∧ l3 < (8 : Int32)) then (if (0 ≤ l3 ∧ l3 < (8 : Int32)) then (if s0 = (0 : Int32) then (if (0 ≤ l3 ∧ l3 < (8 : Int32)) then (bnd ((I 23 (l3.toNatClampNeg)) * ((I 24 (l3.toNatClampNeg)) + (I 26 (l3.toNatClampNeg)))) fun x10 => (bnd (l2 + x10) fun x11 => (k4 l1 x11 (l3 + (1 : Int32)) I L))) else none) else (if (0 ≤ l3 ∧ l3 < (8 : Int32)) then (bnd ((I 23 (l3.toNatClampNeg)) * ((I 24 (l3.toNatClampNeg)) + (I 25 (l3.toNatClampNeg)))) fun x13 => (bnd (l2 + x13) fun x14 => (k4 l1 x14 (l3 + (1 : Int32)) I L))) else none)) else none) else none)
set_option maxRecDepth 100000 in
set_option maxHeartbeats 4000000 in
theorem x_Ch_extreme_L43 {G : xG} {S : List xSh} {Rf : Nat → Nat → Option Nat} (hT : xTH S Rf) {k4 : Int32 → Int32 → Int32 → (Nat → Nat → Int32) → (Nat → Nat → Int64) → Option Int32} (hk4 : ∀ {l1 : Int32} {l2 : Int32} {l3 : Int32} {I : Nat → Nat → Int32} {L : Nat → Nat → Int64} {q : Int32}, k4 l1 l2 l3 I L = some q → X G 1 m_Ch_extreme 4 [(0, .ref (xP G 22)), (1, .int l1), (2, .int l2), (3, .int l3)] [] (S, I, L, Rf) (some (.int q), (S, I, L, Rf))) {l1 : Int32} {l2 : Int32} {l3 : Int32} {s0 : Int32} {I : Nat → Nat → Int32} {L : Nat → Nat → Int64} {q : Int32} (hf : f_Ch_extreme_L43 k4 l1 l2 l3 s0 I L = some q) : X G 1 m_Ch_extreme 43 [(0, .ref (xP G 22)), (1, .int l1), (2, .int l2), (3, .int l3)] [.int s0] (S, I, L, Rf) (some (.int q), (S, I, L, Rf)) := by
  replace hf := (f_Ch_extreme_L43.eq_1 _ _ _ _ _ _ _).symm.trans hf
  refine X_istore (pc := 43) [(4, .int s0), (0, .ref (xP G 22)), (1, .int l1), (2, .int l2), (3, .int l3)] dX2_extreme_43 (by decide) rfl ?_
  refine X_iload_n (pc := 45) (i := 2) 3 dX2_extreme_45 rfl rfl ?_
  refine X_aload_n (pc := 46) (i := 0) 1 dX2_extreme_46 rfl rfl ?_
  refine X_getr (pc := 47) (a := 22) (ci := 2) (j := 1) (c := 23) (sh_22 hT) (by decide) k_310 (rf_22_1 hT) (fun _ h => h) dX2_extreme_47 ?_
  refine X_iload_n (pc := 50) (i := 3) 4 dX2_extreme_50 rfl rfl ?_
  obtain ⟨c6, hf⟩ := gd_some hf
  refine X_ialdj (pc := 51) (j := l3.toNatClampNeg) (I 23 (l3.toNatClampNeg)) (sh_23 hT) (vp_in_lit (N := 8) c6 (by decide)) rfl rfl dX2_extreme_51 ?_
  refine X_aload_n (pc := 52) (i := 0) 1 dX2_extreme_52 rfl rfl ?_
  refine X_getr (pc := 53) (a := 22) (ci := 2) (j := 2) (c := 24) (sh_22 hT) (by decide) k_311 (rf_22_2 hT) (fun _ h => h) dX2_extreme_53 ?_
  refine X_iload_n (pc := 56) (i := 3) 4 dX2_extreme_56 rfl rfl ?_
  obtain ⟨c7, hf⟩ := gd_some hf
  refine X_ialdj (pc := 57) (j := l3.toNatClampNeg) (I 24 (l3.toNatClampNeg)) (sh_24 hT) (vp_in_lit (N := 8) c7 (by decide)) rfl rfl dX2_extreme_57 ?_
  refine X_iload (pc := 58) 0 dX2_extreme_58 rfl ?_
  by_cases c8 : s0 = (0 : Int32)
  · replace hf := (if_pos c8).symm.trans hf
    refine X_if_eq_t (pc := 60) 72 dX2_extreme_60 (by decide) c8 ?_
    refine X_aload_n (pc := 72) (i := 0) 1 dX2_extreme_72 rfl rfl ?_
    refine X_getr (pc := 73) (a := 22) (ci := 2) (j := 4) (c := 26) (sh_22 hT) (by decide) k_313 (rf_22_4 hT) (fun _ h => h) dX2_extreme_73 ?_
    refine X_iload_n (pc := 76) (i := 3) 4 dX2_extreme_76 rfl rfl ?_
    obtain ⟨c9, hf⟩ := gd_some hf
    refine X_ialdj (pc := 77) (j := l3.toNatClampNeg) (I 26 (l3.toNatClampNeg)) (sh_26 hT) (vp_in_lit (N := 8) c9 (by decide)) rfl rfl dX2_extreme_77 ?_
    refine X_iadd (pc := 78) dX2_extreme_78 ?_
    refine X_imul (pc := 79) dX2_extreme_79 ?_
    obtain ⟨x10, ex10, hf⟩ := bnd_e hf
    refine X_tope ex10 ?_
    refine X_iadd (pc := 80) dX2_extreme_80 ?_
    obtain ⟨x11, ex11, hf⟩ := bnd_e hf
    refine X_tope ex11 ?_
    refine X_istore_n (pc := 81) (i := 2) [(2, .int x11), (4, .int s0), (0, .ref (xP G 22)), (1, .int l1), (3, .int l3)] dX2_extreme_81 rfl (by decide) rfl ?_
    refine X_iinc (pc := 82) (i := 3) (q := 4) (v := (l3 + (1 : Int32))) [(3, .int (l3 + (1 : Int32))), (2, .int x11), (4, .int s0), (0, .ref (xP G 22)), (1, .int l1)] dX2_extreme_82 rfl rfl (by decide) rfl ?_
    refine X_goto (pc := 85) 4 dX2_extreme_85 (by decide) ?_
    exact X_lvs [3, 4, 1, 0] rfl (hk4 hf)
  · replace hf := (if_neg c8).symm.trans hf
    refine X_if_eq_f (pc := 60) 72 dX2_extreme_60 (by decide) c8 ?_
    refine X_aload_n (pc := 63) (i := 0) 1 dX2_extreme_63 rfl rfl ?_
    refine X_getr (pc := 64) (a := 22) (ci := 2) (j := 3) (c := 25) (sh_22 hT) (by decide) k_312 (rf_22_3 hT) (fun _ h => h) dX2_extreme_64 ?_
    refine X_iload_n (pc := 67) (i := 3) 4 dX2_extreme_67 rfl rfl ?_
    obtain ⟨c12, hf⟩ := gd_some hf
    refine X_ialdj (pc := 68) (j := l3.toNatClampNeg) (I 25 (l3.toNatClampNeg)) (sh_25 hT) (vp_in_lit (N := 8) c12 (by decide)) rfl rfl dX2_extreme_68 ?_
    refine X_goto (pc := 69) 78 dX2_extreme_69 (by decide) ?_
    refine X_iadd (pc := 78) dX2_extreme_78 ?_
    refine X_imul (pc := 79) dX2_extreme_79 ?_
    obtain ⟨x13, ex13, hf⟩ := bnd_e hf
    refine X_tope ex13 ?_
    refine X_iadd (pc := 80) dX2_extreme_80 ?_
    obtain ⟨x14, ex14, hf⟩ := bnd_e hf
    refine X_tope ex14 ?_
    refine X_istore_n (pc := 81) (i := 2) [(2, .int x14), (4, .int s0), (0, .ref (xP G 22)), (1, .int l1), (3, .int l3)] dX2_extreme_81 rfl (by decide) rfl ?_
    refine X_iinc (pc := 82) (i := 3) (q := 4) (v := (l3 + (1 : Int32))) [(3, .int (l3 + (1 : Int32))), (2, .int x14), (4, .int s0), (0, .ref (xP G 22)), (1, .int l1)] dX2_extreme_82 rfl rfl (by decide) rfl ?_
    refine X_goto (pc := 85) 4 dX2_extreme_85 (by decide) ?_
    exact X_lvs [3, 4, 1, 0] rfl (hk4 hf)
def f_Ch_extreme_L35 (k4 : Int32 → Int32 → Int32 → (Nat → Nat → Int32) → (Nat → Nat → Int64) → Option Int32) (l1 : Int32) (l2 : Int32) (l3 : Int32) (s0 : Int32) (s1 : Int32) (I : (Nat → Nat → Int32)) (L : (Nat → Nat → Int64)) : Option Int32 := (if s0 = s1 then (f_Ch_extreme_L43 k4 l1 l2 l3 (1 : Int32) I L) else (f_Ch_extreme_L43 k4 l1 l2 l3 (0 : Int32) I L))
set_option maxRecDepth 100000 in
set_option maxHeartbeats 4000000 in
theorem x_Ch_extreme_L35 {G : xG} {S : List xSh} {Rf : Nat → Nat → Option Nat} (hT : xTH S Rf) {k4 : Int32 → Int32 → Int32 → (Nat → Nat → Int32) → (Nat → Nat → Int64) → Option Int32} (hk4 : ∀ {l1 : Int32} {l2 : Int32} {l3 : Int32} {I : Nat → Nat → Int32} {L : Nat → Nat → Int64} {q : Int32}, k4 l1 l2 l3 I L = some q → X G 1 m_Ch_extreme 4 [(0, .ref (xP G 22)), (1, .int l1), (2, .int l2), (3, .int l3)] [] (S, I, L, Rf) (some (.int q), (S, I, L, Rf))) {l1 : Int32} {l2 : Int32} {l3 : Int32} {s0 : Int32} {s1 : Int32} {I : Nat → Nat → Int32} {L : Nat → Nat → Int64} {q : Int32} (hf : f_Ch_extreme_L35 k4 l1 l2 l3 s0 s1 I L = some q) : X G 1 m_Ch_extreme 35 [(0, .ref (xP G 22)), (1, .int l1), (2, .int l2), (3, .int l3)] [.int s1, .int s0] (S, I, L, Rf) (some (.int q), (S, I, L, Rf)) := by
  replace hf := (f_Ch_extreme_L35.eq_1 _ _ _ _ _ _ _ _).symm.trans hf
  by_cases c5 : s0 = s1
  · replace hf := (if_pos c5).symm.trans hf
    refine X_icmp_ne_f (pc := 35) 42 dX2_extreme_35 (by decide) c5 ?_
    refine X_iconst (pc := 38) (1 : Int32) dX2_extreme_38 (by decide) ?_
    refine X_goto (pc := 39) 43 dX2_extreme_39 (by decide) ?_
    exact X_lvs [0, 1, 2, 3] rfl (x_Ch_extreme_L43 hT hk4 hf)
  · replace hf := (if_neg c5).symm.trans hf
    refine X_icmp_ne_t (pc := 35) 42 dX2_extreme_35 (by decide) c5 ?_
    refine X_iconst (pc := 42) (0 : Int32) dX2_extreme_42 (by decide) ?_
    exact X_lvs [0, 1, 2, 3] rfl (x_Ch_extreme_L43 hT hk4 hf)
def f_Ch_extreme_L21 (k4 : Int32 → Int32 → Int32 → (Nat → Nat → Int32) → (Nat → Nat → Int64) → Option Int32) (l1 : Int32) (l2 : Int32) (l3 : Int32) (s0 : Int32) (I : (Nat → Nat → Int32)) (L : (Nat → Nat → Int64)) : Option Int32 := (if (0 ≤ l3 ∧ l3 < (8 : Int32)) then (if (I 23 (l3.toNatClampNeg)) ≤ (0 : Int32) then (f_Ch_extreme_L35 k4 l1 l2 l3 s0 (0 : Int32) I L) else (f_Ch_extreme_L35 k4 l1 l2 l3 s0 (1 : Int32) I L)) else none)
set_option maxRecDepth 100000 in
set_option maxHeartbeats 4000000 in
theorem x_Ch_extreme_L21 {G : xG} {S : List xSh} {Rf : Nat → Nat → Option Nat} (hT : xTH S Rf) {k4 : Int32 → Int32 → Int32 → (Nat → Nat → Int32) → (Nat → Nat → Int64) → Option Int32} (hk4 : ∀ {l1 : Int32} {l2 : Int32} {l3 : Int32} {I : Nat → Nat → Int32} {L : Nat → Nat → Int64} {q : Int32}, k4 l1 l2 l3 I L = some q → X G 1 m_Ch_extreme 4 [(0, .ref (xP G 22)), (1, .int l1), (2, .int l2), (3, .int l3)] [] (S, I, L, Rf) (some (.int q), (S, I, L, Rf))) {l1 : Int32} {l2 : Int32} {l3 : Int32} {s0 : Int32} {I : Nat → Nat → Int32} {L : Nat → Nat → Int64} {q : Int32} (hf : f_Ch_extreme_L21 k4 l1 l2 l3 s0 I L = some q) : X G 1 m_Ch_extreme 21 [(0, .ref (xP G 22)), (1, .int l1), (2, .int l2), (3, .int l3)] [.int s0] (S, I, L, Rf) (some (.int q), (S, I, L, Rf)) := by
  replace hf := (f_Ch_extreme_L21.eq_1 _ _ _ _ _ _ _).symm.trans hf
  refine X_aload_n (pc := 21) (i := 0) 0 dX2_extreme_21 rfl rfl ?_
  refine X_getr (pc := 22) (a := 22) (ci := 2) (j := 1) (c := 23) (sh_22 hT) (by decide) k_310 (rf_22_1 hT) (fun _ h => h) dX2_extreme_22 ?_
  refine X_iload_n (pc := 25) (i := 3) 3 dX2_extreme_25 rfl rfl ?_
  obtain ⟨c3, hf⟩ := gd_some hf
  refine X_ialdj (pc := 26) (j := l3.toNatClampNeg) (I 23 (l3.toNatClampNeg)) (sh_23 hT) (vp_in_lit (N := 8) c3 (by decide)) rfl rfl dX2_extreme_26 ?_
  by_cases c4 : (I 23 (l3.toNatClampNeg)) ≤ (0 : Int32)
  · replace hf := (if_pos c4).symm.trans hf
    refine X_if_le_t (pc := 27) 34 dX2_extreme_27 (by decide) c4 ?_
    refine X_iconst (pc := 34) (0 : Int32) dX2_extreme_34 (by decide) ?_
    exact X_lvs [0, 1, 2, 3] rfl (x_Ch_extreme_L35 hT hk4 hf)
  · replace hf := (if_neg c4).symm.trans hf
    refine X_if_le_f (pc := 27) 34 dX2_extreme_27 (by decide) c4 ?_
    refine X_iconst (pc := 30) (1 : Int32) dX2_extreme_30 (by decide) ?_
    refine X_goto (pc := 31) 35 dX2_extreme_31 (by decide) ?_
    exact X_lvs [0, 1, 2, 3] rfl (x_Ch_extreme_L35 hT hk4 hf)
def f_Ch_extreme_L4 : Nat → Int32 → Int32 → Int32 → (Nat → Nat → Int32) → (Nat → Nat → Int64) → Option Int32
  | 0, _, _, _, _, _ => none
  | n + 1, l1, l2, l3, I, L => (if (I 22 0) ≤ l3 then (some l2) else (if l1 = (0 : Int32) then (f_Ch_extreme_L21 (f_Ch_extreme_L4 n) l1 l2 l3 (1 : Int32) I L) else (f_Ch_extreme_L21 (f_Ch_extreme_L4 n) l1 l2 l3 (0 : Int32) I L)))
set_option maxRecDepth 100000 in
set_option maxHeartbeats 4000000 in
theorem x_Ch_extreme_L4 {G : xG} {S : List xSh} {Rf : Nat → Nat → Option Nat} (hT : xTH S Rf) : ∀ (n : Nat) {l1 : Int32} {l2 : Int32} {l3 : Int32} {I : Nat → Nat → Int32} {L : Nat → Nat → Int64} {q : Int32}, f_Ch_extreme_L4 n l1 l2 l3 I L = some q → X G 1 m_Ch_extreme 4 [(0, .ref (xP G 22)), (1, .int l1), (2, .int l2), (3, .int l3)] [] (S, I, L, Rf) (some (.int q), (S, I, L, Rf)) := by
  intro n
  induction n with
  | zero =>
    intro l1 l2 l3 I L q hf
    exact absurd (show none = some q from hf) (by simp)
  | succ n ih =>
    intro l1 l2 l3 I L q hf
    replace hf := (f_Ch_extreme_L4.eq_2 _ _ _ _ _ _).symm.trans hf
    refine X_iload_n (pc := 4) (i := 3) 3 dX2_extreme_4 rfl rfl ?_
    refine X_aload_n (pc := 5) (i := 0) 0 dX2_extreme_5 rfl rfl ?_
    refine X_get (pc := 6) (a := 22) (ci := 2) (j := 0) (.int (I 22 0)) (sh_22 hT) (by decide) k_308 rfl dX2_extreme_6 ?_
    by_cases c1 : (I 22 0) ≤ l3
    · replace hf := (if_pos c1).symm.trans hf
      refine X_icmp_ge_t (pc := 9) 88 dX2_extreme_9 (by decide) c1 ?_
      refine X_iload_n (pc := 88) (i := 2) 2 dX2_extreme_88 rfl rfl ?_
      cases hf
      exact X_ireturn (pc := 89) rfl dX2_extreme_89
    · replace hf := (if_neg c1).symm.trans hf
      refine X_icmp_ge_f (pc := 9) 88 dX2_extreme_9 (by decide) c1 ?_
      refine X_iload_n (pc := 12) (i := 1) 1 dX2_extreme_12 rfl rfl ?_
      by_cases c2 : l1 = (0 : Int32)
      · replace hf := (if_pos c2).symm.trans hf
        refine X_if_ne_f (pc := 13) 20 dX2_extreme_13 (by decide) c2 ?_
        refine X_iconst (pc := 16) (1 : Int32) dX2_extreme_16 (by decide) ?_
        refine X_goto (pc := 17) 21 dX2_extreme_17 (by decide) ?_
        exact X_lvs [0, 1, 2, 3] rfl (x_Ch_extreme_L21 hT ih hf)
      · replace hf := (if_neg c2).symm.trans hf
        refine X_if_ne_t (pc := 13) 20 dX2_extreme_13 (by decide) c2 ?_
        refine X_iconst (pc := 20) (0 : Int32) dX2_extreme_20 (by decide) ?_
        exact X_lvs [0, 1, 2, 3] rfl (x_Ch_extreme_L21 hT ih hf)
def f_Ch_extreme (a0 : Int32) (I : Nat → Nat → Int32) (L : Nat → Nat → Int64) : Option Int32 := (f_Ch_extreme_L4 xF a0 (0 : Int32) (0 : Int32) I L)
set_option maxRecDepth 100000 in
set_option maxHeartbeats 4000000 in
theorem c_Ch_extreme {G : xG} {S : List xSh} {Rf : Nat → Nat → Option Nat} (hT : xTH S Rf) {a0 : Int32} {I : Nat → Nat → Int32} {L : Nat → Nat → Int64} {q : Int32} (hf : f_Ch_extreme a0 I L = some q) : CT G 1 m_Ch_extreme [.ref (xP G 22), .int a0] (S, I, L, Rf) (some (.int q), (S, I, L, Rf)) := by
  refine CT.of (by decide +kernel) (Nat.le_of_ble_eq_true rfl) ?_
  show X G 1 m_Ch_extreme 0 [(0, .ref (xP G 22)), (1, .int a0)] [] (S, I, L, Rf) (some (.int q), (S, I, L, Rf))
  replace hf := (f_Ch_extreme.eq_1 _ _ _).symm.trans hf
  refine X_iconst (pc := 0) (0 : Int32) dX2_extreme_0 (by decide) ?_
  refine X_istore_n (pc := 1) (i := 2) [(2, .int (0 : Int32)), (0, .ref (xP G 22)), (1, .int a0)] dX2_extreme_1 rfl (by decide) rfl ?_
  refine X_iconst (pc := 2) (0 : Int32) dX2_extreme_2 (by decide) ?_
  refine X_istore_n (pc := 3) (i := 3) [(3, .int (0 : Int32)), (2, .int (0 : Int32)), (0, .ref (xP G 22)), (1, .int a0)] dX2_extreme_3 rfl (by decide) rfl ?_
  exact X_lvs [2, 3, 1, 0] rfl (x_Ch_extreme_L4 hT xF hf)
theorem dX11_limit_0 : decode cX11_limit 0 = .ok (.iload_n 1, 1) := by decide +kernel
theorem dX11_limit_1 : decode cX11_limit 1 = .ok (.iconst 0, 1) := by decide +kernel
theorem dX11_limit_2 : decode cX11_limit 2 = .ok (.iconst 1, 1) := by decide +kernel
theorem dX11_limit_3 : decode cX11_limit 3 = .ok (.invokestatic 113, 3) := by decide +kernel
theorem dX11_limit_6 : decode cX11_limit 6 = .ok (.ifCond .eq 14, 3) := by decide +kernel
theorem dX11_limit_9 : decode cX11_limit 9 = .ok (.aload_n 0, 1) := by decide +kernel
theorem dX11_limit_10 : decode cX11_limit 10 = .ok (.getfield 73, 3) := by decide +kernel
theorem dX11_limit_13 : decode cX11_limit 13 = .ok (.iload_n 1, 1) := by decide +kernel
theorem dX11_limit_14 : decode cX11_limit 14 = .ok (.invokevirtual 325, 3) := by decide +kernel
theorem dX11_limit_17 : decode cX11_limit 17 = .ok (.goto 6, 3) := by decide +kernel
theorem dX11_limit_20 : decode cX11_limit 20 = .ok (.ldc_w 328, 3) := by decide +kernel
theorem dX11_limit_23 : decode cX11_limit 23 = .ok (.ireturn, 1) := by decide +kernel
def f_H_limit (a0 : Int32) (I : Nat → Nat → Int32) (L : Nat → Nat → Int64) : Option Int32 := (bnd (f_H_isWithin a0 (0 : Int32) (1 : Int32)) fun x1 => (if x1 = (0 : Int32) then (some (-9999999 : Int32)) else ((f_Ch_extreme a0 I L).bind fun q3 => (some q3))))
set_option maxRecDepth 100000 in
set_option maxHeartbeats 4000000 in
theorem c_H_limit {G : xG} {S : List xSh} {Rf : Nat → Nat → Option Nat} (hT : xTH S Rf) {a0 : Int32} {I : Nat → Nat → Int32} {L : Nat → Nat → Int64} {q : Int32} (hf : f_H_limit a0 I L = some q) : CT G 2 m_H_limit [.ref (xP G 0), .int a0] (S, I, L, Rf) (some (.int q), (S, I, L, Rf)) := by
  refine CT.of (by decide +kernel) (Nat.le_of_ble_eq_true rfl) ?_
  show X G 2 m_H_limit 0 [(0, .ref (xP G 0)), (1, .int a0)] [] (S, I, L, Rf) (some (.int q), (S, I, L, Rf))
  replace hf := (f_H_limit.eq_1 _ _ _).symm.trans hf
  refine X_iload_n (pc := 0) (i := 1) 1 dX11_limit_0 rfl rfl ?_
  refine X_iconst (pc := 1) (0 : Int32) dX11_limit_1 (by decide) ?_
  refine X_iconst (pc := 2) (1 : Int32) dX11_limit_2 (by decide) ?_
  refine X_invS_i (pc := 3) (c_H_isWithin hT rfl) ok_H_isWithin k_563 k_564 nd_6 (by decide) rfl (Nat.le_of_ble_eq_true rfl) dX11_limit_3 ?_
  obtain ⟨x1, ex1, hf⟩ := bnd_e hf
  refine X_tope ex1 ?_
  by_cases c2 : x1 = (0 : Int32)
  · replace hf := (if_pos c2).symm.trans hf
    refine X_if_eq_t (pc := 6) 20 dX11_limit_6 (by decide) c2 ?_
    refine X_ldcw (pc := 20) (-9999999 : Int32) k_1075 dX11_limit_20 ?_
    cases hf
    exact X_ireturn (pc := 23) rfl dX11_limit_23
  · replace hf := (if_neg c2).symm.trans hf
    refine X_if_eq_f (pc := 6) 20 dX11_limit_6 (by decide) c2 ?_
    refine X_aload_n (pc := 9) (i := 0) 0 dX11_limit_9 rfl rfl ?_
    refine X_getr (pc := 10) (a := 0) (ci := 10) (j := 13) (c := 22) (sh_0 hT) (by decide) k_507 (rf_0_10 hT) (fun _ h => h) dX11_limit_10 ?_
    refine X_iload_n (pc := 13) (i := 1) 1 dX11_limit_13 rfl rfl ?_
    obtain ⟨q3, c4, hf⟩ := bd_some hf
    refine X_invV_i (pc := 14) (c_Ch_extreme hT c4) ok_Ch_extreme (ci := 2) (sh_22 hT) k_1071 k_1072 k_1073 nd_8 (by decide) rfl (Nat.le_of_ble_eq_true rfl) dX11_limit_14 ?_
    refine X_goto (pc := 17) 23 dX11_limit_17 (by decide) ?_
    cases hf
    exact X_ireturn (pc := 23) rfl dX11_limit_23
def f_Ar_fill_l_27_L6 : Nat → Int64 → Int32 → Int32 → (Nat → Nat → Int32) → (Nat → Nat → Int64) → Option ((Nat → Nat → Int32) × (Nat → Nat → Int64))
  | 0, _, _, _, _, _ => none
  | n + 1, l1, l3, l4, I, L => (if l4 ≤ l3 then (some (I, L)) else (if (0 ≤ l3 ∧ l3 < (793 : Int32)) then (f_Ar_fill_l_27_L6 n l1 (l3 + (1 : Int32)) l4 I (uL L 27 (l3.toNatClampNeg) l1)) else none))
set_option maxRecDepth 100000 in
set_option maxHeartbeats 4000000 in
theorem x_Ar_fill_l_27_L6 {G : xG} {S : List xSh} {Rf : Nat → Nat → Option Nat} (hT : xTH S Rf) : ∀ (n : Nat) {l1 : Int64} {l3 : Int32} {l4 : Int32} {I : Nat → Nat → Int32} {L : Nat → Nat → Int64} {q : ((Nat → Nat → Int32) × (Nat → Nat → Int64))}, f_Ar_fill_l_27_L6 n l1 l3 l4 I L = some q → X G 1 m_Ar_fill_l 6 [(0, .ref (xP G 27)), (1, .long l1), (3, .int l3), (4, .int l4)] [] (S, I, L, Rf) (none, (S, q.1, q.2, Rf)) := by
  intro n
  induction n with
  | zero =>
    intro l1 l3 l4 I L q hf
    exact absurd (show none = some q from hf) (by simp)
  | succ n ih =>
    intro l1 l3 l4 I L q hf
    replace hf := (f_Ar_fill_l_27_L6.eq_2 _ _ _ _ _ _).symm.trans hf
    refine X_iload_n (pc := 6) (i := 3) 2 dJ7_fill_d0a16_6 rfl rfl ?_
    refine X_iload (pc := 7) 3 dJ7_fill_d0a16_7 rfl ?_
    by_cases c1 : l4 ≤ l3
    · replace hf := (if_pos c1).symm.trans hf
      refine X_icmp_ge_t (pc := 9) 22 dJ7_fill_d0a16_9 (by decide) c1 ?_
      cases hf
      exact X_return (pc := 22) rfl dJ7_fill_d0a16_22
    · replace hf := (if_neg c1).symm.trans hf
      refine X_icmp_ge_f (pc := 9) 22 dJ7_fill_d0a16_9 (by decide) c1 ?_
      refine X_aload_n (pc := 12) (i := 0) 0 dJ7_fill_d0a16_12 rfl rfl ?_
      refine X_iload_n (pc := 13) (i := 3) 2 dJ7_fill_d0a16_13 rfl rfl ?_
      refine X_lload_n (pc := 14) (i := 1) 1 dJ7_fill_d0a16_14 rfl rfl ?_
      obtain ⟨c2, hf⟩ := gd_some hf
      refine X_lastj (pc := 15) (j := (l3.toNatClampNeg)) (sh_27 hT) (vp_in_lit (N := 793) c2 (by decide)) rfl dJ7_fill_d0a16_15 ?_
      refine X_iinc (pc := 16) (i := 3) (q := 2) (v := (l3 + (1 : Int32))) [(3, .int (l3 + (1 : Int32))), (0, .ref (xP G 27)), (1, .long l1), (4, .int l4)] dJ7_fill_d0a16_16 rfl rfl (by decide) rfl ?_
      refine X_goto (pc := 19) 6 dJ7_fill_d0a16_19 (by decide) ?_
      exact X_lvs [1, 2, 0, 3] rfl (ih hf)
theorem u_Ar_fill_l_27_L6 {S : List xSh} : ∀ (n : Nat) {l1 : Int64} {l3 : Int32} {l4 : Int32} {I : Nat → Nat → Int32} {L : Nat → Nat → Int64} {q : ((Nat → Nat → Int32) × (Nat → Nat → Int64))}, f_Ar_fill_l_27_L6 n l1 l3 l4 I L = some q → FR S [] [27] I q.1 L q.2 := by
  intro n
  induction n with
  | zero =>
    intro l1 l3 l4 I L q hf
    exact absurd (show none = some q from hf) (by simp)
  | succ n ih =>
    intro l1 l3 l4 I L q hf
    replace hf := (f_Ar_fill_l_27_L6.eq_2 _ _ _ _ _ _).symm.trans hf
    by_cases c1 : l4 ≤ l3
    · replace hf := (if_pos c1).symm.trans hf
      cases hf
      exact FR.rf
    · replace hf := (if_neg c1).symm.trans hf
      obtain ⟨c2, hf⟩ := gd_some hf
      exact FR.tr (FR.al FR.rf (by decide)) (ih hf) (by decide) (by decide)
def f_Ar_fill_l_27 (a1 : Int64) (I : Nat → Nat → Int32) (L : Nat → Nat → Int64) : Option ((Nat → Nat → Int32) × (Nat → Nat → Int64)) := (f_Ar_fill_l_27_L6 xF a1 (0 : Int32) (793 : Int32) I L)
set_option maxRecDepth 100000 in
set_option maxHeartbeats 4000000 in
theorem c_Ar_fill_l_27 {G : xG} {S : List xSh} {Rf : Nat → Nat → Option Nat} (hT : xTH S Rf) {a1 : Int64} {I : Nat → Nat → Int32} {L : Nat → Nat → Int64} {q : ((Nat → Nat → Int32) × (Nat → Nat → Int64))} (hf : f_Ar_fill_l_27 a1 I L = some q) : CT G 1 m_Ar_fill_l [.ref (xP G 27), .long a1] (S, I, L, Rf) (none, (S, q.1, q.2, Rf)) := by
  refine CT.of (by decide +kernel) (Nat.le_of_ble_eq_true rfl) ?_
  show X G 1 m_Ar_fill_l 0 [(0, .ref (xP G 27)), (1, .long a1)] [] (S, I, L, Rf) (none, (S, q.1, q.2, Rf))
  replace hf := (f_Ar_fill_l_27.eq_1 _ _ _).symm.trans hf
  refine X_iconst (pc := 0) (0 : Int32) dJ7_fill_d0a16_0 (by decide) ?_
  refine X_istore_n (pc := 1) (i := 3) [(3, .int (0 : Int32)), (0, .ref (xP G 27)), (1, .long a1)] dJ7_fill_d0a16_1 rfl (by decide) rfl ?_
  refine X_aload_n (pc := 2) (i := 0) 1 dJ7_fill_d0a16_2 rfl rfl ?_
  refine X_alen (pc := 3) (793 : Int32) (by decide) (sh_27 hT) (by decide) dJ7_fill_d0a16_3 ?_
  refine X_istore (pc := 4) [(4, .int (793 : Int32)), (3, .int (0 : Int32)), (0, .ref (xP G 27)), (1, .long a1)] dJ7_fill_d0a16_4 (by decide) rfl ?_
  exact X_lvs [2, 3, 1, 0] rfl (x_Ar_fill_l_27_L6 hT xF hf)
theorem u_Ar_fill_l_27 {S : List xSh} {a1 : Int64} {I : Nat → Nat → Int32} {L : Nat → Nat → Int64} {q : ((Nat → Nat → Int32) × (Nat → Nat → Int64))} (hf : f_Ar_fill_l_27 a1 I L = some q) : FR S [] [27] I q.1 L q.2 := by
  replace hf := (f_Ar_fill_l_27.eq_1 _ _ _).symm.trans hf
  exact FR.tr FR.rf (u_Ar_fill_l_27_L6 xF hf) (by decide) (by decide)
theorem dX2_spread_0 : decode cX2_spread 0 = .ok (.iconst 1, 1) := by decide +kernel
theorem dX2_spread_1 : decode cX2_spread 1 = .ok (.istore_n 2, 1) := by decide +kernel
theorem dX2_spread_2 : decode cX2_spread 2 = .ok (.iload_n 2, 1) := by decide +kernel
theorem dX2_spread_3 : decode cX2_spread 3 = .ok (.sipush 793, 3) := by decide +kernel
theorem dX2_spread_6 : decode cX2_spread 6 = .ok (.if_icmp .ge 26, 3) := by decide +kernel
theorem dX2_spread_9 : decode cX2_spread 9 = .ok (.aload_n 0, 1) := by decide +kernel
theorem dX2_spread_10 : decode cX2_spread 10 = .ok (.getfield 24, 3) := by decide +kernel
theorem dX2_spread_13 : decode cX2_spread 13 = .ok (.iload_n 2, 1) := by decide +kernel
theorem dX2_spread_14 : decode cX2_spread 14 = .ok (.dup2, 1) := by decide +kernel
theorem dX2_spread_15 : decode cX2_spread 15 = .ok (.laload, 1) := by decide +kernel
theorem dX2_spread_16 : decode cX2_spread 16 = .ok (.aload_n 0, 1) := by decide +kernel
theorem dX2_spread_17 : decode cX2_spread 17 = .ok (.getfield 24, 3) := by decide +kernel
theorem dX2_spread_20 : decode cX2_spread 20 = .ok (.iload_n 2, 1) := by decide +kernel
theorem dX2_spread_21 : decode cX2_spread 21 = .ok (.iconst 1, 1) := by decide +kernel
theorem dX2_spread_22 : decode cX2_spread 22 = .ok (.isub, 1) := by decide +kernel
theorem dX2_spread_23 : decode cX2_spread 23 = .ok (.laload, 1) := by decide +kernel
theorem dX2_spread_24 : decode cX2_spread 24 = .ok (.ladd, 1) := by decide +kernel
theorem dX2_spread_25 : decode cX2_spread 25 = .ok (.lastore, 1) := by decide +kernel
theorem dX2_spread_26 : decode cX2_spread 26 = .ok (.iinc 2 1, 3) := by decide +kernel
theorem dX2_spread_29 : decode cX2_spread 29 = .ok (.goto (-27), 3) := by decide +kernel
theorem dX2_spread_32 : decode cX2_spread 32 = .ok (.sipush 792, 3) := by decide +kernel
theorem dX2_spread_35 : decode cX2_spread 35 = .ok (.istore_n 2, 1) := by decide +kernel
theorem dX2_spread_36 : decode cX2_spread 36 = .ok (.iload_n 2, 1) := by decide +kernel
theorem dX2_spread_37 : decode cX2_spread 37 = .ok (.iload_n 1, 1) := by decide +kernel
theorem dX2_spread_38 : decode cX2_spread 38 = .ok (.if_icmp .le 28, 3) := by decide +kernel
theorem dX2_spread_41 : decode cX2_spread 41 = .ok (.aload_n 0, 1) := by decide +kernel
theorem dX2_spread_42 : decode cX2_spread 42 = .ok (.getfield 24, 3) := by decide +kernel
theorem dX2_spread_45 : decode cX2_spread 45 = .ok (.iload_n 2, 1) := by decide +kernel
theorem dX2_spread_46 : decode cX2_spread 46 = .ok (.dup2, 1) := by decide +kernel
theorem dX2_spread_47 : decode cX2_spread 47 = .ok (.laload, 1) := by decide +kernel
theorem dX2_spread_48 : decode cX2_spread 48 = .ok (.aload_n 0, 1) := by decide +kernel
theorem dX2_spread_49 : decode cX2_spread 49 = .ok (.getfield 24, 3) := by decide +kernel
theorem dX2_spread_52 : decode cX2_spread 52 = .ok (.iload_n 2, 1) := by decide +kernel
theorem dX2_spread_53 : decode cX2_spread 53 = .ok (.iload_n 1, 1) := by decide +kernel
theorem dX2_spread_54 : decode cX2_spread 54 = .ok (.isub, 1) := by decide +kernel
theorem dX2_spread_55 : decode cX2_spread 55 = .ok (.iconst 1, 1) := by decide +kernel
theorem dX2_spread_56 : decode cX2_spread 56 = .ok (.isub, 1) := by decide +kernel
theorem dX2_spread_57 : decode cX2_spread 57 = .ok (.laload, 1) := by decide +kernel
theorem dX2_spread_58 : decode cX2_spread 58 = .ok (.lsub, 1) := by decide +kernel
theorem dX2_spread_59 : decode cX2_spread 59 = .ok (.lastore, 1) := by decide +kernel
theorem dX2_spread_60 : decode cX2_spread 60 = .ok (.iinc 2 (-1), 3) := by decide +kernel
theorem dX2_spread_63 : decode cX2_spread 63 = .ok (.goto (-27), 3) := by decide +kernel
theorem dX2_spread_66 : decode cX2_spread 66 = .ok (.return_, 1) := by decide +kernel
def f_Ch_spread_L36 : Nat → Int32 → Int32 → (Nat → Nat → Int32) → (Nat → Nat → Int64) → Option ((Nat → Nat → Int32) × (Nat → Nat → Int64))
  | 0, _, _, _, _ => none
  | n + 1, l1, l2, I, L => (if l2 ≤ l1 then (some (I, L)) else (if (0 ≤ l2 ∧ l2 < (793 : Int32)) then (if (0 ≤ ((l2 - l1) - (1 : Int32)) ∧ ((l2 - l1) - (1 : Int32)) < (793 : Int32)) then (bnd ((L 27 (l2.toNatClampNeg)) - (L 27 (((l2 - l1) - (1 : Int32)).toNatClampNeg))) fun x5 => (if (0 ≤ l2 ∧ l2 < (793 : Int32)) then (f_Ch_spread_L36 n l1 (l2 + (-1 : Int32)) I (uL L 27 (l2.toNatClampNeg) x5)) else none)) else none) else none))
set_option maxRecDepth 100000 in
set_option maxHeartbeats 4000000 in
theorem x_Ch_spread_L36 {G : xG} {S : List xSh} {Rf : Nat → Nat → Option Nat} (hT : xTH S Rf) : ∀ (n : Nat) {l1 : Int32} {l2 : Int32} {I : Nat → Nat → Int32} {L : Nat → Nat → Int64} {q : ((Nat → Nat → Int32) × (Nat → Nat → Int64))}, f_Ch_spread_L36 n l1 l2 I L = some q → X G 1 m_Ch_spread 36 [(0, .ref (xP G 22)), (1, .int l1), (2, .int l2)] [] (S, I, L, Rf) (none, (S, q.1, q.2, Rf)) := by
  intro n
  induction n with
  | zero =>
    intro l1 l2 I L q hf
    exact absurd (show none = some q from hf) (by simp)
  | succ n ih =>
    intro l1 l2 I L q hf
    replace hf := (f_Ch_spread_L36.eq_2 _ _ _ _ _).symm.trans hf
    refine X_iload_n (pc := 36) (i := 2) 2 dX2_spread_36 rfl rfl ?_
    refine X_iload_n (pc := 37) (i := 1) 1 dX2_spread_37 rfl rfl ?_
    by_cases c2 : l2 ≤ l1
    · replace hf := (if_pos c2).symm.trans hf
      refine X_icmp_le_t (pc := 38) 66 dX2_spread_38 (by decide) c2 ?_
      cases hf
      exact X_return (pc := 66) rfl dX2_spread_66
    · replace hf := (if_neg c2).symm.trans hf
      refine X_icmp_le_f (pc := 38) 66 dX2_spread_38 (by decide) c2 ?_
      refine X_aload_n (pc := 41) (i := 0) 0 dX2_spread_41 rfl rfl ?_
      refine X_getr (pc := 42) (a := 22) (ci := 2) (j := 5) (c := 27) (sh_22 hT) (by decide) k_314 (rf_22_5 hT) (fun _ h => h) dX2_spread_42 ?_
      refine X_iload_n (pc := 45) (i := 2) 2 dX2_spread_45 rfl rfl ?_
      refine X_dup2 (pc := 46) dX2_spread_46 rfl rfl ?_
      obtain ⟨c3, hf⟩ := gd_some hf
      refine X_laldj (pc := 47) (j := l2.toNatClampNeg) (L 27 (l2.toNatClampNeg)) (sh_27 hT) (vp_in_lit (N := 793) c3 (by decide)) rfl rfl dX2_spread_47 ?_
      refine X_aload_n (pc := 48) (i := 0) 0 dX2_spread_48 rfl rfl ?_
      refine X_getr (pc := 49) (a := 22) (ci := 2) (j := 5) (c := 27) (sh_22 hT) (by decide) k_314 (rf_22_5 hT) (fun _ h => h) dX2_spread_49 ?_
      refine X_iload_n (pc := 52) (i := 2) 2 dX2_spread_52 rfl rfl ?_
      refine X_iload_n (pc := 53) (i := 1) 1 dX2_spread_53 rfl rfl ?_
      refine X_isub (pc := 54) dX2_spread_54 ?_
      refine X_iconst (pc := 55) (1 : Int32) dX2_spread_55 (by decide) ?_
      refine X_isub (pc := 56) dX2_spread_56 ?_
      obtain ⟨c4, hf⟩ := gd_some hf
      refine X_laldj (pc := 57) (j := ((l2 - l1) - (1 : Int32)).toNatClampNeg) (L 27 (((l2 - l1) - (1 : Int32)).toNatClampNeg)) (sh_27 hT) (vp_in_lit (N := 793) c4 (by decide)) rfl rfl dX2_spread_57 ?_
      refine X_lsub (pc := 58) dX2_spread_58 ?_
      obtain ⟨x5, ex5, hf⟩ := bnd_e hf
      refine X_tople ex5 ?_
      obtain ⟨c6, hf⟩ := gd_some hf
      refine X_lastj (pc := 59) (j := (l2.toNatClampNeg)) (sh_27 hT) (vp_in_lit (N := 793) c6 (by decide)) rfl dX2_spread_59 ?_
      refine X_iinc (pc := 60) (i := 2) (q := 2) (v := (l2 + (-1 : Int32))) [(2, .int (l2 + (-1 : Int32))), (0, .ref (xP G 22)), (1, .int l1)] dX2_spread_60 rfl rfl (by decide) rfl ?_
      refine X_goto (pc := 63) 36 dX2_spread_63 (by decide) ?_
      exact X_lvs [1, 2, 0] rfl (ih hf)
theorem u_Ch_spread_L36 {S : List xSh} : ∀ (n : Nat) {l1 : Int32} {l2 : Int32} {I : Nat → Nat → Int32} {L : Nat → Nat → Int64} {q : ((Nat → Nat → Int32) × (Nat → Nat → Int64))}, f_Ch_spread_L36 n l1 l2 I L = some q → FR S [] [27] I q.1 L q.2 := by
  intro n
  induction n with
  | zero =>
    intro l1 l2 I L q hf
    exact absurd (show none = some q from hf) (by simp)
  | succ n ih =>
    intro l1 l2 I L q hf
    replace hf := (f_Ch_spread_L36.eq_2 _ _ _ _ _).symm.trans hf
    by_cases c2 : l2 ≤ l1
    · replace hf := (if_pos c2).symm.trans hf
      cases hf
      exact FR.rf
    · replace hf := (if_neg c2).symm.trans hf
      obtain ⟨c3, hf⟩ := gd_some hf
      obtain ⟨c4, hf⟩ := gd_some hf
      obtain ⟨x5, ex5, hf⟩ := bnd_e hf
      obtain ⟨c6, hf⟩ := gd_some hf
      exact FR.tr (FR.al FR.rf (by decide)) (ih hf) (by decide) (by decide)
def f_Ch_spread_L2 : Nat → Int32 → Int32 → (Nat → Nat → Int32) → (Nat → Nat → Int64) → Option ((Nat → Nat → Int32) × (Nat → Nat → Int64))
  | 0, _, _, _, _ => none
  | n + 1, l1, l2, I, L => (if (793 : Int32) ≤ l2 then (f_Ch_spread_L36 xF l1 (792 : Int32) I L) else (if (0 ≤ l2 ∧ l2 < (793 : Int32)) then (if (0 ≤ (l2 - (1 : Int32)) ∧ (l2 - (1 : Int32)) < (793 : Int32)) then (bnd ((L 27 (l2.toNatClampNeg)) + (L 27 ((l2 - (1 : Int32)).toNatClampNeg))) fun x9 => (if (0 ≤ l2 ∧ l2 < (793 : Int32)) then (f_Ch_spread_L2 n l1 (l2 + (1 : Int32)) I (uL L 27 (l2.toNatClampNeg) x9)) else none)) else none) else none))
set_option maxRecDepth 100000 in
set_option maxHeartbeats 4000000 in
theorem x_Ch_spread_L2 {G : xG} {S : List xSh} {Rf : Nat → Nat → Option Nat} (hT : xTH S Rf) : ∀ (n : Nat) {l1 : Int32} {l2 : Int32} {I : Nat → Nat → Int32} {L : Nat → Nat → Int64} {q : ((Nat → Nat → Int32) × (Nat → Nat → Int64))}, f_Ch_spread_L2 n l1 l2 I L = some q → X G 1 m_Ch_spread 2 [(0, .ref (xP G 22)), (1, .int l1), (2, .int l2)] [] (S, I, L, Rf) (none, (S, q.1, q.2, Rf)) := by
  intro n
  induction n with
  | zero =>
    intro l1 l2 I L q hf
    exact absurd (show none = some q from hf) (by simp)
  | succ n ih =>
    intro l1 l2 I L q hf
    replace hf := (f_Ch_spread_L2.eq_2 _ _ _ _ _).symm.trans hf
    refine X_iload_n (pc := 2) (i := 2) 2 dX2_spread_2 rfl rfl ?_
    refine X_sipush (pc := 3) (793 : Int32) dX2_spread_3 (by decide) ?_
    by_cases c1 : (793 : Int32) ≤ l2
    · replace hf := (if_pos c1).symm.trans hf
      refine X_icmp_ge_t (pc := 6) 32 dX2_spread_6 (by decide) c1 ?_
      refine X_sipush (pc := 32) (792 : Int32) dX2_spread_32 (by decide) ?_
      refine X_istore_n (pc := 35) (i := 2) [(2, .int (792 : Int32)), (0, .ref (xP G 22)), (1, .int l1)] dX2_spread_35 rfl (by decide) rfl ?_
      exact X_lvs [1, 2, 0] rfl (x_Ch_spread_L36 hT xF hf)
    · replace hf := (if_neg c1).symm.trans hf
      refine X_icmp_ge_f (pc := 6) 32 dX2_spread_6 (by decide) c1 ?_
      refine X_aload_n (pc := 9) (i := 0) 0 dX2_spread_9 rfl rfl ?_
      refine X_getr (pc := 10) (a := 22) (ci := 2) (j := 5) (c := 27) (sh_22 hT) (by decide) k_314 (rf_22_5 hT) (fun _ h => h) dX2_spread_10 ?_
      refine X_iload_n (pc := 13) (i := 2) 2 dX2_spread_13 rfl rfl ?_
      refine X_dup2 (pc := 14) dX2_spread_14 rfl rfl ?_
      obtain ⟨c7, hf⟩ := gd_some hf
      refine X_laldj (pc := 15) (j := l2.toNatClampNeg) (L 27 (l2.toNatClampNeg)) (sh_27 hT) (vp_in_lit (N := 793) c7 (by decide)) rfl rfl dX2_spread_15 ?_
      refine X_aload_n (pc := 16) (i := 0) 0 dX2_spread_16 rfl rfl ?_
      refine X_getr (pc := 17) (a := 22) (ci := 2) (j := 5) (c := 27) (sh_22 hT) (by decide) k_314 (rf_22_5 hT) (fun _ h => h) dX2_spread_17 ?_
      refine X_iload_n (pc := 20) (i := 2) 2 dX2_spread_20 rfl rfl ?_
      refine X_iconst (pc := 21) (1 : Int32) dX2_spread_21 (by decide) ?_
      refine X_isub (pc := 22) dX2_spread_22 ?_
      obtain ⟨c8, hf⟩ := gd_some hf
      refine X_laldj (pc := 23) (j := (l2 - (1 : Int32)).toNatClampNeg) (L 27 ((l2 - (1 : Int32)).toNatClampNeg)) (sh_27 hT) (vp_in_lit (N := 793) c8 (by decide)) rfl rfl dX2_spread_23 ?_
      refine X_ladd (pc := 24) dX2_spread_24 ?_
      obtain ⟨x9, ex9, hf⟩ := bnd_e hf
      refine X_tople ex9 ?_
      obtain ⟨c10, hf⟩ := gd_some hf
      refine X_lastj (pc := 25) (j := (l2.toNatClampNeg)) (sh_27 hT) (vp_in_lit (N := 793) c10 (by decide)) rfl dX2_spread_25 ?_
      refine X_iinc (pc := 26) (i := 2) (q := 2) (v := (l2 + (1 : Int32))) [(2, .int (l2 + (1 : Int32))), (0, .ref (xP G 22)), (1, .int l1)] dX2_spread_26 rfl rfl (by decide) rfl ?_
      refine X_goto (pc := 29) 2 dX2_spread_29 (by decide) ?_
      exact X_lvs [1, 2, 0] rfl (ih hf)
theorem u_Ch_spread_L2 {S : List xSh} : ∀ (n : Nat) {l1 : Int32} {l2 : Int32} {I : Nat → Nat → Int32} {L : Nat → Nat → Int64} {q : ((Nat → Nat → Int32) × (Nat → Nat → Int64))}, f_Ch_spread_L2 n l1 l2 I L = some q → FR S [] [27] I q.1 L q.2 := by
  intro n
  induction n with
  | zero =>
    intro l1 l2 I L q hf
    exact absurd (show none = some q from hf) (by simp)
  | succ n ih =>
    intro l1 l2 I L q hf
    replace hf := (f_Ch_spread_L2.eq_2 _ _ _ _ _).symm.trans hf
    by_cases c1 : (793 : Int32) ≤ l2
    · replace hf := (if_pos c1).symm.trans hf
      exact FR.tr FR.rf (u_Ch_spread_L36 xF hf) (by decide) (by decide)
    · replace hf := (if_neg c1).symm.trans hf
      obtain ⟨c7, hf⟩ := gd_some hf
      obtain ⟨c8, hf⟩ := gd_some hf
      obtain ⟨x9, ex9, hf⟩ := bnd_e hf
      obtain ⟨c10, hf⟩ := gd_some hf
      exact FR.tr (FR.al FR.rf (by decide)) (ih hf) (by decide) (by decide)
def f_Ch_spread (a0 : Int32) (I : Nat → Nat → Int32) (L : Nat → Nat → Int64) : Option ((Nat → Nat → Int32) × (Nat → Nat → Int64)) := (f_Ch_spread_L2 xF a0 (1 : Int32) I L)
set_option maxRecDepth 100000 in
set_option maxHeartbeats 4000000 in
theorem c_Ch_spread {G : xG} {S : List xSh} {Rf : Nat → Nat → Option Nat} (hT : xTH S Rf) {a0 : Int32} {I : Nat → Nat → Int32} {L : Nat → Nat → Int64} {q : ((Nat → Nat → Int32) × (Nat → Nat → Int64))} (hf : f_Ch_spread a0 I L = some q) : CT G 1 m_Ch_spread [.ref (xP G 22), .int a0] (S, I, L, Rf) (none, (S, q.1, q.2, Rf)) := by
  refine CT.of (by decide +kernel) (Nat.le_of_ble_eq_true rfl) ?_
  show X G 1 m_Ch_spread 0 [(0, .ref (xP G 22)), (1, .int a0)] [] (S, I, L, Rf) (none, (S, q.1, q.2, Rf))
  replace hf := (f_Ch_spread.eq_1 _ _ _).symm.trans hf
  refine X_iconst (pc := 0) (1 : Int32) dX2_spread_0 (by decide) ?_
  refine X_istore_n (pc := 1) (i := 2) [(2, .int (1 : Int32)), (0, .ref (xP G 22)), (1, .int a0)] dX2_spread_1 rfl (by decide) rfl ?_
  exact X_lvs [1, 2, 0] rfl (x_Ch_spread_L2 hT xF hf)
theorem u_Ch_spread {S : List xSh} {a0 : Int32} {I : Nat → Nat → Int32} {L : Nat → Nat → Int64} {q : ((Nat → Nat → Int32) × (Nat → Nat → Int64))} (hf : f_Ch_spread a0 I L = some q) : FR S [] [27] I q.1 L q.2 := by
  replace hf := (f_Ch_spread.eq_1 _ _ _).symm.trans hf
  exact FR.tr FR.rf (u_Ch_spread_L2 xF hf) (by decide) (by decide)
theorem dX2_countWays_0 : decode cX2_countWays 0 = .ok (.aload_n 0, 1) := by decide +kernel
theorem dX2_countWays_1 : decode cX2_countWays 1 = .ok (.getfield 24, 3) := by decide +kernel
theorem dX2_countWays_4 : decode cX2_countWays 4 = .ok (.lconst 0, 1) := by decide +kernel
theorem dX2_countWays_5 : decode cX2_countWays 5 = .ok (.invokestatic 32, 3) := by decide +kernel
theorem dX2_countWays_8 : decode cX2_countWays 8 = .ok (.aload_n 0, 1) := by decide +kernel
theorem dX2_countWays_9 : decode cX2_countWays 9 = .ok (.getfield 24, 3) := by decide +kernel
theorem dX2_countWays_12 : decode cX2_countWays 12 = .ok (.iconst 0, 1) := by decide +kernel
theorem dX2_countWays_13 : decode cX2_countWays 13 = .ok (.lconst 1, 1) := by decide +kernel
theorem dX2_countWays_14 : decode cX2_countWays 14 = .ok (.lastore, 1) := by decide +kernel
theorem dX2_countWays_15 : decode cX2_countWays 15 = .ok (.iconst 0, 1) := by decide +kernel
theorem dX2_countWays_16 : decode cX2_countWays 16 = .ok (.istore_n 3, 1) := by decide +kernel
theorem dX2_countWays_17 : decode cX2_countWays 17 = .ok (.iload_n 3, 1) := by decide +kernel
theorem dX2_countWays_18 : decode cX2_countWays 18 = .ok (.aload_n 0, 1) := by decide +kernel
theorem dX2_countWays_19 : decode cX2_countWays 19 = .ok (.getfield 28, 3) := by decide +kernel
theorem dX2_countWays_22 : decode cX2_countWays 22 = .ok (.if_icmp .ge 26, 3) := by decide +kernel
theorem dX2_countWays_25 : decode cX2_countWays 25 = .ok (.aload_n 0, 1) := by decide +kernel
theorem dX2_countWays_26 : decode cX2_countWays 26 = .ok (.aload_n 0, 1) := by decide +kernel
theorem dX2_countWays_27 : decode cX2_countWays 27 = .ok (.getfield 21, 3) := by decide +kernel
theorem dX2_countWays_30 : decode cX2_countWays 30 = .ok (.iload_n 3, 1) := by decide +kernel
theorem dX2_countWays_31 : decode cX2_countWays 31 = .ok (.iaload, 1) := by decide +kernel
theorem dX2_countWays_32 : decode cX2_countWays 32 = .ok (.aload_n 0, 1) := by decide +kernel
theorem dX2_countWays_33 : decode cX2_countWays 33 = .ok (.getfield 18, 3) := by decide +kernel
theorem dX2_countWays_36 : decode cX2_countWays 36 = .ok (.iload_n 3, 1) := by decide +kernel
theorem dX2_countWays_37 : decode cX2_countWays 37 = .ok (.iaload, 1) := by decide +kernel
theorem dX2_countWays_38 : decode cX2_countWays 38 = .ok (.isub, 1) := by decide +kernel
theorem dX2_countWays_39 : decode cX2_countWays 39 = .ok (.invokevirtual 38, 3) := by decide +kernel
theorem dX2_countWays_42 : decode cX2_countWays 42 = .ok (.iinc 3 1, 3) := by decide +kernel
theorem dX2_countWays_45 : decode cX2_countWays 45 = .ok (.goto (-28), 3) := by decide +kernel
theorem dX2_countWays_48 : decode cX2_countWays 48 = .ok (.aload_n 0, 1) := by decide +kernel
theorem dX2_countWays_49 : decode cX2_countWays 49 = .ok (.iconst 0, 1) := by decide +kernel
theorem dX2_countWays_50 : decode cX2_countWays 50 = .ok (.invokevirtual 42, 3) := by decide +kernel
theorem dX2_countWays_53 : decode cX2_countWays 53 = .ok (.i2l, 1) := by decide +kernel
theorem dX2_countWays_54 : decode cX2_countWays 54 = .ok (.lstore_n 3, 1) := by decide +kernel
theorem dX2_countWays_55 : decode cX2_countWays 55 = .ok (.lconst 0, 1) := by decide +kernel
theorem dX2_countWays_56 : decode cX2_countWays 56 = .ok (.lstore 5, 2) := by decide +kernel
theorem dX2_countWays_58 : decode cX2_countWays 58 = .ok (.iconst 0, 1) := by decide +kernel
theorem dX2_countWays_59 : decode cX2_countWays 59 = .ok (.istore 7, 2) := by decide +kernel
theorem dX2_countWays_61 : decode cX2_countWays 61 = .ok (.iload 7, 2) := by decide +kernel
theorem dX2_countWays_63 : decode cX2_countWays 63 = .ok (.sipush 793, 3) := by decide +kernel
theorem dX2_countWays_66 : decode cX2_countWays 66 = .ok (.if_icmp .ge 43, 3) := by decide +kernel
theorem dX2_countWays_69 : decode cX2_countWays 69 = .ok (.lload_n 3, 1) := by decide +kernel
theorem dX2_countWays_70 : decode cX2_countWays 70 = .ok (.iload 7, 2) := by decide +kernel
theorem dX2_countWays_72 : decode cX2_countWays 72 = .ok (.i2l, 1) := by decide +kernel
theorem dX2_countWays_73 : decode cX2_countWays 73 = .ok (.ladd, 1) := by decide +kernel
theorem dX2_countWays_74 : decode cX2_countWays 74 = .ok (.iload_n 1, 1) := by decide +kernel
theorem dX2_countWays_75 : decode cX2_countWays 75 = .ok (.i2l, 1) := by decide +kernel
theorem dX2_countWays_76 : decode cX2_countWays 76 = .ok (.lcmp, 1) := by decide +kernel
theorem dX2_countWays_77 : decode cX2_countWays 77 = .ok (.ifCond .lt 26, 3) := by decide +kernel
theorem dX2_countWays_80 : decode cX2_countWays 80 = .ok (.lload_n 3, 1) := by decide +kernel
theorem dX2_countWays_81 : decode cX2_countWays 81 = .ok (.iload 7, 2) := by decide +kernel
theorem dX2_countWays_83 : decode cX2_countWays 83 = .ok (.i2l, 1) := by decide +kernel
theorem dX2_countWays_84 : decode cX2_countWays 84 = .ok (.ladd, 1) := by decide +kernel
theorem dX2_countWays_85 : decode cX2_countWays 85 = .ok (.iload_n 2, 1) := by decide +kernel
theorem dX2_countWays_86 : decode cX2_countWays 86 = .ok (.i2l, 1) := by decide +kernel
theorem dX2_countWays_87 : decode cX2_countWays 87 = .ok (.lcmp, 1) := by decide +kernel
theorem dX2_countWays_88 : decode cX2_countWays 88 = .ok (.ifCond .gt 15, 3) := by decide +kernel
theorem dX2_countWays_91 : decode cX2_countWays 91 = .ok (.lload 5, 2) := by decide +kernel
theorem dX2_countWays_93 : decode cX2_countWays 93 = .ok (.aload_n 0, 1) := by decide +kernel
theorem dX2_countWays_94 : decode cX2_countWays 94 = .ok (.getfield 24, 3) := by decide +kernel
theorem dX2_countWays_97 : decode cX2_countWays 97 = .ok (.iload 7, 2) := by decide +kernel
theorem dX2_countWays_99 : decode cX2_countWays 99 = .ok (.laload, 1) := by decide +kernel
theorem dX2_countWays_100 : decode cX2_countWays 100 = .ok (.ladd, 1) := by decide +kernel
theorem dX2_countWays_101 : decode cX2_countWays 101 = .ok (.lstore 5, 2) := by decide +kernel
theorem dX2_countWays_103 : decode cX2_countWays 103 = .ok (.iinc 7 1, 3) := by decide +kernel
theorem dX2_countWays_106 : decode cX2_countWays 106 = .ok (.goto (-45), 3) := by decide +kernel
theorem dX2_countWays_109 : decode cX2_countWays 109 = .ok (.lload 5, 2) := by decide +kernel
theorem dX2_countWays_111 : decode cX2_countWays 111 = .ok (.lreturn, 1) := by decide +kernel
def f_Ch_countWays_L61 : Nat → Int32 → Int32 → Int64 → Int64 → Int32 → (Nat → Nat → Int32) → (Nat → Nat → Int64) → Option (Int64 × (Nat → Nat → Int32) × (Nat → Nat → Int64))
  | 0, _, _, _, _, _, _, _ => none
  | n + 1, l1, l2, l3, l5, l7, I, L => (if (793 : Int32) ≤ l7 then (some (l5, I, L)) else (if (l3 + (Int32.toInt64 l7)) < (Int32.toInt64 l1) then (f_Ch_countWays_L61 n l1 l2 l3 l5 (l7 + (1 : Int32)) I L) else (if (Int32.toInt64 l2) < (l3 + (Int32.toInt64 l7)) then (f_Ch_countWays_L61 n l1 l2 l3 l5 (l7 + (1 : Int32)) I L) else (if (0 ≤ l7 ∧ l7 < (793 : Int32)) then (bnd (l5 + (L 27 (l7.toNatClampNeg))) fun x11 => (f_Ch_countWays_L61 n l1 l2 l3 x11 (l7 + (1 : Int32)) I L)) else none))))
set_option maxRecDepth 100000 in
set_option maxHeartbeats 4000000 in
theorem x_Ch_countWays_L61 {G : xG} {S : List xSh} {Rf : Nat → Nat → Option Nat} (hT : xTH S Rf) : ∀ (n : Nat) {l1 : Int32} {l2 : Int32} {l3 : Int64} {l5 : Int64} {l7 : Int32} {I : Nat → Nat → Int32} {L : Nat → Nat → Int64} {q : (Int64 × (Nat → Nat → Int32) × (Nat → Nat → Int64))}, f_Ch_countWays_L61 n l1 l2 l3 l5 l7 I L = some q → X G 2 m_Ch_countWays 61 [(0, .ref (xP G 22)), (1, .int l1), (2, .int l2), (3, .long l3), (5, .long l5), (7, .int l7)] [] (S, I, L, Rf) (some (.long q.1), (S, q.2.1, q.2.2, Rf)) := by
  intro n
  induction n with
  | zero =>
    intro l1 l2 l3 l5 l7 I L q hf
    exact absurd (show none = some q from hf) (by simp)
  | succ n ih =>
    intro l1 l2 l3 l5 l7 I L q hf
    replace hf := (f_Ch_countWays_L61.eq_2 _ _ _ _ _ _ _ _).symm.trans hf
    refine X_iload (pc := 61) 5 dX2_countWays_61 rfl ?_
    refine X_sipush (pc := 63) (793 : Int32) dX2_countWays_63 (by decide) ?_
    by_cases c7 : (793 : Int32) ≤ l7
    · replace hf := (if_pos c7).symm.trans hf
      refine X_icmp_ge_t (pc := 66) 109 dX2_countWays_66 (by decide) c7 ?_
      refine X_lload (pc := 109) 4 dX2_countWays_109 rfl ?_
      cases hf
      exact X_lreturn (pc := 111) rfl dX2_countWays_111
    · replace hf := (if_neg c7).symm.trans hf
      refine X_icmp_ge_f (pc := 66) 109 dX2_countWays_66 (by decide) c7 ?_
      refine X_lload_n (pc := 69) (i := 3) 3 dX2_countWays_69 rfl rfl ?_
      refine X_iload (pc := 70) 5 dX2_countWays_70 rfl ?_
      refine X_i2l (pc := 72) dX2_countWays_72 ?_
      refine X_ladd (pc := 73) dX2_countWays_73 ?_
      refine X_iload_n (pc := 74) (i := 1) 1 dX2_countWays_74 rfl rfl ?_
      refine X_i2l (pc := 75) dX2_countWays_75 ?_
      refine X_lcmp (pc := 76) dX2_countWays_76 ?_
      by_cases c8 : (l3 + (Int32.toInt64 l7)) < (Int32.toInt64 l1)
      · replace hf := (if_pos c8).symm.trans hf
        refine X_if_lt_t (pc := 77) 103 dX2_countWays_77 (by decide) ((lg_cmp_lt _ _).mpr c8) ?_
        refine X_iinc (pc := 103) (i := 7) (q := 5) (v := (l7 + (1 : Int32))) [(7, .int (l7 + (1 : Int32))), (0, .ref (xP G 22)), (1, .int l1), (2, .int l2), (3, .long l3), (5, .long l5)] dX2_countWays_103 rfl rfl (by decide) rfl ?_
        refine X_goto (pc := 106) 61 dX2_countWays_106 (by decide) ?_
        exact X_lvs [1, 2, 3, 4, 5, 0] rfl (ih hf)
      · replace hf := (if_neg c8).symm.trans hf
        refine X_if_lt_f (pc := 77) 103 dX2_countWays_77 (by decide) (fun h => c8 ((lg_cmp_lt _ _).mp h)) ?_
        refine X_lload_n (pc := 80) (i := 3) 3 dX2_countWays_80 rfl rfl ?_
        refine X_iload (pc := 81) 5 dX2_countWays_81 rfl ?_
        refine X_i2l (pc := 83) dX2_countWays_83 ?_
        refine X_ladd (pc := 84) dX2_countWays_84 ?_
        refine X_iload_n (pc := 85) (i := 2) 2 dX2_countWays_85 rfl rfl ?_
        refine X_i2l (pc := 86) dX2_countWays_86 ?_
        refine X_lcmp (pc := 87) dX2_countWays_87 ?_
        by_cases c9 : (Int32.toInt64 l2) < (l3 + (Int32.toInt64 l7))
        · replace hf := (if_pos c9).symm.trans hf
          refine X_if_gt_t (pc := 88) 103 dX2_countWays_88 (by decide) ((lg_cmp_gt _ _).mpr c9) ?_
          refine X_iinc (pc := 103) (i := 7) (q := 5) (v := (l7 + (1 : Int32))) [(7, .int (l7 + (1 : Int32))), (0, .ref (xP G 22)), (1, .int l1), (2, .int l2), (3, .long l3), (5, .long l5)] dX2_countWays_103 rfl rfl (by decide) rfl ?_
          refine X_goto (pc := 106) 61 dX2_countWays_106 (by decide) ?_
          exact X_lvs [1, 2, 3, 4, 5, 0] rfl (ih hf)
        · replace hf := (if_neg c9).symm.trans hf
          refine X_if_gt_f (pc := 88) 103 dX2_countWays_88 (by decide) (fun h => c9 ((lg_cmp_gt _ _).mp h)) ?_
          refine X_lload (pc := 91) 4 dX2_countWays_91 rfl ?_
          refine X_aload_n (pc := 93) (i := 0) 0 dX2_countWays_93 rfl rfl ?_
          refine X_getr (pc := 94) (a := 22) (ci := 2) (j := 5) (c := 27) (sh_22 hT) (by decide) k_314 (rf_22_5 hT) (fun _ h => h) dX2_countWays_94 ?_
          refine X_iload (pc := 97) 5 dX2_countWays_97 rfl ?_
          obtain ⟨c10, hf⟩ := gd_some hf
          refine X_laldj (pc := 99) (j := l7.toNatClampNeg) (L 27 (l7.toNatClampNeg)) (sh_27 hT) (vp_in_lit (N := 793) c10 (by decide)) rfl rfl dX2_countWays_99 ?_
          refine X_ladd (pc := 100) dX2_countWays_100 ?_
          obtain ⟨x11, ex11, hf⟩ := bnd_e hf
          refine X_tople ex11 ?_
          refine X_lstore (pc := 101) [(5, .long x11), (0, .ref (xP G 22)), (1, .int l1), (2, .int l2), (3, .long l3), (7, .int l7)] dX2_countWays_101 (by decide) rfl ?_
          refine X_iinc (pc := 103) (i := 7) (q := 5) (v := (l7 + (1 : Int32))) [(7, .int (l7 + (1 : Int32))), (5, .long x11), (0, .ref (xP G 22)), (1, .int l1), (2, .int l2), (3, .long l3)] dX2_countWays_103 rfl rfl (by decide) rfl ?_
          refine X_goto (pc := 106) 61 dX2_countWays_106 (by decide) ?_
          exact X_lvs [2, 3, 4, 5, 1, 0] rfl (ih hf)
theorem u_Ch_countWays_L61 {S : List xSh} : ∀ (n : Nat) {l1 : Int32} {l2 : Int32} {l3 : Int64} {l5 : Int64} {l7 : Int32} {I : Nat → Nat → Int32} {L : Nat → Nat → Int64} {q : (Int64 × (Nat → Nat → Int32) × (Nat → Nat → Int64))}, f_Ch_countWays_L61 n l1 l2 l3 l5 l7 I L = some q → FR S [] [27] I q.2.1 L q.2.2 := by
  intro n
  induction n with
  | zero =>
    intro l1 l2 l3 l5 l7 I L q hf
    exact absurd (show none = some q from hf) (by simp)
  | succ n ih =>
    intro l1 l2 l3 l5 l7 I L q hf
    replace hf := (f_Ch_countWays_L61.eq_2 _ _ _ _ _ _ _ _).symm.trans hf
    by_cases c7 : (793 : Int32) ≤ l7
    · replace hf := (if_pos c7).symm.trans hf
      cases hf
      exact FR.rf
    · replace hf := (if_neg c7).symm.trans hf
      by_cases c8 : (l3 + (Int32.toInt64 l7)) < (Int32.toInt64 l1)
      · replace hf := (if_pos c8).symm.trans hf
        exact FR.tr FR.rf (ih hf) (by decide) (by decide)
      · replace hf := (if_neg c8).symm.trans hf
        by_cases c9 : (Int32.toInt64 l2) < (l3 + (Int32.toInt64 l7))
        · replace hf := (if_pos c9).symm.trans hf
          exact FR.tr FR.rf (ih hf) (by decide) (by decide)
        · replace hf := (if_neg c9).symm.trans hf
          obtain ⟨c10, hf⟩ := gd_some hf
          obtain ⟨x11, ex11, hf⟩ := bnd_e hf
          exact FR.tr FR.rf (ih hf) (by decide) (by decide)
def f_Ch_countWays_L17 : Nat → Int32 → Int32 → Int32 → (Nat → Nat → Int32) → (Nat → Nat → Int64) → Option (Int64 × (Nat → Nat → Int32) × (Nat → Nat → Int64))
  | 0, _, _, _, _, _ => none
  | n + 1, l1, l2, l3, I, L => (if (I 22 0) ≤ l3 then ((f_Ch_extreme (0 : Int32) I L).bind fun q4 => (bnd (Int32.toInt64 q4) fun x6 => (f_Ch_countWays_L61 xF l1 l2 x6 (0 : Int64) (0 : Int32) I L))) else (if (0 ≤ l3 ∧ l3 < (8 : Int32)) then (if (0 ≤ l3 ∧ l3 < (8 : Int32)) then ((f_Ch_spread ((I 26 (l3.toNatClampNeg)) - (I 25 (l3.toNatClampNeg))) I L).bind fun q14 => (f_Ch_countWays_L17 n l1 l2 (l3 + (1 : Int32)) q14.1 q14.2)) else none) else none))
set_option maxRecDepth 100000 in
set_option maxHeartbeats 4000000 in
theorem x_Ch_countWays_L17 {G : xG} {S : List xSh} {Rf : Nat → Nat → Option Nat} (hT : xTH S Rf) : ∀ (n : Nat) {l1 : Int32} {l2 : Int32} {l3 : Int32} {I : Nat → Nat → Int32} {L : Nat → Nat → Int64} {q : (Int64 × (Nat → Nat → Int32) × (Nat → Nat → Int64))}, f_Ch_countWays_L17 n l1 l2 l3 I L = some q → X G 2 m_Ch_countWays 17 [(0, .ref (xP G 22)), (1, .int l1), (2, .int l2), (3, .int l3)] [] (S, I, L, Rf) (some (.long q.1), (S, q.2.1, q.2.2, Rf)) := by
  intro n
  induction n with
  | zero =>
    intro l1 l2 l3 I L q hf
    exact absurd (show none = some q from hf) (by simp)
  | succ n ih =>
    intro l1 l2 l3 I L q hf
    replace hf := (f_Ch_countWays_L17.eq_2 _ _ _ _ _ _).symm.trans hf
    refine X_iload_n (pc := 17) (i := 3) 3 dX2_countWays_17 rfl rfl ?_
    refine X_aload_n (pc := 18) (i := 0) 0 dX2_countWays_18 rfl rfl ?_
    refine X_get (pc := 19) (a := 22) (ci := 2) (j := 0) (.int (I 22 0)) (sh_22 hT) (by decide) k_308 rfl dX2_countWays_19 ?_
    by_cases c3 : (I 22 0) ≤ l3
    · replace hf := (if_pos c3).symm.trans hf
      refine X_icmp_ge_t (pc := 22) 48 dX2_countWays_22 (by decide) c3 ?_
      refine X_aload_n (pc := 48) (i := 0) 0 dX2_countWays_48 rfl rfl ?_
      refine X_iconst (pc := 49) (0 : Int32) dX2_countWays_49 (by decide) ?_
      obtain ⟨q4, c5, hf⟩ := bd_some hf
      refine X_invV_i (pc := 50) (c_Ch_extreme hT c5) ok_Ch_extreme (ci := 2) (sh_22 hT) k_1089 k_1072 k_1073 nd_8 (by decide) rfl (Nat.le_of_ble_eq_true rfl) dX2_countWays_50 ?_
      refine X_i2l (pc := 53) dX2_countWays_53 ?_
      obtain ⟨x6, ex6, hf⟩ := bnd_e hf
      refine X_tople ex6 ?_
      refine X_lstore_n (pc := 54) (i := 3) [(3, .long x6), (0, .ref (xP G 22)), (1, .int l1), (2, .int l2)] dX2_countWays_54 rfl (by decide) rfl ?_
      refine X_lconst (pc := 55) (0 : Int64) dX2_countWays_55 (by decide) ?_
      refine X_lstore (pc := 56) [(5, .long (0 : Int64)), (3, .long x6), (0, .ref (xP G 22)), (1, .int l1), (2, .int l2)] dX2_countWays_56 (by decide) rfl ?_
      refine X_iconst (pc := 58) (0 : Int32) dX2_countWays_58 (by decide) ?_
      refine X_istore (pc := 59) [(7, .int (0 : Int32)), (5, .long (0 : Int64)), (3, .long x6), (0, .ref (xP G 22)), (1, .int l1), (2, .int l2)] dX2_countWays_59 (by decide) rfl ?_
      exact X_lvs [3, 4, 5, 2, 1, 0] rfl (x_Ch_countWays_L61 hT xF hf)
    · replace hf := (if_neg c3).symm.trans hf
      refine X_icmp_ge_f (pc := 22) 48 dX2_countWays_22 (by decide) c3 ?_
      refine X_aload_n (pc := 25) (i := 0) 0 dX2_countWays_25 rfl rfl ?_
      refine X_aload_n (pc := 26) (i := 0) 0 dX2_countWays_26 rfl rfl ?_
      refine X_getr (pc := 27) (a := 22) (ci := 2) (j := 4) (c := 26) (sh_22 hT) (by decide) k_313 (rf_22_4 hT) (fun _ h => h) dX2_countWays_27 ?_
      refine X_iload_n (pc := 30) (i := 3) 3 dX2_countWays_30 rfl rfl ?_
      obtain ⟨c12, hf⟩ := gd_some hf
      refine X_ialdj (pc := 31) (j := l3.toNatClampNeg) (I 26 (l3.toNatClampNeg)) (sh_26 hT) (vp_in_lit (N := 8) c12 (by decide)) rfl rfl dX2_countWays_31 ?_
      refine X_aload_n (pc := 32) (i := 0) 0 dX2_countWays_32 rfl rfl ?_
      refine X_getr (pc := 33) (a := 22) (ci := 2) (j := 3) (c := 25) (sh_22 hT) (by decide) k_312 (rf_22_3 hT) (fun _ h => h) dX2_countWays_33 ?_
      refine X_iload_n (pc := 36) (i := 3) 3 dX2_countWays_36 rfl rfl ?_
      obtain ⟨c13, hf⟩ := gd_some hf
      refine X_ialdj (pc := 37) (j := l3.toNatClampNeg) (I 25 (l3.toNatClampNeg)) (sh_25 hT) (vp_in_lit (N := 8) c13 (by decide)) rfl rfl dX2_countWays_37 ?_
      refine X_isub (pc := 38) dX2_countWays_38 ?_
      obtain ⟨q14, c15, hf⟩ := bd_some hf
      refine X_invV_v (pc := 39) (c_Ch_spread hT c15) ok_Ch_spread (ci := 2) (sh_22 hT) k_1085 k_1087 k_31 nd_13 (by decide) rfl (Nat.le_of_ble_eq_true rfl) dX2_countWays_39 ?_
      refine X_iinc (pc := 42) (i := 3) (q := 3) (v := (l3 + (1 : Int32))) [(3, .int (l3 + (1 : Int32))), (0, .ref (xP G 22)), (1, .int l1), (2, .int l2)] dX2_countWays_42 rfl rfl (by decide) rfl ?_
      refine X_goto (pc := 45) 17 dX2_countWays_45 (by decide) ?_
      exact X_lvs [1, 2, 3, 0] rfl (ih hf)
theorem u_Ch_countWays_L17 {S : List xSh} : ∀ (n : Nat) {l1 : Int32} {l2 : Int32} {l3 : Int32} {I : Nat → Nat → Int32} {L : Nat → Nat → Int64} {q : (Int64 × (Nat → Nat → Int32) × (Nat → Nat → Int64))}, f_Ch_countWays_L17 n l1 l2 l3 I L = some q → FR S [] [27] I q.2.1 L q.2.2 := by
  intro n
  induction n with
  | zero =>
    intro l1 l2 l3 I L q hf
    exact absurd (show none = some q from hf) (by simp)
  | succ n ih =>
    intro l1 l2 l3 I L q hf
    replace hf := (f_Ch_countWays_L17.eq_2 _ _ _ _ _ _).symm.trans hf
    by_cases c3 : (I 22 0) ≤ l3
    · replace hf := (if_pos c3).symm.trans hf
      obtain ⟨q4, c5, hf⟩ := bd_some hf
      obtain ⟨x6, ex6, hf⟩ := bnd_e hf
      exact FR.tr FR.rf (u_Ch_countWays_L61 xF hf) (by decide) (by decide)
    · replace hf := (if_neg c3).symm.trans hf
      obtain ⟨c12, hf⟩ := gd_some hf
      obtain ⟨c13, hf⟩ := gd_some hf
      obtain ⟨q14, c15, hf⟩ := bd_some hf
      exact FR.tr (FR.tr FR.rf (u_Ch_spread (q := q14) c15) (by decide) (by decide)) (ih hf) (by decide) (by decide)
def f_Ch_countWays (a0 : Int32) (a1 : Int32) (I : Nat → Nat → Int32) (L : Nat → Nat → Int64) : Option (Int64 × (Nat → Nat → Int32) × (Nat → Nat → Int64)) := ((f_Ar_fill_l_27 (0 : Int64) I L).bind fun q1 => (f_Ch_countWays_L17 xF a0 a1 (0 : Int32) q1.1 (uL q1.2 27 0 (1 : Int64))))
set_option maxRecDepth 100000 in
set_option maxHeartbeats 4000000 in
theorem c_Ch_countWays {G : xG} {S : List xSh} {Rf : Nat → Nat → Option Nat} (hT : xTH S Rf) {a0 : Int32} {a1 : Int32} {I : Nat → Nat → Int32} {L : Nat → Nat → Int64} {q : (Int64 × (Nat → Nat → Int32) × (Nat → Nat → Int64))} (hf : f_Ch_countWays a0 a1 I L = some q) : CT G 2 m_Ch_countWays [.ref (xP G 22), .int a0, .int a1] (S, I, L, Rf) (some (.long q.1), (S, q.2.1, q.2.2, Rf)) := by
  refine CT.of (by decide +kernel) (Nat.le_of_ble_eq_true rfl) ?_
  show X G 2 m_Ch_countWays 0 [(0, .ref (xP G 22)), (1, .int a0), (2, .int a1)] [] (S, I, L, Rf) (some (.long q.1), (S, q.2.1, q.2.2, Rf))
  replace hf := (f_Ch_countWays.eq_1 _ _ _ _).symm.trans hf
  refine X_aload_n (pc := 0) (i := 0) 0 dX2_countWays_0 rfl rfl ?_
  refine X_getr (pc := 1) (a := 22) (ci := 2) (j := 5) (c := 27) (sh_22 hT) (by decide) k_314 (rf_22_5 hT) (fun _ h => h) dX2_countWays_1 ?_
  refine X_lconst (pc := 4) (0 : Int64) dX2_countWays_4 (by decide) ?_
  obtain ⟨q1, c2, hf⟩ := bd_some hf
  refine X_invS_v (pc := 5) (c_Ar_fill_l_27 hT c2) ok_Ar_fill_l k_1084 k_476 nd_0 (by decide) rfl (Nat.le_of_ble_eq_true rfl) dX2_countWays_5 ?_
  refine X_aload_n (pc := 8) (i := 0) 0 dX2_countWays_8 rfl rfl ?_
  refine X_getr (pc := 9) (a := 22) (ci := 2) (j := 5) (c := 27) (sh_22 hT) (by decide) k_314 (rf_22_5 hT) (fun _ h => h) dX2_countWays_9 ?_
  refine X_iconst (pc := 12) (0 : Int32) dX2_countWays_12 (by decide) ?_
  refine X_lconst (pc := 13) (1 : Int64) dX2_countWays_13 (by decide) ?_
  refine X_lastj (pc := 14) (j := 0) (sh_27 hT) (vp_in_lit (N := 793) (by decide) (by decide)) (by decide) dX2_countWays_14 ?_
  refine X_iconst (pc := 15) (0 : Int32) dX2_countWays_15 (by decide) ?_
  refine X_istore_n (pc := 16) (i := 3) [(3, .int (0 : Int32)), (0, .ref (xP G 22)), (1, .int a0), (2, .int a1)] dX2_countWays_16 rfl (by decide) rfl ?_
  exact X_lvs [1, 2, 3, 0] rfl (x_Ch_countWays_L17 hT xF hf)
theorem u_Ch_countWays {S : List xSh} {a0 : Int32} {a1 : Int32} {I : Nat → Nat → Int32} {L : Nat → Nat → Int64} {q : (Int64 × (Nat → Nat → Int32) × (Nat → Nat → Int64))} (hf : f_Ch_countWays a0 a1 I L = some q) : FR S [] [27] I q.2.1 L q.2.2 := by
  replace hf := (f_Ch_countWays.eq_1 _ _ _ _).symm.trans hf
  obtain ⟨q1, c2, hf⟩ := bd_some hf
  exact FR.tr (FR.al (FR.tr FR.rf (u_Ar_fill_l_27 (q := q1) c2) (by decide) (by decide)) (by decide)) (u_Ch_countWays_L17 xF hf) (by decide) (by decide)

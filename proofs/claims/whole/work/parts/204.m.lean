theorem dX11_strike_0 : decode cX11_strike 0 = .ok (.aload_n 0, 1) := by decide +kernel
theorem dX11_strike_1 : decode cX11_strike 1 = .ok (.getfield 20, 3) := by decide +kernel
theorem dX11_strike_4 : decode cX11_strike 4 = .ok (.iload_n 1, 1) := by decide +kernel
theorem dX11_strike_5 : decode cX11_strike 5 = .ok (.invokevirtual 87, 3) := by decide +kernel
theorem dX11_strike_8 : decode cX11_strike 8 = .ok (.ifCond .eq 12, 3) := by decide +kernel
theorem dX11_strike_11 : decode cX11_strike 11 = .ok (.iload_n 2, 1) := by decide +kernel
theorem dX11_strike_12 : decode cX11_strike 12 = .ok (.iconst 0, 1) := by decide +kernel
theorem dX11_strike_13 : decode cX11_strike 13 = .ok (.iconst 1, 1) := by decide +kernel
theorem dX11_strike_14 : decode cX11_strike 14 = .ok (.invokestatic 91, 3) := by decide +kernel
theorem dX11_strike_17 : decode cX11_strike 17 = .ok (.ifCond .ne 5, 3) := by decide +kernel
theorem dX11_strike_20 : decode cX11_strike 20 = .ok (.iconst (-1), 1) := by decide +kernel
theorem dX11_strike_21 : decode cX11_strike 21 = .ok (.ireturn, 1) := by decide +kernel
theorem dX11_strike_22 : decode cX11_strike 22 = .ok (.aload_n 0, 1) := by decide +kernel
theorem dX11_strike_23 : decode cX11_strike 23 = .ok (.getfield 77, 3) := by decide +kernel
theorem dX11_strike_26 : decode cX11_strike 26 = .ok (.ifCond .eq 8, 3) := by decide +kernel
theorem dX11_strike_29 : decode cX11_strike 29 = .ok (.bipush (-2), 2) := by decide +kernel
theorem dX11_strike_31 : decode cX11_strike 31 = .ok (.goto 24, 3) := by decide +kernel
theorem dX11_strike_34 : decode cX11_strike 34 = .ok (.aload_n 0, 1) := by decide +kernel
theorem dX11_strike_35 : decode cX11_strike 35 = .ok (.new 130, 3) := by decide +kernel
theorem dX11_strike_38 : decode cX11_strike 38 = .ok (.dup, 1) := by decide +kernel
theorem dX11_strike_39 : decode cX11_strike 39 = .ok (.iload_n 1, 1) := by decide +kernel
theorem dX11_strike_40 : decode cX11_strike 40 = .ok (.iload_n 2, 1) := by decide +kernel
theorem dX11_strike_41 : decode cX11_strike 41 = .ok (.aload_n 0, 1) := by decide +kernel
theorem dX11_strike_42 : decode cX11_strike 42 = .ok (.getfield 132, 3) := by decide +kernel
theorem dX11_strike_45 : decode cX11_strike 45 = .ok (.aload_n 0, 1) := by decide +kernel
theorem dX11_strike_46 : decode cX11_strike 46 = .ok (.getfield 38, 3) := by decide +kernel
theorem dX11_strike_49 : decode cX11_strike 49 = .ok (.invokespecial 135, 3) := by decide +kernel
theorem dX11_strike_52 : decode cX11_strike 52 = .ok (.invokevirtual 118, 3) := by decide +kernel
theorem dX11_strike_55 : decode cX11_strike 55 = .ok (.ireturn, 1) := by decide +kernel
def f_H_strike (S : List xSh) (Rf : Nat → Nat → Option Nat) (a0 : Int32) (a1 : Int32) (I : Nat → Nat → Int32) (L : Nat → Nat → Int64) : Option (Int32 × xH) := (if (f_Ge_hasArbor a0 I L) = (0 : Int32) then (some ((-1 : Int32), S, I, L, Rf)) else (bnd (f_H_isWithin a1 (0 : Int32) (1 : Int32)) fun x2 => (if x2 = (0 : Int32) then (some ((-1 : Int32), S, I, L, Rf)) else (if (I 0 8) = (0 : Int32) then ((f_St_init_13 (List.length S) a0 a1 ((uZ I (List.length S) 0) 0 6) (uZ I (List.length S) 0) (uZ L (List.length S) 0)).bind fun q5 => ((f_H_hang_S (S ++ [.inl 8]) (uR (uZ Rf (List.length S) none) (List.length S) 4 (some 13)) (List.length S) q5.1 q5.2).bind fun q7 => (some (q7.1, q7.2.1, q7.2.2.1, q7.2.2.2.1, q7.2.2.2.2)))) else (some ((-2 : Int32), S, I, L, Rf))))))
set_option maxRecDepth 100000 in
set_option maxHeartbeats 4000000 in
theorem c_H_strike {G : xG} {S : List xSh} {Rf : Nat → Nat → Option Nat} (hT : xTH S Rf) {a0 : Int32} {a1 : Int32} {I : Nat → Nat → Int32} {L : Nat → Nat → Int64} {q : (Int32 × xH)} (hf : f_H_strike S Rf a0 a1 I L = some q) : CT G 3 m_H_strike [.ref (xB G + 0), .int a0, .int a1] (S, I, L, Rf) (some (.int q.1), q.2) := by
  refine CT.of (by decide +kernel) (Nat.le_of_ble_eq_true rfl) ?_
  show X G 3 m_H_strike 0 [(0, .ref (xB G + 0)), (1, .int a0), (2, .int a1)] [] (S, I, L, Rf) (some (.int q.1), q.2)
  replace hf := (f_H_strike.eq_1 _ _ _ _ _ _).symm.trans hf
  refine X_aload_n (pc := 0) (i := 0) 0 dX11_strike_0 rfl rfl ?_
  refine X_getr (pc := 1) (a := 0) (ci := 10) (j := 1) (c := 2) (sh_0 hT) (by decide) k_378 (rf_0_1 hT) (fun _ h => h) dX11_strike_1 ?_
  refine X_iload_n (pc := 4) (i := 1) 1 dX11_strike_4 rfl rfl ?_
  refine X_invV_i (pc := 5) (c_Ge_hasArbor hT rfl) ok_Ge_hasArbor (ci := 6) (sh_2 hT) k_433 k_434 k_435 nd_5 (by decide) rfl (Nat.le_of_ble_eq_true rfl) dX11_strike_5 ?_
  by_cases c1 : (f_Ge_hasArbor a0 I L) = (0 : Int32)
  · replace hf := (if_pos c1).symm.trans hf
    refine X_if_eq_t (pc := 8) 20 dX11_strike_8 (by decide) c1 ?_
    refine X_iconst (pc := 20) (-1 : Int32) dX11_strike_20 (by decide) ?_
    cases hf
    exact X_ireturn (pc := 21) rfl dX11_strike_21
  · replace hf := (if_neg c1).symm.trans hf
    refine X_if_eq_f (pc := 8) 20 dX11_strike_8 (by decide) c1 ?_
    refine X_iload_n (pc := 11) (i := 2) 2 dX11_strike_11 rfl rfl ?_
    refine X_iconst (pc := 12) (0 : Int32) dX11_strike_12 (by decide) ?_
    refine X_iconst (pc := 13) (1 : Int32) dX11_strike_13 (by decide) ?_
    refine X_invS_i (pc := 14) (c_H_isWithin hT rfl) ok_H_isWithin k_437 k_438 nd_6 (by decide) rfl (Nat.le_of_ble_eq_true rfl) dX11_strike_14 ?_
    obtain ⟨x2, ex2, hf⟩ := bnd_e hf
    refine X_tope ex2 ?_
    by_cases c3 : x2 = (0 : Int32)
    · replace hf := (if_pos c3).symm.trans hf
      refine X_if_ne_f (pc := 17) 22 dX11_strike_17 (by decide) c3 ?_
      refine X_iconst (pc := 20) (-1 : Int32) dX11_strike_20 (by decide) ?_
      cases hf
      exact X_ireturn (pc := 21) rfl dX11_strike_21
    · replace hf := (if_neg c3).symm.trans hf
      refine X_if_ne_t (pc := 17) 22 dX11_strike_17 (by decide) c3 ?_
      refine X_aload_n (pc := 22) (i := 0) 0 dX11_strike_22 rfl rfl ?_
      refine X_get (pc := 23) (a := 0) (ci := 10) (j := 8) (.int (I 0 8)) (sh_0 hT) (by decide) k_385 rfl dX11_strike_23 ?_
      by_cases c4 : (I 0 8) = (0 : Int32)
      · replace hf := (if_pos c4).symm.trans hf
        refine X_if_eq_t (pc := 26) 34 dX11_strike_26 (by decide) c4 ?_
        refine X_aload_n (pc := 34) (i := 0) 0 dX11_strike_34 rfl rfl ?_
        refine X_newT (pc := 35) (ci := 8) (by decide) k_617 k_618 k_83 dX11_strike_35 ?_
        refine X_dup (pc := 38) dX11_strike_38 rfl ?_
        refine X_iload_n (pc := 39) (i := 1) 1 dX11_strike_39 rfl rfl ?_
        refine X_iload_n (pc := 40) (i := 2) 2 dX11_strike_40 rfl rfl ?_
        refine X_aload_n (pc := 41) (i := 0) 0 dX11_strike_41 rfl rfl ?_
        refine X_get (pc := 42) (a := 0) (ci := 10) (j := 6) (.int ((uZ I (List.length S) 0) 0 6)) (sh_0 (KP.H (KP.nw KP.rf (.inl 8)) hT)) (by decide) k_383 rfl dX11_strike_42 ?_
        refine X_aload_n (pc := 45) (i := 0) 0 dX11_strike_45 rfl rfl ?_
        refine X_getr (pc := 46) (a := 0) (ci := 10) (j := 4) (c := 13) (sh_0 (KP.H (KP.nw KP.rf (.inl 8)) hT)) (by decide) k_381 (rf_0_4 (KP.H (KP.nw KP.rf (.inl 8)) hT)) (fun _ h => h) dX11_strike_46 ?_
        obtain ⟨q5, c6, hf⟩ := bd_some hf
        refine X_invI_v (pc := 49) (c_St_init_13 (KP.H (KP.nw KP.rf (.inl 8)) hT) (sh_new S (.inl 8)) c6) ok_St_init rfl rfl k_619 k_620 nd_17 (by decide) rfl (Nat.le_of_ble_eq_true rfl) dX11_strike_49 ?_
        obtain ⟨q7, c8, hf⟩ := bd_some hf
        refine X_invV_i (pc := 52) (c_H_hang_S (KP.H (KP.un (w := (List.length S)) (j := 4) (v := (some 13)) (KP.nw KP.rf (.inl 8)) (Nat.le_refl _)) hT) (sh_new S (.inl 8)) c8) ok_H_hang (ci := 10) (sh_0 (KP.H (KP.un (w := (List.length S)) (j := 4) (v := (some 13)) (KP.nw KP.rf (.inl 8)) (Nat.le_refl _)) hT)) k_538 k_540 k_9 nd_14 (by decide) rfl (Nat.le_of_ble_eq_true rfl) dX11_strike_52 ?_
        cases hf
        exact X_ireturn (pc := 55) rfl dX11_strike_55
      · replace hf := (if_neg c4).symm.trans hf
        refine X_if_eq_f (pc := 26) 34 dX11_strike_26 (by decide) c4 ?_
        refine X_bipush (pc := 29) (-2 : Int32) dX11_strike_29 (by decide) ?_
        refine X_goto (pc := 31) 55 dX11_strike_31 (by decide) ?_
        cases hf
        exact X_ireturn (pc := 55) rfl dX11_strike_55
theorem u_H_strike {S : List xSh} {Rf : Nat → Nat → Option Nat} {a0 : Int32} {a1 : Int32} {I : Nat → Nat → Int32} {L : Nat → Nat → Int64} {q : (Int32 × xH)} (hf : f_H_strike S Rf a0 a1 I L = some q) : FR S [1006] [] I q.2.2.1 L q.2.2.2.1 := by
  replace hf := (f_H_strike.eq_1 _ _ _ _ _ _).symm.trans hf
  by_cases c1 : (f_Ge_hasArbor a0 I L) = (0 : Int32)
  · replace hf := (if_pos c1).symm.trans hf
    cases hf
    exact FR.rf
  · replace hf := (if_neg c1).symm.trans hf
    obtain ⟨x2, ex2, hf⟩ := bnd_e hf
    by_cases c3 : x2 = (0 : Int32)
    · replace hf := (if_pos c3).symm.trans hf
      cases hf
      exact FR.rf
    · replace hf := (if_neg c3).symm.trans hf
      by_cases c4 : (I 0 8) = (0 : Int32)
      · replace hf := (if_pos c4).symm.trans hf
        obtain ⟨q5, c6, hf⟩ := bd_some hf
        obtain ⟨q7, c8, hf⟩ := bd_some hf
        cases hf
        exact (FR.tr (FR.tr (FR.z FR.rf (Nat.le_refl _)) (FR.up (S := S) (Rf := Rf) (KP.nw KP.rf (.inl 8)) (u_St_init_13 (sh_new S (.inl 8)) (q := q5) c6)) (by decide) (by decide)) (FR.up (S := S) (Rf := Rf) (KP.un (w := (List.length S)) (j := 4) (v := (some 13)) (KP.nw KP.rf (.inl 8)) (Nat.le_refl _)) (u_H_hang_S (sh_new S (.inl 8)) (q := q7) c8)) (by decide) (by decide))
      · replace hf := (if_neg c4).symm.trans hf
        cases hf
        exact FR.rf
theorem t_H_strike {S : List xSh} {Rf : Nat → Nat → Option Nat} {a0 : Int32} {a1 : Int32} {I : Nat → Nat → Int32} {L : Nat → Nat → Int64} {q : (Int32 × xH)} (hf : f_H_strike S Rf a0 a1 I L = some q) : KP S Rf q.2.1 q.2.2.2.2 := by
  replace hf := (f_H_strike.eq_1 _ _ _ _ _ _).symm.trans hf
  by_cases c1 : (f_Ge_hasArbor a0 I L) = (0 : Int32)
  · replace hf := (if_pos c1).symm.trans hf
    cases hf
    exact KP.rf
  · replace hf := (if_neg c1).symm.trans hf
    obtain ⟨x2, ex2, hf⟩ := bnd_e hf
    by_cases c3 : x2 = (0 : Int32)
    · replace hf := (if_pos c3).symm.trans hf
      cases hf
      exact KP.rf
    · replace hf := (if_neg c3).symm.trans hf
      by_cases c4 : (I 0 8) = (0 : Int32)
      · replace hf := (if_pos c4).symm.trans hf
        obtain ⟨q5, c6, hf⟩ := bd_some hf
        obtain ⟨q7, c8, hf⟩ := bd_some hf
        cases hf
        exact (KP.tr (KP.un (w := (List.length S)) (j := 4) (v := (some 13)) (KP.nw KP.rf (.inl 8)) (Nat.le_refl _)) (t_H_hang_S (q := q7) c8))
      · replace hf := (if_neg c4).symm.trans hf
        cases hf
        exact KP.rf
theorem dX3_init_0 : decode cX3_init 0 = .ok (.aload_n 0, 1) := by decide +kernel
theorem dX3_init_1 : decode cX3_init 1 = .ok (.invokespecial 1, 3) := by decide +kernel
theorem dX3_init_4 : decode cX3_init 4 = .ok (.aload_n 0, 1) := by decide +kernel
theorem dX3_init_5 : decode cX3_init 5 = .ok (.iload_n 1, 1) := by decide +kernel
theorem dX3_init_6 : decode cX3_init 6 = .ok (.putfield 7, 3) := by decide +kernel
theorem dX3_init_9 : decode cX3_init 9 = .ok (.return_, 1) := by decide +kernel
def f_Cr_init (w0 : Nat) (a0 : Int32) (I : Nat → Nat → Int32) (L : Nat → Nat → Int64) : Option ((Nat → Nat → Int32) × (Nat → Nat → Int64)) := (some ((uI I w0 0 a0), L))
set_option maxRecDepth 100000 in
set_option maxHeartbeats 4000000 in
theorem c_Cr_init {G : xG} {S : List xSh} {Rf : Nat → Nat → Option Nat} (hT : xTH S Rf) {w0 : Nat} {a0 : Int32} (hw0 : S[w0]? = some (.inl 3)) {I : Nat → Nat → Int32} {L : Nat → Nat → Int64} {q : ((Nat → Nat → Int32) × (Nat → Nat → Int64))} (hf : f_Cr_init w0 a0 I L = some q) : CT G 1 m_Cr_init [.ref (xB G + w0), .int a0] (S, I, L, Rf) (none, (S, q.1, q.2, Rf)) := by
  refine CT.of (by decide +kernel) (Nat.le_of_ble_eq_true rfl) ?_
  show X G 1 m_Cr_init 0 [(0, .ref (xB G + w0)), (1, .int a0)] [] (S, I, L, Rf) (none, (S, q.1, q.2, Rf))
  replace hf := (f_Cr_init.eq_1 _ _ _ _).symm.trans hf
  refine X_aload_n (pc := 0) (i := 0) 0 dX3_init_0 rfl rfl ?_
  refine X_objInit (pc := 1) k_652 k_92 k_93 (by decide) (by decide) dX3_init_1 ?_
  refine X_aload_n (pc := 4) (i := 0) 0 dX3_init_4 rfl rfl ?_
  refine X_iload_n (pc := 5) (i := 1) 1 dX3_init_5 rfl rfl ?_
  refine X_puti (pc := 6) (a := w0) (ci := 3) (j := 0) true hw0 (by decide) k_653 rfl (fun _ => ⟨rfl, rfl⟩) rfl dX3_init_6 ?_
  cases hf
  exact X_return (pc := 9) rfl dX3_init_9
theorem u_Cr_init {S : List xSh} {w0 : Nat} {a0 : Int32} (hw0 : S[w0]? = some (.inl 3)) {I : Nat → Nat → Int32} {L : Nat → Nat → Int64} {q : ((Nat → Nat → Int32) × (Nat → Nat → Int64))} (hf : f_Cr_init w0 a0 I L = some q) : FR S [] [] I q.1 L q.2 := by
  replace hf := (f_Cr_init.eq_1 _ _ _ _).symm.trans hf
  cases hf
  exact (FR.dy FR.rf hw0 (by decide))
theorem dX11_chronograph_0 : decode cX11_chronograph 0 = .ok (.iload_n 1, 1) := by decide +kernel
theorem dX11_chronograph_1 : decode cX11_chronograph 1 = .ok (.iconst 0, 1) := by decide +kernel
theorem dX11_chronograph_2 : decode cX11_chronograph 2 = .ok (.iconst 2, 1) := by decide +kernel
theorem dX11_chronograph_3 : decode cX11_chronograph 3 = .ok (.invokestatic 91, 3) := by decide +kernel
theorem dX11_chronograph_6 : decode cX11_chronograph 6 = .ok (.ifCond .ne 5, 3) := by decide +kernel
theorem dX11_chronograph_9 : decode cX11_chronograph 9 = .ok (.iconst (-1), 1) := by decide +kernel
theorem dX11_chronograph_10 : decode cX11_chronograph 10 = .ok (.ireturn, 1) := by decide +kernel
theorem dX11_chronograph_11 : decode cX11_chronograph 11 = .ok (.aload_n 0, 1) := by decide +kernel
theorem dX11_chronograph_12 : decode cX11_chronograph 12 = .ok (.getfield 77, 3) := by decide +kernel
theorem dX11_chronograph_15 : decode cX11_chronograph 15 = .ok (.ifCond .eq 6, 3) := by decide +kernel
theorem dX11_chronograph_18 : decode cX11_chronograph 18 = .ok (.bipush (-2), 2) := by decide +kernel
theorem dX11_chronograph_20 : decode cX11_chronograph 20 = .ok (.ireturn, 1) := by decide +kernel
theorem dX11_chronograph_21 : decode cX11_chronograph 21 = .ok (.aload_n 0, 1) := by decide +kernel
theorem dX11_chronograph_22 : decode cX11_chronograph 22 = .ok (.getfield 138, 3) := by decide +kernel
theorem dX11_chronograph_25 : decode cX11_chronograph 25 = .ok (.iconst 4, 1) := by decide +kernel
theorem dX11_chronograph_26 : decode cX11_chronograph 26 = .ok (.if_icmp .lt 6, 3) := by decide +kernel
theorem dX11_chronograph_29 : decode cX11_chronograph 29 = .ok (.bipush (-3), 2) := by decide +kernel
theorem dX11_chronograph_31 : decode cX11_chronograph 31 = .ok (.ireturn, 1) := by decide +kernel
theorem dX11_chronograph_32 : decode cX11_chronograph 32 = .ok (.aload_n 0, 1) := by decide +kernel
theorem dX11_chronograph_33 : decode cX11_chronograph 33 = .ok (.getfield 29, 3) := by decide +kernel
theorem dX11_chronograph_36 : decode cX11_chronograph 36 = .ok (.aload_n 0, 1) := by decide +kernel
theorem dX11_chronograph_37 : decode cX11_chronograph 37 = .ok (.getfield 138, 3) := by decide +kernel
theorem dX11_chronograph_40 : decode cX11_chronograph 40 = .ok (.new 27, 3) := by decide +kernel
theorem dX11_chronograph_43 : decode cX11_chronograph 43 = .ok (.dup, 1) := by decide +kernel
theorem dX11_chronograph_44 : decode cX11_chronograph 44 = .ok (.iload_n 1, 1) := by decide +kernel
theorem dX11_chronograph_45 : decode cX11_chronograph 45 = .ok (.invokespecial 141, 3) := by decide +kernel
theorem dX11_chronograph_48 : decode cX11_chronograph 48 = .ok (.aastore, 1) := by decide +kernel
theorem dX11_chronograph_49 : decode cX11_chronograph 49 = .ok (.aload_n 0, 1) := by decide +kernel
theorem dX11_chronograph_50 : decode cX11_chronograph 50 = .ok (.dup, 1) := by decide +kernel
theorem dX11_chronograph_51 : decode cX11_chronograph 51 = .ok (.getfield 138, 3) := by decide +kernel
theorem dX11_chronograph_54 : decode cX11_chronograph 54 = .ok (.dup_x1, 1) := by decide +kernel
theorem dX11_chronograph_55 : decode cX11_chronograph 55 = .ok (.iconst 1, 1) := by decide +kernel
theorem dX11_chronograph_56 : decode cX11_chronograph 56 = .ok (.iadd, 1) := by decide +kernel
theorem dX11_chronograph_57 : decode cX11_chronograph 57 = .ok (.putfield 138, 3) := by decide +kernel
theorem dX11_chronograph_60 : decode cX11_chronograph 60 = .ok (.ireturn, 1) := by decide +kernel
def f_H_chronograph (S : List xSh) (Rf : Nat → Nat → Option Nat) (a0 : Int32) (I : Nat → Nat → Int32) (L : Nat → Nat → Int64) : Option (Int32 × xH) := (bnd (f_H_isWithin a0 (0 : Int32) (2 : Int32)) fun x1 => (if x1 = (0 : Int32) then (some ((-1 : Int32), S, I, L, Rf)) else (if (I 0 8) = (0 : Int32) then (if (I 0 7) < (4 : Int32) then ((f_Cr_init (List.length S) a0 (uZ I (List.length S) 0) (uZ L (List.length S) 0)).bind fun q5 => (if (0 ≤ (I 0 7) ∧ (I 0 7) < (4 : Int32)) then (bnd ((q5.1 0 7) + (1 : Int32)) fun x8 => (some ((q5.1 0 7), (S ++ [.inl 3]), (uI q5.1 0 7 x8), q5.2, (uR (uZ Rf (List.length S) none) 12 (Int32.toNatClampNeg (I 0 7)) (some (List.length S)))))) else none)) else (some ((-3 : Int32), S, I, L, Rf))) else (some ((-2 : Int32), S, I, L, Rf)))))
set_option maxRecDepth 100000 in
set_option maxHeartbeats 4000000 in
theorem c_H_chronograph {G : xG} {S : List xSh} {Rf : Nat → Nat → Option Nat} (hT : xTH S Rf) {a0 : Int32} {I : Nat → Nat → Int32} {L : Nat → Nat → Int64} {q : (Int32 × xH)} (hf : f_H_chronograph S Rf a0 I L = some q) : CT G 2 m_H_chronograph [.ref (xB G + 0), .int a0] (S, I, L, Rf) (some (.int q.1), q.2) := by
  refine CT.of (by decide +kernel) (Nat.le_of_ble_eq_true rfl) ?_
  show X G 2 m_H_chronograph 0 [(0, .ref (xB G + 0)), (1, .int a0)] [] (S, I, L, Rf) (some (.int q.1), q.2)
  replace hf := (f_H_chronograph.eq_1 _ _ _ _ _).symm.trans hf
  refine X_iload_n (pc := 0) (i := 1) 1 dX11_chronograph_0 rfl rfl ?_
  refine X_iconst (pc := 1) (0 : Int32) dX11_chronograph_1 (by decide) ?_
  refine X_iconst (pc := 2) (2 : Int32) dX11_chronograph_2 (by decide) ?_
  refine X_invS_i (pc := 3) (c_H_isWithin hT rfl) ok_H_isWithin k_437 k_438 nd_6 (by decide) rfl (Nat.le_of_ble_eq_true rfl) dX11_chronograph_3 ?_
  obtain ⟨x1, ex1, hf⟩ := bnd_e hf
  refine X_tope ex1 ?_
  by_cases c2 : x1 = (0 : Int32)
  · replace hf := (if_pos c2).symm.trans hf
    refine X_if_ne_f (pc := 6) 11 dX11_chronograph_6 (by decide) c2 ?_
    refine X_iconst (pc := 9) (-1 : Int32) dX11_chronograph_9 (by decide) ?_
    cases hf
    exact X_ireturn (pc := 10) rfl dX11_chronograph_10
  · replace hf := (if_neg c2).symm.trans hf
    refine X_if_ne_t (pc := 6) 11 dX11_chronograph_6 (by decide) c2 ?_
    refine X_aload_n (pc := 11) (i := 0) 0 dX11_chronograph_11 rfl rfl ?_
    refine X_get (pc := 12) (a := 0) (ci := 10) (j := 8) (.int (I 0 8)) (sh_0 hT) (by decide) k_385 rfl dX11_chronograph_12 ?_
    by_cases c3 : (I 0 8) = (0 : Int32)
    · replace hf := (if_pos c3).symm.trans hf
      refine X_if_eq_t (pc := 15) 21 dX11_chronograph_15 (by decide) c3 ?_
      refine X_aload_n (pc := 21) (i := 0) 0 dX11_chronograph_21 rfl rfl ?_
      refine X_get (pc := 22) (a := 0) (ci := 10) (j := 7) (.int (I 0 7)) (sh_0 hT) (by decide) k_384 rfl dX11_chronograph_22 ?_
      refine X_iconst (pc := 25) (4 : Int32) dX11_chronograph_25 (by decide) ?_
      by_cases c4 : (I 0 7) < (4 : Int32)
      · replace hf := (if_pos c4).symm.trans hf
        refine X_icmp_lt_t (pc := 26) 32 dX11_chronograph_26 (by decide) c4 ?_
        refine X_aload_n (pc := 32) (i := 0) 0 dX11_chronograph_32 rfl rfl ?_
        refine X_getr (pc := 33) (a := 0) (ci := 10) (j := 3) (c := 12) (sh_0 hT) (by decide) k_380 (rf_0_3 hT) (fun _ h => h) dX11_chronograph_33 ?_
        refine X_aload_n (pc := 36) (i := 0) 0 dX11_chronograph_36 rfl rfl ?_
        refine X_get (pc := 37) (a := 0) (ci := 10) (j := 7) (.int (I 0 7)) (sh_0 hT) (by decide) k_384 rfl dX11_chronograph_37 ?_
        refine X_newT (pc := 40) (ci := 3) (by decide) k_234 k_648 k_84 dX11_chronograph_40 ?_
        refine X_dup (pc := 43) dX11_chronograph_43 rfl ?_
        refine X_iload_n (pc := 44) (i := 1) 1 dX11_chronograph_44 rfl rfl ?_
        obtain ⟨q5, c6, hf⟩ := bd_some hf
        refine X_invI_v (pc := 45) (c_Cr_init (KP.H (KP.nw KP.rf (.inl 3)) hT) (sh_new S (.inl 3)) c6) ok_Cr_init rfl rfl k_649 k_650 nd_13 (by decide) rfl (Nat.le_of_ble_eq_true rfl) dX11_chronograph_45 ?_
        obtain ⟨c7, hf⟩ := gd_some hf
        refine X_aastC (pc := 48) (sh_12 (KP.H (KP.nw KP.rf (.inl 3)) hT)) (sh_new S (.inl 3)) (vp_in_lit (N := 4) c7 (by decide)) dX11_chronograph_48 ?_
        refine X_aload_n (pc := 49) (i := 0) 0 dX11_chronograph_49 rfl rfl ?_
        refine X_dup (pc := 50) dX11_chronograph_50 rfl ?_
        refine X_get (pc := 51) (a := 0) (ci := 10) (j := 7) (.int (q5.1 0 7)) (sh_0 (KP.H (KP.u12 (j := (Int32.toNatClampNeg (I 0 7))) (v := (some (List.length S))) (KP.nw KP.rf (.inl 3))) hT)) (by decide) k_384 rfl dX11_chronograph_51 ?_
        refine X_dup_x1 (pc := 54) dX11_chronograph_54 rfl rfl ?_
        refine X_iconst (pc := 55) (1 : Int32) dX11_chronograph_55 (by decide) ?_
        refine X_iadd (pc := 56) dX11_chronograph_56 ?_
        obtain ⟨x8, ex8, hf⟩ := bnd_e hf
        refine X_tope ex8 ?_
        refine X_puti (pc := 57) (a := 0) (ci := 10) (j := 7) false (sh_0 (KP.H (KP.u12 (j := (Int32.toNatClampNeg (I 0 7))) (v := (some (List.length S))) (KP.nw KP.rf (.inl 3))) hT)) (by decide) k_384 rfl (fun h => by cases h) rfl dX11_chronograph_57 ?_
        cases hf
        exact X_ireturn (pc := 60) rfl dX11_chronograph_60
      · replace hf := (if_neg c4).symm.trans hf
        refine X_icmp_lt_f (pc := 26) 32 dX11_chronograph_26 (by decide) c4 ?_
        refine X_bipush (pc := 29) (-3 : Int32) dX11_chronograph_29 (by decide) ?_
        cases hf
        exact X_ireturn (pc := 31) rfl dX11_chronograph_31
    · replace hf := (if_neg c3).symm.trans hf
      refine X_if_eq_f (pc := 15) 21 dX11_chronograph_15 (by decide) c3 ?_
      refine X_bipush (pc := 18) (-2 : Int32) dX11_chronograph_18 (by decide) ?_
      cases hf
      exact X_ireturn (pc := 20) rfl dX11_chronograph_20
theorem u_H_chronograph {S : List xSh} {Rf : Nat → Nat → Option Nat} {a0 : Int32} {I : Nat → Nat → Int32} {L : Nat → Nat → Int64} {q : (Int32 × xH)} (hf : f_H_chronograph S Rf a0 I L = some q) : FR S [1007] [] I q.2.2.1 L q.2.2.2.1 := by
  replace hf := (f_H_chronograph.eq_1 _ _ _ _ _).symm.trans hf
  obtain ⟨x1, ex1, hf⟩ := bnd_e hf
  by_cases c2 : x1 = (0 : Int32)
  · replace hf := (if_pos c2).symm.trans hf
    cases hf
    exact FR.rf
  · replace hf := (if_neg c2).symm.trans hf
    by_cases c3 : (I 0 8) = (0 : Int32)
    · replace hf := (if_pos c3).symm.trans hf
      by_cases c4 : (I 0 7) < (4 : Int32)
      · replace hf := (if_pos c4).symm.trans hf
        obtain ⟨q5, c6, hf⟩ := bd_some hf
        obtain ⟨c7, hf⟩ := gd_some hf
        obtain ⟨x8, ex8, hf⟩ := bnd_e hf
        cases hf
        exact (FR.fi (FR.tr (FR.z FR.rf (Nat.le_refl _)) (FR.up (S := S) (Rf := Rf) (KP.nw KP.rf (.inl 3)) (u_Cr_init (sh_new S (.inl 3)) (q := q5) c6)) (by decide) (by decide)) (by decide))
      · replace hf := (if_neg c4).symm.trans hf
        cases hf
        exact FR.rf
    · replace hf := (if_neg c3).symm.trans hf
      cases hf
      exact FR.rf
theorem t_H_chronograph {S : List xSh} {Rf : Nat → Nat → Option Nat} {a0 : Int32} {I : Nat → Nat → Int32} {L : Nat → Nat → Int64} {q : (Int32 × xH)} (hf : f_H_chronograph S Rf a0 I L = some q) : KP S Rf q.2.1 q.2.2.2.2 := by
  replace hf := (f_H_chronograph.eq_1 _ _ _ _ _).symm.trans hf
  obtain ⟨x1, ex1, hf⟩ := bnd_e hf
  by_cases c2 : x1 = (0 : Int32)
  · replace hf := (if_pos c2).symm.trans hf
    cases hf
    exact KP.rf
  · replace hf := (if_neg c2).symm.trans hf
    by_cases c3 : (I 0 8) = (0 : Int32)
    · replace hf := (if_pos c3).symm.trans hf
      by_cases c4 : (I 0 7) < (4 : Int32)
      · replace hf := (if_pos c4).symm.trans hf
        obtain ⟨q5, c6, hf⟩ := bd_some hf
        obtain ⟨c7, hf⟩ := gd_some hf
        obtain ⟨x8, ex8, hf⟩ := bnd_e hf
        cases hf
        exact (KP.u12 (j := (Int32.toNatClampNeg (I 0 7))) (v := (some (List.length S))) (KP.nw KP.rf (.inl 3)))
      · replace hf := (if_neg c4).symm.trans hf
        cases hf
        exact KP.rf
    · replace hf := (if_neg c3).symm.trans hf
      cases hf
      exact KP.rf
theorem dX6_isKnown_0 : decode cX6_isKnown 0 = .ok (.aload_n 0, 1) := by decide +kernel
theorem dX6_isKnown_1 : decode cX6_isKnown 1 = .ok (.iload_n 1, 1) := by decide +kernel
theorem dX6_isKnown_2 : decode cX6_isKnown 2 = .ok (.invokevirtual 48, 3) := by decide +kernel
theorem dX6_isKnown_5 : decode cX6_isKnown 5 = .ok (.ifCond .eq 18, 3) := by decide +kernel
theorem dX6_isKnown_8 : decode cX6_isKnown 8 = .ok (.aload_n 0, 1) := by decide +kernel
theorem dX6_isKnown_9 : decode cX6_isKnown 9 = .ok (.getfield 15, 3) := by decide +kernel
theorem dX6_isKnown_12 : decode cX6_isKnown 12 = .ok (.iload_n 1, 1) := by decide +kernel
theorem dX6_isKnown_13 : decode cX6_isKnown 13 = .ok (.laload, 1) := by decide +kernel
theorem dX6_isKnown_14 : decode cX6_isKnown 14 = .ok (.lconst 0, 1) := by decide +kernel
theorem dX6_isKnown_15 : decode cX6_isKnown 15 = .ok (.lcmp, 1) := by decide +kernel
theorem dX6_isKnown_16 : decode cX6_isKnown 16 = .ok (.ifCond .le 7, 3) := by decide +kernel
theorem dX6_isKnown_19 : decode cX6_isKnown 19 = .ok (.iconst 1, 1) := by decide +kernel
theorem dX6_isKnown_20 : decode cX6_isKnown 20 = .ok (.goto 4, 3) := by decide +kernel
theorem dX6_isKnown_23 : decode cX6_isKnown 23 = .ok (.iconst 0, 1) := by decide +kernel
theorem dX6_isKnown_24 : decode cX6_isKnown 24 = .ok (.ireturn, 1) := by decide +kernel
def f_Ge_isKnown (a0 : Int32) (I : Nat → Nat → Int32) (L : Nat → Nat → Int64) : Option Int32 := (if (f_Ge_hasArbor a0 I L) = (0 : Int32) then (some (0 : Int32)) else (if (0 ≤ a0 ∧ a0 < (24 : Int32)) then (if (L 4 (a0.toNatClampNeg)) ≤ (0 : Int64) then (some (0 : Int32)) else (some (1 : Int32))) else none))
set_option maxRecDepth 100000 in
set_option maxHeartbeats 4000000 in
theorem c_Ge_isKnown {G : xG} {S : List xSh} {Rf : Nat → Nat → Option Nat} (hT : xTH S Rf) {a0 : Int32} {I : Nat → Nat → Int32} {L : Nat → Nat → Int64} {q : Int32} (hf : f_Ge_isKnown a0 I L = some q) : CT G 2 m_Ge_isKnown [.ref (xB G + 2), .int a0] (S, I, L, Rf) (some (.int q), (S, I, L, Rf)) := by
  refine CT.of (by decide +kernel) (Nat.le_of_ble_eq_true rfl) ?_
  show X G 2 m_Ge_isKnown 0 [(0, .ref (xB G + 2)), (1, .int a0)] [] (S, I, L, Rf) (some (.int q), (S, I, L, Rf))
  replace hf := (f_Ge_isKnown.eq_1 _ _ _).symm.trans hf
  refine X_aload_n (pc := 0) (i := 0) 0 dX6_isKnown_0 rfl rfl ?_
  refine X_iload_n (pc := 1) (i := 1) 1 dX6_isKnown_1 rfl rfl ?_
  refine X_invV_i (pc := 2) (c_Ge_hasArbor hT rfl) ok_Ge_hasArbor (ci := 6) (sh_2 hT) k_452 k_434 k_435 nd_5 (by decide) rfl (Nat.le_of_ble_eq_true rfl) dX6_isKnown_2 ?_
  by_cases c1 : (f_Ge_hasArbor a0 I L) = (0 : Int32)
  · replace hf := (if_pos c1).symm.trans hf
    refine X_if_eq_t (pc := 5) 23 dX6_isKnown_5 (by decide) c1 ?_
    refine X_iconst (pc := 23) (0 : Int32) dX6_isKnown_23 (by decide) ?_
    cases hf
    exact X_zreturn (pc := 24) rfl (nar_b (by decide)) dX6_isKnown_24
  · replace hf := (if_neg c1).symm.trans hf
    refine X_if_eq_f (pc := 5) 23 dX6_isKnown_5 (by decide) c1 ?_
    refine X_aload_n (pc := 8) (i := 0) 0 dX6_isKnown_8 rfl rfl ?_
    refine X_getr (pc := 9) (a := 2) (ci := 6) (j := 6) (c := 4) (sh_2 hT) (by decide) k_117 (rf_2_6 hT) (fun _ h => h) dX6_isKnown_9 ?_
    refine X_iload_n (pc := 12) (i := 1) 1 dX6_isKnown_12 rfl rfl ?_
    obtain ⟨c2, hf⟩ := gd_some hf
    refine X_laldj (pc := 13) (j := a0.toNatClampNeg) (L 4 (a0.toNatClampNeg)) (sh_4 hT) (vp_in_lit (N := 24) c2 (by decide)) rfl rfl dX6_isKnown_13 ?_
    refine X_lconst (pc := 14) (0 : Int64) dX6_isKnown_14 (by decide) ?_
    refine X_lcmp (pc := 15) dX6_isKnown_15 ?_
    by_cases c3 : (L 4 (a0.toNatClampNeg)) ≤ (0 : Int64)
    · replace hf := (if_pos c3).symm.trans hf
      refine X_if_le_t (pc := 16) 23 dX6_isKnown_16 (by decide) ((lg_cmp_le _ _).mpr c3) ?_
      refine X_iconst (pc := 23) (0 : Int32) dX6_isKnown_23 (by decide) ?_
      cases hf
      exact X_zreturn (pc := 24) rfl (nar_b (by decide)) dX6_isKnown_24
    · replace hf := (if_neg c3).symm.trans hf
      refine X_if_le_f (pc := 16) 23 dX6_isKnown_16 (by decide) (fun h => c3 ((lg_cmp_le _ _).mp h)) ?_
      refine X_iconst (pc := 19) (1 : Int32) dX6_isKnown_19 (by decide) ?_
      refine X_goto (pc := 20) 24 dX6_isKnown_20 (by decide) ?_
      cases hf
      exact X_zreturn (pc := 24) rfl (nar_b (by decide)) dX6_isKnown_24
theorem dX6_countKnown_0 : decode cX6_countKnown 0 = .ok (.iconst 0, 1) := by decide +kernel
theorem dX6_countKnown_1 : decode cX6_countKnown 1 = .ok (.istore_n 1, 1) := by decide +kernel
theorem dX6_countKnown_2 : decode cX6_countKnown 2 = .ok (.iconst 0, 1) := by decide +kernel
theorem dX6_countKnown_3 : decode cX6_countKnown 3 = .ok (.istore_n 2, 1) := by decide +kernel
theorem dX6_countKnown_4 : decode cX6_countKnown 4 = .ok (.iload_n 2, 1) := by decide +kernel
theorem dX6_countKnown_5 : decode cX6_countKnown 5 = .ok (.aload_n 0, 1) := by decide +kernel
theorem dX6_countKnown_6 : decode cX6_countKnown 6 = .ok (.getfield 28, 3) := by decide +kernel
theorem dX6_countKnown_9 : decode cX6_countKnown 9 = .ok (.if_icmp .ge 20, 3) := by decide +kernel
theorem dX6_countKnown_12 : decode cX6_countKnown 12 = .ok (.aload_n 0, 1) := by decide +kernel
theorem dX6_countKnown_13 : decode cX6_countKnown 13 = .ok (.iload_n 2, 1) := by decide +kernel
theorem dX6_countKnown_14 : decode cX6_countKnown 14 = .ok (.invokevirtual 59, 3) := by decide +kernel
theorem dX6_countKnown_17 : decode cX6_countKnown 17 = .ok (.ifCond .eq 6, 3) := by decide +kernel
theorem dX6_countKnown_20 : decode cX6_countKnown 20 = .ok (.iinc 1 1, 3) := by decide +kernel
theorem dX6_countKnown_23 : decode cX6_countKnown 23 = .ok (.iinc 2 1, 3) := by decide +kernel
theorem dX6_countKnown_26 : decode cX6_countKnown 26 = .ok (.goto (-22), 3) := by decide +kernel
theorem dX6_countKnown_29 : decode cX6_countKnown 29 = .ok (.iload_n 1, 1) := by decide +kernel
theorem dX6_countKnown_30 : decode cX6_countKnown 30 = .ok (.ireturn, 1) := by decide +kernel
def f_Ge_countKnown_L4 : Nat → Int32 → Int32 → (Nat → Nat → Int32) → (Nat → Nat → Int64) → Option Int32
  | 0, _, _, _, _ => none
  | n + 1, l1, l2, I, L => (if (I 2 0) ≤ l2 then (some l1) else ((f_Ge_isKnown l2 I L).bind fun q2 => (if q2 = (0 : Int32) then (f_Ge_countKnown_L4 n l1 (l2 + (1 : Int32)) I L) else (f_Ge_countKnown_L4 n (l1 + (1 : Int32)) (l2 + (1 : Int32)) I L))))
set_option maxRecDepth 100000 in
set_option maxHeartbeats 4000000 in
theorem x_Ge_countKnown_L4 {G : xG} {S : List xSh} {Rf : Nat → Nat → Option Nat} (hT : xTH S Rf) : ∀ (n : Nat) {l1 : Int32} {l2 : Int32} {I : Nat → Nat → Int32} {L : Nat → Nat → Int64} {q : Int32}, f_Ge_countKnown_L4 n l1 l2 I L = some q → X G 3 m_Ge_countKnown 4 [(0, .ref (xB G + 2)), (1, .int l1), (2, .int l2)] [] (S, I, L, Rf) (some (.int q), (S, I, L, Rf)) := by
  intro n
  induction n with
  | zero =>
    intro l1 l2 I L q hf
    exact absurd (show none = some q from hf) (by simp)
  | succ n ih =>
    intro l1 l2 I L q hf
    replace hf := (f_Ge_countKnown_L4.eq_2 _ _ _ _ _).symm.trans hf
    refine X_iload_n (pc := 4) (i := 2) 2 dX6_countKnown_4 rfl rfl ?_
    refine X_aload_n (pc := 5) (i := 0) 0 dX6_countKnown_5 rfl rfl ?_
    refine X_get (pc := 6) (a := 2) (ci := 6) (j := 0) (.int (I 2 0)) (sh_2 hT) (by decide) k_106 rfl dX6_countKnown_6 ?_
    by_cases c1 : (I 2 0) ≤ l2
    · replace hf := (if_pos c1).symm.trans hf
      refine X_icmp_ge_t (pc := 9) 29 dX6_countKnown_9 (by decide) c1 ?_
      refine X_iload_n (pc := 29) (i := 1) 1 dX6_countKnown_29 rfl rfl ?_
      cases hf
      exact X_ireturn (pc := 30) rfl dX6_countKnown_30
    · replace hf := (if_neg c1).symm.trans hf
      refine X_icmp_ge_f (pc := 9) 29 dX6_countKnown_9 (by decide) c1 ?_
      refine X_aload_n (pc := 12) (i := 0) 0 dX6_countKnown_12 rfl rfl ?_
      refine X_iload_n (pc := 13) (i := 2) 2 dX6_countKnown_13 rfl rfl ?_
      obtain ⟨q2, c3, hf⟩ := bd_some hf
      refine X_invV_i (pc := 14) (c_Ge_isKnown hT c3) ok_Ge_isKnown (ci := 6) (sh_2 hT) k_681 k_682 k_683 nd_5 (by decide) rfl (Nat.le_of_ble_eq_true rfl) dX6_countKnown_14 ?_
      by_cases c4 : q2 = (0 : Int32)
      · replace hf := (if_pos c4).symm.trans hf
        refine X_if_eq_t (pc := 17) 23 dX6_countKnown_17 (by decide) c4 ?_
        refine X_iinc (pc := 23) (i := 2) (q := 2) (v := (l2 + (1 : Int32))) [(2, .int (l2 + (1 : Int32))), (0, .ref (xB G + 2)), (1, .int l1)] dX6_countKnown_23 rfl rfl (by decide) rfl ?_
        refine X_goto (pc := 26) 4 dX6_countKnown_26 (by decide) ?_
        exact X_lvs [1, 2, 0] rfl (ih hf)
      · replace hf := (if_neg c4).symm.trans hf
        refine X_if_eq_f (pc := 17) 23 dX6_countKnown_17 (by decide) c4 ?_
        refine X_iinc (pc := 20) (i := 1) (q := 1) (v := (l1 + (1 : Int32))) [(1, .int (l1 + (1 : Int32))), (0, .ref (xB G + 2)), (2, .int l2)] dX6_countKnown_20 rfl rfl (by decide) rfl ?_
        refine X_iinc (pc := 23) (i := 2) (q := 2) (v := (l2 + (1 : Int32))) [(2, .int (l2 + (1 : Int32))), (1, .int (l1 + (1 : Int32))), (0, .ref (xB G + 2))] dX6_countKnown_23 rfl rfl (by decide) rfl ?_
        refine X_goto (pc := 26) 4 dX6_countKnown_26 (by decide) ?_
        exact X_lvs [2, 1, 0] rfl (ih hf)
def f_Ge_countKnown (I : Nat → Nat → Int32) (L : Nat → Nat → Int64) : Option Int32 := (f_Ge_countKnown_L4 xF (0 : Int32) (0 : Int32) I L)
set_option maxRecDepth 100000 in
set_option maxHeartbeats 4000000 in
theorem c_Ge_countKnown {G : xG} {S : List xSh} {Rf : Nat → Nat → Option Nat} (hT : xTH S Rf) {I : Nat → Nat → Int32} {L : Nat → Nat → Int64} {q : Int32} (hf : f_Ge_countKnown I L = some q) : CT G 3 m_Ge_countKnown [.ref (xB G + 2)] (S, I, L, Rf) (some (.int q), (S, I, L, Rf)) := by
  refine CT.of (by decide +kernel) (Nat.le_of_ble_eq_true rfl) ?_
  show X G 3 m_Ge_countKnown 0 [(0, .ref (xB G + 2))] [] (S, I, L, Rf) (some (.int q), (S, I, L, Rf))
  replace hf := (f_Ge_countKnown.eq_1 _ _).symm.trans hf
  refine X_iconst (pc := 0) (0 : Int32) dX6_countKnown_0 (by decide) ?_
  refine X_istore_n (pc := 1) (i := 1) [(1, .int (0 : Int32)), (0, .ref (xB G + 2))] dX6_countKnown_1 rfl (by decide) rfl ?_
  refine X_iconst (pc := 2) (0 : Int32) dX6_countKnown_2 (by decide) ?_
  refine X_istore_n (pc := 3) (i := 2) [(2, .int (0 : Int32)), (1, .int (0 : Int32)), (0, .ref (xB G + 2))] dX6_countKnown_3 rfl (by decide) rfl ?_
  exact X_lvs [2, 1, 0] rfl (x_Ge_countKnown_L4 hT xF hf)
theorem dX11_go_0 : decode cX11_go 0 = .ok (.aload_n 0, 1) := by decide +kernel
theorem dX11_go_1 : decode cX11_go 1 = .ok (.getfield 77, 3) := by decide +kernel
theorem dX11_go_4 : decode cX11_go 4 = .ok (.ifCond .ne 24, 3) := by decide +kernel
theorem dX11_go_7 : decode cX11_go 7 = .ok (.aload_n 0, 1) := by decide +kernel
theorem dX11_go_8 : decode cX11_go 8 = .ok (.getfield 20, 3) := by decide +kernel
theorem dX11_go_11 : decode cX11_go 11 = .ok (.getfield 144, 3) := by decide +kernel
theorem dX11_go_14 : decode cX11_go 14 = .ok (.iconst (-1), 1) := by decide +kernel
theorem dX11_go_15 : decode cX11_go 15 = .ok (.if_icmp .eq 13, 3) := by decide +kernel
theorem dX11_go_18 : decode cX11_go 18 = .ok (.aload_n 0, 1) := by decide +kernel
theorem dX11_go_19 : decode cX11_go 19 = .ok (.getfield 20, 3) := by decide +kernel
theorem dX11_go_22 : decode cX11_go 22 = .ok (.getfield 147, 3) := by decide +kernel
theorem dX11_go_25 : decode cX11_go 25 = .ok (.ifCond .eq 6, 3) := by decide +kernel
theorem dX11_go_28 : decode cX11_go 28 = .ok (.bipush (-2), 2) := by decide +kernel
theorem dX11_go_30 : decode cX11_go 30 = .ok (.ireturn, 1) := by decide +kernel
theorem dX11_go_31 : decode cX11_go 31 = .ok (.aload_n 0, 1) := by decide +kernel
theorem dX11_go_32 : decode cX11_go 32 = .ok (.iconst 1, 1) := by decide +kernel
theorem dX11_go_33 : decode cX11_go 33 = .ok (.putfield 77, 3) := by decide +kernel
theorem dX11_go_36 : decode cX11_go 36 = .ok (.aload_n 0, 1) := by decide +kernel
theorem dX11_go_37 : decode cX11_go 37 = .ok (.getfield 20, 3) := by decide +kernel
theorem dX11_go_40 : decode cX11_go 40 = .ok (.invokevirtual 150, 3) := by decide +kernel
theorem dX11_go_43 : decode cX11_go 43 = .ok (.ireturn, 1) := by decide +kernel
def f_H_go (I : Nat → Nat → Int32) (L : Nat → Nat → Int64) : Option (Int32 × (Nat → Nat → Int32) × (Nat → Nat → Int64)) := (if (I 0 8) = (0 : Int32) then (if (I 2 2) = (-1 : Int32) then (some ((-2 : Int32), I, L)) else (if (I 2 4) = (0 : Int32) then ((f_Ge_countKnown (uI I 0 8 (1 : Int32)) L).bind fun q4 => (some (q4, (uI I 0 8 (1 : Int32)), L))) else (some ((-2 : Int32), I, L)))) else (some ((-2 : Int32), I, L)))
set_option maxRecDepth 100000 in
set_option maxHeartbeats 4000000 in
theorem c_H_go {G : xG} {S : List xSh} {Rf : Nat → Nat → Option Nat} (hT : xTH S Rf) {I : Nat → Nat → Int32} {L : Nat → Nat → Int64} {q : (Int32 × (Nat → Nat → Int32) × (Nat → Nat → Int64))} (hf : f_H_go I L = some q) : CT G 4 m_H_go [.ref (xB G + 0)] (S, I, L, Rf) (some (.int q.1), (S, q.2.1, q.2.2, Rf)) := by
  refine CT.of (by decide +kernel) (Nat.le_of_ble_eq_true rfl) ?_
  show X G 4 m_H_go 0 [(0, .ref (xB G + 0))] [] (S, I, L, Rf) (some (.int q.1), (S, q.2.1, q.2.2, Rf))
  replace hf := (f_H_go.eq_1 _ _).symm.trans hf
  refine X_aload_n (pc := 0) (i := 0) 0 dX11_go_0 rfl rfl ?_
  refine X_get (pc := 1) (a := 0) (ci := 10) (j := 8) (.int (I 0 8)) (sh_0 hT) (by decide) k_385 rfl dX11_go_1 ?_
  by_cases c1 : (I 0 8) = (0 : Int32)
  · replace hf := (if_pos c1).symm.trans hf
    refine X_if_ne_f (pc := 4) 28 dX11_go_4 (by decide) c1 ?_
    refine X_aload_n (pc := 7) (i := 0) 0 dX11_go_7 rfl rfl ?_
    refine X_getr (pc := 8) (a := 0) (ci := 10) (j := 1) (c := 2) (sh_0 hT) (by decide) k_378 (rf_0_1 hT) (fun _ h => h) dX11_go_8 ?_
    refine X_get (pc := 11) (a := 2) (ci := 6) (j := 2) (.int (I 2 2)) (sh_2 hT) (by decide) k_111 rfl dX11_go_11 ?_
    refine X_iconst (pc := 14) (-1 : Int32) dX11_go_14 (by decide) ?_
    by_cases c2 : (I 2 2) = (-1 : Int32)
    · replace hf := (if_pos c2).symm.trans hf
      refine X_icmp_eq_t (pc := 15) 28 dX11_go_15 (by decide) c2 ?_
      refine X_bipush (pc := 28) (-2 : Int32) dX11_go_28 (by decide) ?_
      cases hf
      exact X_ireturn (pc := 30) rfl dX11_go_30
    · replace hf := (if_neg c2).symm.trans hf
      refine X_icmp_eq_f (pc := 15) 28 dX11_go_15 (by decide) c2 ?_
      refine X_aload_n (pc := 18) (i := 0) 0 dX11_go_18 rfl rfl ?_
      refine X_getr (pc := 19) (a := 0) (ci := 10) (j := 1) (c := 2) (sh_0 hT) (by decide) k_378 (rf_0_1 hT) (fun _ h => h) dX11_go_19 ?_
      refine X_get (pc := 22) (a := 2) (ci := 6) (j := 4) (.int (I 2 4)) (sh_2 hT) (by decide) k_114 rfl dX11_go_22 ?_
      by_cases c3 : (I 2 4) = (0 : Int32)
      · replace hf := (if_pos c3).symm.trans hf
        refine X_if_eq_t (pc := 25) 31 dX11_go_25 (by decide) c3 ?_
        refine X_aload_n (pc := 31) (i := 0) 0 dX11_go_31 rfl rfl ?_
        refine X_iconst (pc := 32) (1 : Int32) dX11_go_32 (by decide) ?_
        refine X_putz (pc := 33) (a := 0) (ci := 10) (j := 8) false (sh_0 hT) (by decide) k_385 rfl (fun h => by cases h) rfl (by decide) dX11_go_33 ?_
        refine X_aload_n (pc := 36) (i := 0) 0 dX11_go_36 rfl rfl ?_
        refine X_getr (pc := 37) (a := 0) (ci := 10) (j := 1) (c := 2) (sh_0 hT) (by decide) k_378 (rf_0_1 hT) (fun _ h => h) dX11_go_37 ?_
        obtain ⟨q4, c5, hf⟩ := bd_some hf
        refine X_invV_i (pc := 40) (c_Ge_countKnown hT c5) ok_Ge_countKnown (ci := 6) (sh_2 hT) k_677 k_678 k_679 nd_4 (by decide) rfl (Nat.le_of_ble_eq_true rfl) dX11_go_40 ?_
        cases hf
        exact X_ireturn (pc := 43) rfl dX11_go_43
      · replace hf := (if_neg c3).symm.trans hf
        refine X_if_eq_f (pc := 25) 31 dX11_go_25 (by decide) c3 ?_
        refine X_bipush (pc := 28) (-2 : Int32) dX11_go_28 (by decide) ?_
        cases hf
        exact X_ireturn (pc := 30) rfl dX11_go_30
  · replace hf := (if_neg c1).symm.trans hf
    refine X_if_ne_t (pc := 4) 28 dX11_go_4 (by decide) c1 ?_
    refine X_bipush (pc := 28) (-2 : Int32) dX11_go_28 (by decide) ?_
    cases hf
    exact X_ireturn (pc := 30) rfl dX11_go_30
theorem u_H_go {S : List xSh} {I : Nat → Nat → Int32} {L : Nat → Nat → Int64} {q : (Int32 × (Nat → Nat → Int32) × (Nat → Nat → Int64))} (hf : f_H_go I L = some q) : FR S [1008] [] I q.2.1 L q.2.2 := by
  replace hf := (f_H_go.eq_1 _ _).symm.trans hf
  by_cases c1 : (I 0 8) = (0 : Int32)
  · replace hf := (if_pos c1).symm.trans hf
    by_cases c2 : (I 2 2) = (-1 : Int32)
    · replace hf := (if_pos c2).symm.trans hf
      cases hf
      exact FR.rf
    · replace hf := (if_neg c2).symm.trans hf
      by_cases c3 : (I 2 4) = (0 : Int32)
      · replace hf := (if_pos c3).symm.trans hf
        obtain ⟨q4, c5, hf⟩ := bd_some hf
        cases hf
        exact (FR.fi FR.rf (by decide))
      · replace hf := (if_neg c3).symm.trans hf
        cases hf
        exact FR.rf
  · replace hf := (if_neg c1).symm.trans hf
    cases hf
    exact FR.rf
theorem dX7_open_0 : decode cX7_open 0 = .ok (.aload_n 0, 1) := by decide +kernel
theorem dX7_open_1 : decode cX7_open 1 = .ok (.dup, 1) := by decide +kernel
theorem dX7_open_2 : decode cX7_open 2 = .ok (.getfield 22, 3) := by decide +kernel
theorem dX7_open_5 : decode cX7_open 5 = .ok (.iconst 1, 1) := by decide +kernel
theorem dX7_open_6 : decode cX7_open 6 = .ok (.iadd, 1) := by decide +kernel
theorem dX7_open_7 : decode cX7_open 7 = .ok (.putfield 22, 3) := by decide +kernel
theorem dX7_open_10 : decode cX7_open 10 = .ok (.aload_n 0, 1) := by decide +kernel
theorem dX7_open_11 : decode cX7_open 11 = .ok (.getfield 22, 3) := by decide +kernel
theorem dX7_open_14 : decode cX7_open 14 = .ok (.aload_n 0, 1) := by decide +kernel
theorem dX7_open_15 : decode cX7_open 15 = .ok (.getfield 15, 3) := by decide +kernel
theorem dX7_open_18 : decode cX7_open 18 = .ok (.if_icmp .gt 12, 3) := by decide +kernel
theorem dX7_open_21 : decode cX7_open 21 = .ok (.aload_n 0, 1) := by decide +kernel
theorem dX7_open_22 : decode cX7_open 22 = .ok (.getfield 22, 3) := by decide +kernel
theorem dX7_open_25 : decode cX7_open 25 = .ok (.iconst 1, 1) := by decide +kernel
theorem dX7_open_26 : decode cX7_open 26 = .ok (.isub, 1) := by decide +kernel
theorem dX7_open_27 : decode cX7_open 27 = .ok (.goto 4, 3) := by decide +kernel
theorem dX7_open_30 : decode cX7_open 30 = .ok (.iconst (-1), 1) := by decide +kernel
theorem dX7_open_31 : decode cX7_open 31 = .ok (.ireturn, 1) := by decide +kernel
def f_Ro_open_15 (I : Nat → Nat → Int32) (L : Nat → Nat → Int64) : Option (Int32 × (Nat → Nat → Int32) × (Nat → Nat → Int64)) := (bnd ((I 15 3) + (1 : Int32)) fun x1 => (if (I 15 1) < x1 then (some ((-1 : Int32), (uI I 15 3 x1), L)) else (some ((x1 - (1 : Int32)), (uI I 15 3 x1), L))))
set_option maxRecDepth 100000 in
set_option maxHeartbeats 4000000 in
theorem c_Ro_open_15 {G : xG} {S : List xSh} {Rf : Nat → Nat → Option Nat} (hT : xTH S Rf) {I : Nat → Nat → Int32} {L : Nat → Nat → Int64} {q : (Int32 × (Nat → Nat → Int32) × (Nat → Nat → Int64))} (hf : f_Ro_open_15 I L = some q) : CT G 1 m_Ro_open [.ref (xB G + 15)] (S, I, L, Rf) (some (.int q.1), (S, q.2.1, q.2.2, Rf)) := by
  refine CT.of (by decide +kernel) (Nat.le_of_ble_eq_true rfl) ?_
  show X G 1 m_Ro_open 0 [(0, .ref (xB G + 15))] [] (S, I, L, Rf) (some (.int q.1), (S, q.2.1, q.2.2, Rf))
  replace hf := (f_Ro_open_15.eq_1 _ _).symm.trans hf
  refine X_aload_n (pc := 0) (i := 0) 0 dX7_open_0 rfl rfl ?_
  refine X_dup (pc := 1) dX7_open_1 rfl ?_
  refine X_get (pc := 2) (a := 15) (ci := 7) (j := 3) (.int (I 15 3)) (sh_15 hT) (by decide) k_160 rfl dX7_open_2 ?_
  refine X_iconst (pc := 5) (1 : Int32) dX7_open_5 (by decide) ?_
  refine X_iadd (pc := 6) dX7_open_6 ?_
  obtain ⟨x1, ex1, hf⟩ := bnd_e hf
  refine X_tope ex1 ?_
  refine X_puti (pc := 7) (a := 15) (ci := 7) (j := 3) false (sh_15 hT) (by decide) k_160 rfl (fun h => by cases h) rfl dX7_open_7 ?_
  refine X_aload_n (pc := 10) (i := 0) 0 dX7_open_10 rfl rfl ?_
  refine X_get (pc := 11) (a := 15) (ci := 7) (j := 3) (.int x1) (sh_15 hT) (by decide) k_160 rfl dX7_open_11 ?_
  refine X_aload_n (pc := 14) (i := 0) 0 dX7_open_14 rfl rfl ?_
  refine X_get (pc := 15) (a := 15) (ci := 7) (j := 1) (.int (I 15 1)) (sh_15 hT) (by decide) k_158 rfl dX7_open_15 ?_
  by_cases c2 : (I 15 1) < x1
  · replace hf := (if_pos c2).symm.trans hf
    refine X_icmp_gt_t (pc := 18) 30 dX7_open_18 (by decide) c2 ?_
    refine X_iconst (pc := 30) (-1 : Int32) dX7_open_30 (by decide) ?_
    cases hf
    exact X_ireturn (pc := 31) rfl dX7_open_31
  · replace hf := (if_neg c2).symm.trans hf
    refine X_icmp_gt_f (pc := 18) 30 dX7_open_18 (by decide) c2 ?_
    refine X_aload_n (pc := 21) (i := 0) 0 dX7_open_21 rfl rfl ?_
    refine X_get (pc := 22) (a := 15) (ci := 7) (j := 3) (.int x1) (sh_15 hT) (by decide) k_160 rfl dX7_open_22 ?_
    refine X_iconst (pc := 25) (1 : Int32) dX7_open_25 (by decide) ?_
    refine X_isub (pc := 26) dX7_open_26 ?_
    refine X_goto (pc := 27) 31 dX7_open_27 (by decide) ?_
    cases hf
    exact X_ireturn (pc := 31) rfl dX7_open_31
theorem u_Ro_open_15 {S : List xSh} {I : Nat → Nat → Int32} {L : Nat → Nat → Int64} {q : (Int32 × (Nat → Nat → Int32) × (Nat → Nat → Int64))} (hf : f_Ro_open_15 I L = some q) : FR S [2503] [] I q.2.1 L q.2.2 := by
  replace hf := (f_Ro_open_15.eq_1 _ _).symm.trans hf
  obtain ⟨x1, ex1, hf⟩ := bnd_e hf
  by_cases c2 : (I 15 1) < x1
  · replace hf := (if_pos c2).symm.trans hf
    cases hf
    exact (FR.fi FR.rf (by decide))
  · replace hf := (if_neg c2).symm.trans hf
    cases hf
    exact (FR.fi FR.rf (by decide))
theorem dX7_write_0 : decode cX7_write 0 = .ok (.iload_n 1, 1) := by decide +kernel
theorem dX7_write_1 : decode cX7_write 1 = .ok (.aload_n 0, 1) := by decide +kernel
theorem dX7_write_2 : decode cX7_write 2 = .ok (.getfield 9, 3) := by decide +kernel
theorem dX7_write_5 : decode cX7_write 5 = .ok (.imul, 1) := by decide +kernel
theorem dX7_write_6 : decode cX7_write 6 = .ok (.iload_n 2, 1) := by decide +kernel
theorem dX7_write_7 : decode cX7_write 7 = .ok (.iadd, 1) := by decide +kernel
theorem dX7_write_8 : decode cX7_write 8 = .ok (.istore 4, 2) := by decide +kernel
theorem dX7_write_10 : decode cX7_write 10 = .ok (.iload_n 1, 1) := by decide +kernel
theorem dX7_write_11 : decode cX7_write 11 = .ok (.ifCond .lt 33, 3) := by decide +kernel
theorem dX7_write_14 : decode cX7_write 14 = .ok (.iload_n 2, 1) := by decide +kernel
theorem dX7_write_15 : decode cX7_write 15 = .ok (.ifCond .lt 29, 3) := by decide +kernel
theorem dX7_write_18 : decode cX7_write 18 = .ok (.iload_n 2, 1) := by decide +kernel
theorem dX7_write_19 : decode cX7_write 19 = .ok (.aload_n 0, 1) := by decide +kernel
theorem dX7_write_20 : decode cX7_write 20 = .ok (.getfield 9, 3) := by decide +kernel
theorem dX7_write_23 : decode cX7_write 23 = .ok (.if_icmp .ge 21, 3) := by decide +kernel
theorem dX7_write_26 : decode cX7_write 26 = .ok (.iload 4, 2) := by decide +kernel
theorem dX7_write_28 : decode cX7_write 28 = .ok (.aload_n 0, 1) := by decide +kernel
theorem dX7_write_29 : decode cX7_write 29 = .ok (.getfield 18, 3) := by decide +kernel
theorem dX7_write_32 : decode cX7_write 32 = .ok (.arraylength, 1) := by decide +kernel
theorem dX7_write_33 : decode cX7_write 33 = .ok (.if_icmp .ge 11, 3) := by decide +kernel
theorem dX7_write_36 : decode cX7_write 36 = .ok (.aload_n 0, 1) := by decide +kernel
theorem dX7_write_37 : decode cX7_write 37 = .ok (.getfield 18, 3) := by decide +kernel
theorem dX7_write_40 : decode cX7_write 40 = .ok (.iload 4, 2) := by decide +kernel
theorem dX7_write_42 : decode cX7_write 42 = .ok (.iload_n 3, 1) := by decide +kernel
theorem dX7_write_43 : decode cX7_write 43 = .ok (.iastore, 1) := by decide +kernel
theorem dX7_write_44 : decode cX7_write 44 = .ok (.return_, 1) := by decide +kernel
def f_Ro_write_15 (a0 : Int32) (a1 : Int32) (a2 : Int32) (I : Nat → Nat → Int32) (L : Nat → Nat → Int64) : Option ((Nat → Nat → Int32) × (Nat → Nat → Int64)) := (bnd ((a0 * (I 15 0)) + a1) fun x1 => (if a0 < (0 : Int32) then (some (I, L)) else (if a1 < (0 : Int32) then (some (I, L)) else (if (I 15 0) ≤ a1 then (some (I, L)) else (if (8000 : Int32) ≤ x1 then (some (I, L)) else (if (0 ≤ x1 ∧ x1 < (8000 : Int32)) then (some ((uI I 16 (x1.toNatClampNeg) a2), L)) else none))))))
set_option maxRecDepth 100000 in
set_option maxHeartbeats 4000000 in
theorem c_Ro_write_15 {G : xG} {S : List xSh} {Rf : Nat → Nat → Option Nat} (hT : xTH S Rf) {a0 : Int32} {a1 : Int32} {a2 : Int32} {I : Nat → Nat → Int32} {L : Nat → Nat → Int64} {q : ((Nat → Nat → Int32) × (Nat → Nat → Int64))} (hf : f_Ro_write_15 a0 a1 a2 I L = some q) : CT G 1 m_Ro_write [.ref (xB G + 15), .int a0, .int a1, .int a2] (S, I, L, Rf) (none, (S, q.1, q.2, Rf)) := by
  refine CT.of (by decide +kernel) (Nat.le_of_ble_eq_true rfl) ?_
  show X G 1 m_Ro_write 0 [(0, .ref (xB G + 15)), (1, .int a0), (2, .int a1), (3, .int a2)] [] (S, I, L, Rf) (none, (S, q.1, q.2, Rf))
  replace hf := (f_Ro_write_15.eq_1 _ _ _ _ _).symm.trans hf
  refine X_iload_n (pc := 0) (i := 1) 1 dX7_write_0 rfl rfl ?_
  refine X_aload_n (pc := 1) (i := 0) 0 dX7_write_1 rfl rfl ?_
  refine X_get (pc := 2) (a := 15) (ci := 7) (j := 0) (.int (I 15 0)) (sh_15 hT) (by decide) k_157 rfl dX7_write_2 ?_
  refine X_imul (pc := 5) dX7_write_5 ?_
  refine X_iload_n (pc := 6) (i := 2) 2 dX7_write_6 rfl rfl ?_
  refine X_iadd (pc := 7) dX7_write_7 ?_
  obtain ⟨x1, ex1, hf⟩ := bnd_e hf
  refine X_tope ex1 ?_
  refine X_istore (pc := 8) [(4, .int x1), (0, .ref (xB G + 15)), (1, .int a0), (2, .int a1), (3, .int a2)] dX7_write_8 (by decide) rfl ?_
  refine X_iload_n (pc := 10) (i := 1) 2 dX7_write_10 rfl rfl ?_
  by_cases c2 : a0 < (0 : Int32)
  · replace hf := (if_pos c2).symm.trans hf
    refine X_if_lt_t (pc := 11) 44 dX7_write_11 (by decide) c2 ?_
    cases hf
    exact X_return (pc := 44) rfl dX7_write_44
  · replace hf := (if_neg c2).symm.trans hf
    refine X_if_lt_f (pc := 11) 44 dX7_write_11 (by decide) c2 ?_
    refine X_iload_n (pc := 14) (i := 2) 3 dX7_write_14 rfl rfl ?_
    by_cases c3 : a1 < (0 : Int32)
    · replace hf := (if_pos c3).symm.trans hf
      refine X_if_lt_t (pc := 15) 44 dX7_write_15 (by decide) c3 ?_
      cases hf
      exact X_return (pc := 44) rfl dX7_write_44
    · replace hf := (if_neg c3).symm.trans hf
      refine X_if_lt_f (pc := 15) 44 dX7_write_15 (by decide) c3 ?_
      refine X_iload_n (pc := 18) (i := 2) 3 dX7_write_18 rfl rfl ?_
      refine X_aload_n (pc := 19) (i := 0) 1 dX7_write_19 rfl rfl ?_
      refine X_get (pc := 20) (a := 15) (ci := 7) (j := 0) (.int (I 15 0)) (sh_15 hT) (by decide) k_157 rfl dX7_write_20 ?_
      by_cases c4 : (I 15 0) ≤ a1
      · replace hf := (if_pos c4).symm.trans hf
        refine X_icmp_ge_t (pc := 23) 44 dX7_write_23 (by decide) c4 ?_
        cases hf
        exact X_return (pc := 44) rfl dX7_write_44
      · replace hf := (if_neg c4).symm.trans hf
        refine X_icmp_ge_f (pc := 23) 44 dX7_write_23 (by decide) c4 ?_
        refine X_iload (pc := 26) 0 dX7_write_26 rfl ?_
        refine X_aload_n (pc := 28) (i := 0) 1 dX7_write_28 rfl rfl ?_
        refine X_getr (pc := 29) (a := 15) (ci := 7) (j := 2) (c := 16) (sh_15 hT) (by decide) k_159 (rf_15_2 hT) (fun _ h => h) dX7_write_29 ?_
        refine X_alen (pc := 32) (8000 : Int32) (by decide) (sh_16 hT) (by decide) dX7_write_32 ?_
        by_cases c5 : (8000 : Int32) ≤ x1
        · replace hf := (if_pos c5).symm.trans hf
          refine X_icmp_ge_t (pc := 33) 44 dX7_write_33 (by decide) c5 ?_
          cases hf
          exact X_return (pc := 44) rfl dX7_write_44
        · replace hf := (if_neg c5).symm.trans hf
          refine X_icmp_ge_f (pc := 33) 44 dX7_write_33 (by decide) c5 ?_
          refine X_aload_n (pc := 36) (i := 0) 1 dX7_write_36 rfl rfl ?_
          refine X_getr (pc := 37) (a := 15) (ci := 7) (j := 2) (c := 16) (sh_15 hT) (by decide) k_159 (rf_15_2 hT) (fun _ h => h) dX7_write_37 ?_
          refine X_iload (pc := 40) 0 dX7_write_40 rfl ?_
          refine X_iload_n (pc := 42) (i := 3) 4 dX7_write_42 rfl rfl ?_
          obtain ⟨c6, hf⟩ := gd_some hf
          refine X_iastj (pc := 43) (j := (x1.toNatClampNeg)) (sh_16 hT) (vp_in_lit (N := 8000) c6 (by decide)) rfl dX7_write_43 ?_
          cases hf
          exact X_return (pc := 44) rfl dX7_write_44
theorem u_Ro_write_15 {S : List xSh} {a0 : Int32} {a1 : Int32} {a2 : Int32} {I : Nat → Nat → Int32} {L : Nat → Nat → Int64} {q : ((Nat → Nat → Int32) × (Nat → Nat → Int64))} (hf : f_Ro_write_15 a0 a1 a2 I L = some q) : FR S [16] [] I q.1 L q.2 := by
  replace hf := (f_Ro_write_15.eq_1 _ _ _ _ _).symm.trans hf
  obtain ⟨x1, ex1, hf⟩ := bnd_e hf
  by_cases c2 : a0 < (0 : Int32)
  · replace hf := (if_pos c2).symm.trans hf
    cases hf
    exact FR.rf
  · replace hf := (if_neg c2).symm.trans hf
    by_cases c3 : a1 < (0 : Int32)
    · replace hf := (if_pos c3).symm.trans hf
      cases hf
      exact FR.rf
    · replace hf := (if_neg c3).symm.trans hf
      by_cases c4 : (I 15 0) ≤ a1
      · replace hf := (if_pos c4).symm.trans hf
        cases hf
        exact FR.rf
      · replace hf := (if_neg c4).symm.trans hf
        by_cases c5 : (8000 : Int32) ≤ x1
        · replace hf := (if_pos c5).symm.trans hf
          cases hf
          exact FR.rf
        · replace hf := (if_neg c5).symm.trans hf
          obtain ⟨c6, hf⟩ := gd_some hf
          cases hf
          exact (FR.ai FR.rf (by decide))
theorem dX11_enter_0 : decode cX11_enter 0 = .ok (.aload_n 0, 1) := by decide +kernel
theorem dX11_enter_1 : decode cX11_enter 1 = .ok (.getfield 42, 3) := by decide +kernel
theorem dX11_enter_4 : decode cX11_enter 4 = .ok (.getfield 73, 3) := by decide +kernel
theorem dX11_enter_7 : decode cX11_enter 7 = .ok (.sipush 2000, 3) := by decide +kernel
theorem dX11_enter_10 : decode cX11_enter 10 = .ok (.if_icmp .lt 5, 3) := by decide +kernel
theorem dX11_enter_13 : decode cX11_enter 13 = .ok (.iconst 0, 1) := by decide +kernel
theorem dX11_enter_14 : decode cX11_enter 14 = .ok (.ireturn, 1) := by decide +kernel
theorem dX11_enter_15 : decode cX11_enter 15 = .ok (.aload_n 0, 1) := by decide +kernel
theorem dX11_enter_16 : decode cX11_enter 16 = .ok (.getfield 42, 3) := by decide +kernel
theorem dX11_enter_19 : decode cX11_enter 19 = .ok (.invokevirtual 374, 3) := by decide +kernel
theorem dX11_enter_22 : decode cX11_enter 22 = .ok (.istore 5, 2) := by decide +kernel
theorem dX11_enter_24 : decode cX11_enter 24 = .ok (.aload_n 0, 1) := by decide +kernel
theorem dX11_enter_25 : decode cX11_enter 25 = .ok (.getfield 42, 3) := by decide +kernel
theorem dX11_enter_28 : decode cX11_enter 28 = .ok (.iload 5, 2) := by decide +kernel
theorem dX11_enter_30 : decode cX11_enter 30 = .ok (.iconst 0, 1) := by decide +kernel
theorem dX11_enter_31 : decode cX11_enter 31 = .ok (.iload_n 1, 1) := by decide +kernel
theorem dX11_enter_32 : decode cX11_enter 32 = .ok (.invokevirtual 377, 3) := by decide +kernel
theorem dX11_enter_35 : decode cX11_enter 35 = .ok (.aload_n 0, 1) := by decide +kernel
theorem dX11_enter_36 : decode cX11_enter 36 = .ok (.getfield 42, 3) := by decide +kernel
theorem dX11_enter_39 : decode cX11_enter 39 = .ok (.iload 5, 2) := by decide +kernel
theorem dX11_enter_41 : decode cX11_enter 41 = .ok (.iconst 1, 1) := by decide +kernel
theorem dX11_enter_42 : decode cX11_enter 42 = .ok (.iload_n 2, 1) := by decide +kernel
theorem dX11_enter_43 : decode cX11_enter 43 = .ok (.invokevirtual 377, 3) := by decide +kernel
theorem dX11_enter_46 : decode cX11_enter 46 = .ok (.aload_n 0, 1) := by decide +kernel
theorem dX11_enter_47 : decode cX11_enter 47 = .ok (.getfield 42, 3) := by decide +kernel
theorem dX11_enter_50 : decode cX11_enter 50 = .ok (.iload 5, 2) := by decide +kernel
theorem dX11_enter_52 : decode cX11_enter 52 = .ok (.iconst 2, 1) := by decide +kernel
theorem dX11_enter_53 : decode cX11_enter 53 = .ok (.iload_n 3, 1) := by decide +kernel
theorem dX11_enter_54 : decode cX11_enter 54 = .ok (.invokevirtual 377, 3) := by decide +kernel
theorem dX11_enter_57 : decode cX11_enter 57 = .ok (.aload_n 0, 1) := by decide +kernel
theorem dX11_enter_58 : decode cX11_enter 58 = .ok (.getfield 42, 3) := by decide +kernel
theorem dX11_enter_61 : decode cX11_enter 61 = .ok (.iload 5, 2) := by decide +kernel
theorem dX11_enter_63 : decode cX11_enter 63 = .ok (.iconst 3, 1) := by decide +kernel
theorem dX11_enter_64 : decode cX11_enter 64 = .ok (.iload 4, 2) := by decide +kernel
theorem dX11_enter_66 : decode cX11_enter 66 = .ok (.invokevirtual 377, 3) := by decide +kernel
theorem dX11_enter_69 : decode cX11_enter 69 = .ok (.iconst 1, 1) := by decide +kernel
theorem dX11_enter_70 : decode cX11_enter 70 = .ok (.ireturn, 1) := by decide +kernel
def f_H_enter (a0 : Int32) (a1 : Int32) (a2 : Int32) (a3 : Int32) (I : Nat → Nat → Int32) (L : Nat → Nat → Int64) : Option (Int32 × (Nat → Nat → Int32) × (Nat → Nat → Int64)) := (if (I 15 3) < (2000 : Int32) then ((f_Ro_open_15 I L).bind fun q2 => ((f_Ro_write_15 q2.1 (0 : Int32) a0 q2.2.1 q2.2.2).bind fun q4 => ((f_Ro_write_15 q2.1 (1 : Int32) a1 q4.1 q4.2).bind fun q6 => ((f_Ro_write_15 q2.1 (2 : Int32) a2 q6.1 q6.2).bind fun q8 => ((f_Ro_write_15 q2.1 (3 : Int32) a3 q8.1 q8.2).bind fun q10 => (some ((1 : Int32), q10.1, q10.2))))))) else (some ((0 : Int32), I, L)))
set_option maxRecDepth 100000 in
set_option maxHeartbeats 4000000 in
theorem c_H_enter {G : xG} {S : List xSh} {Rf : Nat → Nat → Option Nat} (hT : xTH S Rf) {a0 : Int32} {a1 : Int32} {a2 : Int32} {a3 : Int32} {I : Nat → Nat → Int32} {L : Nat → Nat → Int64} {q : (Int32 × (Nat → Nat → Int32) × (Nat → Nat → Int64))} (hf : f_H_enter a0 a1 a2 a3 I L = some q) : CT G 2 m_H_enter [.ref (xB G + 0), .int a0, .int a1, .int a2, .int a3] (S, I, L, Rf) (some (.int q.1), (S, q.2.1, q.2.2, Rf)) := by
  refine CT.of (by decide +kernel) (Nat.le_of_ble_eq_true rfl) ?_
  show X G 2 m_H_enter 0 [(0, .ref (xB G + 0)), (1, .int a0), (2, .int a1), (3, .int a2), (4, .int a3)] [] (S, I, L, Rf) (some (.int q.1), (S, q.2.1, q.2.2, Rf))
  replace hf := (f_H_enter.eq_1 _ _ _ _ _ _).symm.trans hf
  refine X_aload_n (pc := 0) (i := 0) 0 dX11_enter_0 rfl rfl ?_
  refine X_getr (pc := 1) (a := 0) (ci := 10) (j := 5) (c := 15) (sh_0 hT) (by decide) k_382 (rf_0_5 hT) (fun _ h => h) dX11_enter_1 ?_
  refine X_get (pc := 4) (a := 15) (ci := 7) (j := 3) (.int (I 15 3)) (sh_15 hT) (by decide) k_161 rfl dX11_enter_4 ?_
  refine X_sipush (pc := 7) (2000 : Int32) dX11_enter_7 (by decide) ?_
  by_cases c1 : (I 15 3) < (2000 : Int32)
  · replace hf := (if_pos c1).symm.trans hf
    refine X_icmp_lt_t (pc := 10) 15 dX11_enter_10 (by decide) c1 ?_
    refine X_aload_n (pc := 15) (i := 0) 0 dX11_enter_15 rfl rfl ?_
    refine X_getr (pc := 16) (a := 0) (ci := 10) (j := 5) (c := 15) (sh_0 hT) (by decide) k_382 (rf_0_5 hT) (fun _ h => h) dX11_enter_16 ?_
    obtain ⟨q2, c3, hf⟩ := bd_some hf
    refine X_invV_i (pc := 19) (c_Ro_open_15 hT c3) ok_Ro_open (ci := 7) (sh_15 hT) k_694 k_695 k_696 nd_4 (by decide) rfl (Nat.le_of_ble_eq_true rfl) dX11_enter_19 ?_
    refine X_istore (pc := 22) [(5, .int q2.1), (0, .ref (xB G + 0)), (1, .int a0), (2, .int a1), (3, .int a2), (4, .int a3)] dX11_enter_22 (by decide) rfl ?_
    refine X_aload_n (pc := 24) (i := 0) 1 dX11_enter_24 rfl rfl ?_
    refine X_getr (pc := 25) (a := 0) (ci := 10) (j := 5) (c := 15) (sh_0 hT) (by decide) k_382 (rf_0_5 hT) (fun _ h => h) dX11_enter_25 ?_
    refine X_iload (pc := 28) 0 dX11_enter_28 rfl ?_
    refine X_iconst (pc := 30) (0 : Int32) dX11_enter_30 (by decide) ?_
    refine X_iload_n (pc := 31) (i := 1) 2 dX11_enter_31 rfl rfl ?_
    obtain ⟨q4, c5, hf⟩ := bd_some hf
    refine X_invV_v (pc := 32) (c_Ro_write_15 hT c5) ok_Ro_write (ci := 7) (sh_15 hT) k_698 k_699 k_700 nd_7 (by decide) rfl (Nat.le_of_ble_eq_true rfl) dX11_enter_32 ?_
    refine X_aload_n (pc := 35) (i := 0) 1 dX11_enter_35 rfl rfl ?_
    refine X_getr (pc := 36) (a := 0) (ci := 10) (j := 5) (c := 15) (sh_0 hT) (by decide) k_382 (rf_0_5 hT) (fun _ h => h) dX11_enter_36 ?_
    refine X_iload (pc := 39) 0 dX11_enter_39 rfl ?_
    refine X_iconst (pc := 41) (1 : Int32) dX11_enter_41 (by decide) ?_
    refine X_iload_n (pc := 42) (i := 2) 3 dX11_enter_42 rfl rfl ?_
    obtain ⟨q6, c7, hf⟩ := bd_some hf
    refine X_invV_v (pc := 43) (c_Ro_write_15 hT c7) ok_Ro_write (ci := 7) (sh_15 hT) k_698 k_699 k_700 nd_7 (by decide) rfl (Nat.le_of_ble_eq_true rfl) dX11_enter_43 ?_
    refine X_aload_n (pc := 46) (i := 0) 1 dX11_enter_46 rfl rfl ?_
    refine X_getr (pc := 47) (a := 0) (ci := 10) (j := 5) (c := 15) (sh_0 hT) (by decide) k_382 (rf_0_5 hT) (fun _ h => h) dX11_enter_47 ?_
    refine X_iload (pc := 50) 0 dX11_enter_50 rfl ?_
    refine X_iconst (pc := 52) (2 : Int32) dX11_enter_52 (by decide) ?_
    refine X_iload_n (pc := 53) (i := 3) 4 dX11_enter_53 rfl rfl ?_
    obtain ⟨q8, c9, hf⟩ := bd_some hf
    refine X_invV_v (pc := 54) (c_Ro_write_15 hT c9) ok_Ro_write (ci := 7) (sh_15 hT) k_698 k_699 k_700 nd_7 (by decide) rfl (Nat.le_of_ble_eq_true rfl) dX11_enter_54 ?_
    refine X_aload_n (pc := 57) (i := 0) 1 dX11_enter_57 rfl rfl ?_
    refine X_getr (pc := 58) (a := 0) (ci := 10) (j := 5) (c := 15) (sh_0 hT) (by decide) k_382 (rf_0_5 hT) (fun _ h => h) dX11_enter_58 ?_
    refine X_iload (pc := 61) 0 dX11_enter_61 rfl ?_
    refine X_iconst (pc := 63) (3 : Int32) dX11_enter_63 (by decide) ?_
    refine X_iload (pc := 64) 5 dX11_enter_64 rfl ?_
    obtain ⟨q10, c11, hf⟩ := bd_some hf
    refine X_invV_v (pc := 66) (c_Ro_write_15 hT c11) ok_Ro_write (ci := 7) (sh_15 hT) k_698 k_699 k_700 nd_7 (by decide) rfl (Nat.le_of_ble_eq_true rfl) dX11_enter_66 ?_
    refine X_iconst (pc := 69) (1 : Int32) dX11_enter_69 (by decide) ?_
    cases hf
    exact X_zreturn (pc := 70) rfl (nar_b (by decide)) dX11_enter_70
  · replace hf := (if_neg c1).symm.trans hf
    refine X_icmp_lt_f (pc := 10) 15 dX11_enter_10 (by decide) c1 ?_
    refine X_iconst (pc := 13) (0 : Int32) dX11_enter_13 (by decide) ?_
    cases hf
    exact X_zreturn (pc := 14) rfl (nar_b (by decide)) dX11_enter_14
theorem u_H_enter {S : List xSh} {a0 : Int32} {a1 : Int32} {a2 : Int32} {a3 : Int32} {I : Nat → Nat → Int32} {L : Nat → Nat → Int64} {q : (Int32 × (Nat → Nat → Int32) × (Nat → Nat → Int64))} (hf : f_H_enter a0 a1 a2 a3 I L = some q) : FR S [16, 2503] [] I q.2.1 L q.2.2 := by
  replace hf := (f_H_enter.eq_1 _ _ _ _ _ _).symm.trans hf
  by_cases c1 : (I 15 3) < (2000 : Int32)
  · replace hf := (if_pos c1).symm.trans hf
    obtain ⟨q2, c3, hf⟩ := bd_some hf
    obtain ⟨q4, c5, hf⟩ := bd_some hf
    obtain ⟨q6, c7, hf⟩ := bd_some hf
    obtain ⟨q8, c9, hf⟩ := bd_some hf
    obtain ⟨q10, c11, hf⟩ := bd_some hf
    cases hf
    exact (FR.tr (FR.tr (FR.tr (FR.tr (FR.tr FR.rf (u_Ro_open_15 (q := q2) c3) (by decide) (by decide)) (u_Ro_write_15 (q := q4) c5) (by decide) (by decide)) (u_Ro_write_15 (q := q6) c7) (by decide) (by decide)) (u_Ro_write_15 (q := q8) c9) (by decide) (by decide)) (u_Ro_write_15 (q := q10) c11) (by decide) (by decide))
  · replace hf := (if_neg c1).symm.trans hf
    cases hf
    exact FR.rf
theorem dX5_held_0 : decode cX5_held 0 = .ok (.ldc2_w 134, 3) := by decide +kernel
theorem dX5_held_3 : decode cX5_held 3 = .ok (.ldc2_w 136, 3) := by decide +kernel
theorem dX5_held_6 : decode cX5_held 6 = .ok (.lload_n 0, 1) := by decide +kernel
theorem dX5_held_7 : decode cX5_held 7 = .ok (.invokestatic 95, 3) := by decide +kernel
theorem dX5_held_10 : decode cX5_held 10 = .ok (.invokestatic 138, 3) := by decide +kernel
theorem dX5_held_13 : decode cX5_held 13 = .ok (.l2i, 1) := by decide +kernel
theorem dX5_held_14 : decode cX5_held 14 = .ok (.ireturn, 1) := by decide +kernel
def f_Es_held (a0 : Int64) : Int32 := (bnd (Jmax (-1000000 : Int64) (Jmin (1000000 : Int64) a0)) fun x1 => (Int64.toInt32 x1))
set_option maxRecDepth 100000 in
set_option maxHeartbeats 4000000 in
theorem c_Es_held {G : xG} {S : List xSh} {Rf : Nat → Nat → Option Nat} (hT : xTH S Rf) {a0 : Int64} {I : Nat → Nat → Int32} {L : Nat → Nat → Int64} {q : Int32} (hf : f_Es_held a0 = q) : CT G 1 m_Es_held [.long a0] (S, I, L, Rf) (some (.int q), (S, I, L, Rf)) := by
  refine CT.of (by decide +kernel) (Nat.le_of_ble_eq_true rfl) ?_
  show X G 1 m_Es_held 0 [(0, .long a0)] [] (S, I, L, Rf) (some (.int q), (S, I, L, Rf))
  replace hf := (f_Es_held.eq_1 _).symm.trans hf
  refine X_ldc2 (pc := 0) (-1000000 : Int64) k_713 dX5_held_0 ?_
  refine X_ldc2 (pc := 3) (1000000 : Int64) k_714 dX5_held_3 ?_
  refine X_lload_n (pc := 6) (i := 0) 0 dX5_held_6 rfl rfl ?_
  refine X_Jmin (pc := 7) k_715 (by decide) (Nat.le_of_ble_eq_true rfl) dX5_held_7 ?_
  refine X_Jmax (pc := 10) k_718 (by decide) (Nat.le_of_ble_eq_true rfl) dX5_held_10 ?_
  obtain ⟨x1, ex1, hf⟩ := bnd_e hf
  refine X_tople ex1 ?_
  refine X_l2i (pc := 13) dX5_held_13 ?_
  subst hf
  exact X_ireturn (pc := 14) rfl dX5_held_14
def f_Ro_open_9 (I : Nat → Nat → Int32) (L : Nat → Nat → Int64) : Option (Int32 × (Nat → Nat → Int32) × (Nat → Nat → Int64)) := (bnd ((I 9 3) + (1 : Int32)) fun x1 => (if (I 9 1) < x1 then (some ((-1 : Int32), (uI I 9 3 x1), L)) else (some ((x1 - (1 : Int32)), (uI I 9 3 x1), L))))
set_option maxRecDepth 100000 in
set_option maxHeartbeats 4000000 in
theorem c_Ro_open_9 {G : xG} {S : List xSh} {Rf : Nat → Nat → Option Nat} (hT : xTH S Rf) {I : Nat → Nat → Int32} {L : Nat → Nat → Int64} {q : (Int32 × (Nat → Nat → Int32) × (Nat → Nat → Int64))} (hf : f_Ro_open_9 I L = some q) : CT G 1 m_Ro_open [.ref (xB G + 9)] (S, I, L, Rf) (some (.int q.1), (S, q.2.1, q.2.2, Rf)) := by
  refine CT.of (by decide +kernel) (Nat.le_of_ble_eq_true rfl) ?_
  show X G 1 m_Ro_open 0 [(0, .ref (xB G + 9))] [] (S, I, L, Rf) (some (.int q.1), (S, q.2.1, q.2.2, Rf))
  replace hf := (f_Ro_open_9.eq_1 _ _).symm.trans hf
  refine X_aload_n (pc := 0) (i := 0) 0 dX7_open_0 rfl rfl ?_
  refine X_dup (pc := 1) dX7_open_1 rfl ?_
  refine X_get (pc := 2) (a := 9) (ci := 7) (j := 3) (.int (I 9 3)) (sh_9 hT) (by decide) k_160 rfl dX7_open_2 ?_
  refine X_iconst (pc := 5) (1 : Int32) dX7_open_5 (by decide) ?_
  refine X_iadd (pc := 6) dX7_open_6 ?_
  obtain ⟨x1, ex1, hf⟩ := bnd_e hf
  refine X_tope ex1 ?_
  refine X_puti (pc := 7) (a := 9) (ci := 7) (j := 3) false (sh_9 hT) (by decide) k_160 rfl (fun h => by cases h) rfl dX7_open_7 ?_
  refine X_aload_n (pc := 10) (i := 0) 0 dX7_open_10 rfl rfl ?_
  refine X_get (pc := 11) (a := 9) (ci := 7) (j := 3) (.int x1) (sh_9 hT) (by decide) k_160 rfl dX7_open_11 ?_
  refine X_aload_n (pc := 14) (i := 0) 0 dX7_open_14 rfl rfl ?_
  refine X_get (pc := 15) (a := 9) (ci := 7) (j := 1) (.int (I 9 1)) (sh_9 hT) (by decide) k_158 rfl dX7_open_15 ?_
  by_cases c2 : (I 9 1) < x1
  · replace hf := (if_pos c2).symm.trans hf
    refine X_icmp_gt_t (pc := 18) 30 dX7_open_18 (by decide) c2 ?_
    refine X_iconst (pc := 30) (-1 : Int32) dX7_open_30 (by decide) ?_
    cases hf
    exact X_ireturn (pc := 31) rfl dX7_open_31
  · replace hf := (if_neg c2).symm.trans hf
    refine X_icmp_gt_f (pc := 18) 30 dX7_open_18 (by decide) c2 ?_
    refine X_aload_n (pc := 21) (i := 0) 0 dX7_open_21 rfl rfl ?_
    refine X_get (pc := 22) (a := 9) (ci := 7) (j := 3) (.int x1) (sh_9 hT) (by decide) k_160 rfl dX7_open_22 ?_
    refine X_iconst (pc := 25) (1 : Int32) dX7_open_25 (by decide) ?_
    refine X_isub (pc := 26) dX7_open_26 ?_
    refine X_goto (pc := 27) 31 dX7_open_27 (by decide) ?_
    cases hf
    exact X_ireturn (pc := 31) rfl dX7_open_31
theorem u_Ro_open_9 {S : List xSh} {I : Nat → Nat → Int32} {L : Nat → Nat → Int64} {q : (Int32 × (Nat → Nat → Int32) × (Nat → Nat → Int64))} (hf : f_Ro_open_9 I L = some q) : FR S [1903] [] I q.2.1 L q.2.2 := by
  replace hf := (f_Ro_open_9.eq_1 _ _).symm.trans hf
  obtain ⟨x1, ex1, hf⟩ := bnd_e hf
  by_cases c2 : (I 9 1) < x1
  · replace hf := (if_pos c2).symm.trans hf
    cases hf
    exact (FR.fi FR.rf (by decide))
  · replace hf := (if_neg c2).symm.trans hf
    cases hf
    exact (FR.fi FR.rf (by decide))
def f_Ro_write_9 (a0 : Int32) (a1 : Int32) (a2 : Int32) (I : Nat → Nat → Int32) (L : Nat → Nat → Int64) : Option ((Nat → Nat → Int32) × (Nat → Nat → Int64)) := (bnd ((a0 * (I 9 0)) + a1) fun x1 => (if a0 < (0 : Int32) then (some (I, L)) else (if a1 < (0 : Int32) then (some (I, L)) else (if (I 9 0) ≤ a1 then (some (I, L)) else (if (6000 : Int32) ≤ x1 then (some (I, L)) else (if (0 ≤ x1 ∧ x1 < (6000 : Int32)) then (some ((uI I 10 (x1.toNatClampNeg) a2), L)) else none))))))
set_option maxRecDepth 100000 in
set_option maxHeartbeats 4000000 in
theorem c_Ro_write_9 {G : xG} {S : List xSh} {Rf : Nat → Nat → Option Nat} (hT : xTH S Rf) {a0 : Int32} {a1 : Int32} {a2 : Int32} {I : Nat → Nat → Int32} {L : Nat → Nat → Int64} {q : ((Nat → Nat → Int32) × (Nat → Nat → Int64))} (hf : f_Ro_write_9 a0 a1 a2 I L = some q) : CT G 1 m_Ro_write [.ref (xB G + 9), .int a0, .int a1, .int a2] (S, I, L, Rf) (none, (S, q.1, q.2, Rf)) := by
  refine CT.of (by decide +kernel) (Nat.le_of_ble_eq_true rfl) ?_
  show X G 1 m_Ro_write 0 [(0, .ref (xB G + 9)), (1, .int a0), (2, .int a1), (3, .int a2)] [] (S, I, L, Rf) (none, (S, q.1, q.2, Rf))
  replace hf := (f_Ro_write_9.eq_1 _ _ _ _ _).symm.trans hf
  refine X_iload_n (pc := 0) (i := 1) 1 dX7_write_0 rfl rfl ?_
  refine X_aload_n (pc := 1) (i := 0) 0 dX7_write_1 rfl rfl ?_
  refine X_get (pc := 2) (a := 9) (ci := 7) (j := 0) (.int (I 9 0)) (sh_9 hT) (by decide) k_157 rfl dX7_write_2 ?_
  refine X_imul (pc := 5) dX7_write_5 ?_
  refine X_iload_n (pc := 6) (i := 2) 2 dX7_write_6 rfl rfl ?_
  refine X_iadd (pc := 7) dX7_write_7 ?_
  obtain ⟨x1, ex1, hf⟩ := bnd_e hf
  refine X_tope ex1 ?_
  refine X_istore (pc := 8) [(4, .int x1), (0, .ref (xB G + 9)), (1, .int a0), (2, .int a1), (3, .int a2)] dX7_write_8 (by decide) rfl ?_
  refine X_iload_n (pc := 10) (i := 1) 2 dX7_write_10 rfl rfl ?_
  by_cases c2 : a0 < (0 : Int32)
  · replace hf := (if_pos c2).symm.trans hf
    refine X_if_lt_t (pc := 11) 44 dX7_write_11 (by decide) c2 ?_
    cases hf
    exact X_return (pc := 44) rfl dX7_write_44
  · replace hf := (if_neg c2).symm.trans hf
    refine X_if_lt_f (pc := 11) 44 dX7_write_11 (by decide) c2 ?_
    refine X_iload_n (pc := 14) (i := 2) 3 dX7_write_14 rfl rfl ?_
    by_cases c3 : a1 < (0 : Int32)
    · replace hf := (if_pos c3).symm.trans hf
      refine X_if_lt_t (pc := 15) 44 dX7_write_15 (by decide) c3 ?_
      cases hf
      exact X_return (pc := 44) rfl dX7_write_44
    · replace hf := (if_neg c3).symm.trans hf
      refine X_if_lt_f (pc := 15) 44 dX7_write_15 (by decide) c3 ?_
      refine X_iload_n (pc := 18) (i := 2) 3 dX7_write_18 rfl rfl ?_
      refine X_aload_n (pc := 19) (i := 0) 1 dX7_write_19 rfl rfl ?_
      refine X_get (pc := 20) (a := 9) (ci := 7) (j := 0) (.int (I 9 0)) (sh_9 hT) (by decide) k_157 rfl dX7_write_20 ?_
      by_cases c4 : (I 9 0) ≤ a1
      · replace hf := (if_pos c4).symm.trans hf
        refine X_icmp_ge_t (pc := 23) 44 dX7_write_23 (by decide) c4 ?_
        cases hf
        exact X_return (pc := 44) rfl dX7_write_44
      · replace hf := (if_neg c4).symm.trans hf
        refine X_icmp_ge_f (pc := 23) 44 dX7_write_23 (by decide) c4 ?_
        refine X_iload (pc := 26) 0 dX7_write_26 rfl ?_
        refine X_aload_n (pc := 28) (i := 0) 1 dX7_write_28 rfl rfl ?_
        refine X_getr (pc := 29) (a := 9) (ci := 7) (j := 2) (c := 10) (sh_9 hT) (by decide) k_159 (rf_9_2 hT) (fun _ h => h) dX7_write_29 ?_
        refine X_alen (pc := 32) (6000 : Int32) (by decide) (sh_10 hT) (by decide) dX7_write_32 ?_
        by_cases c5 : (6000 : Int32) ≤ x1
        · replace hf := (if_pos c5).symm.trans hf
          refine X_icmp_ge_t (pc := 33) 44 dX7_write_33 (by decide) c5 ?_
          cases hf
          exact X_return (pc := 44) rfl dX7_write_44
        · replace hf := (if_neg c5).symm.trans hf
          refine X_icmp_ge_f (pc := 33) 44 dX7_write_33 (by decide) c5 ?_
          refine X_aload_n (pc := 36) (i := 0) 1 dX7_write_36 rfl rfl ?_
          refine X_getr (pc := 37) (a := 9) (ci := 7) (j := 2) (c := 10) (sh_9 hT) (by decide) k_159 (rf_9_2 hT) (fun _ h => h) dX7_write_37 ?_
          refine X_iload (pc := 40) 0 dX7_write_40 rfl ?_
          refine X_iload_n (pc := 42) (i := 3) 4 dX7_write_42 rfl rfl ?_
          obtain ⟨c6, hf⟩ := gd_some hf
          refine X_iastj (pc := 43) (j := (x1.toNatClampNeg)) (sh_10 hT) (vp_in_lit (N := 6000) c6 (by decide)) rfl dX7_write_43 ?_
          cases hf
          exact X_return (pc := 44) rfl dX7_write_44
theorem u_Ro_write_9 {S : List xSh} {a0 : Int32} {a1 : Int32} {a2 : Int32} {I : Nat → Nat → Int32} {L : Nat → Nat → Int64} {q : ((Nat → Nat → Int32) × (Nat → Nat → Int64))} (hf : f_Ro_write_9 a0 a1 a2 I L = some q) : FR S [10] [] I q.1 L q.2 := by
  replace hf := (f_Ro_write_9.eq_1 _ _ _ _ _).symm.trans hf
  obtain ⟨x1, ex1, hf⟩ := bnd_e hf
  by_cases c2 : a0 < (0 : Int32)
  · replace hf := (if_pos c2).symm.trans hf
    cases hf
    exact FR.rf
  · replace hf := (if_neg c2).symm.trans hf
    by_cases c3 : a1 < (0 : Int32)
    · replace hf := (if_pos c3).symm.trans hf
      cases hf
      exact FR.rf
    · replace hf := (if_neg c3).symm.trans hf
      by_cases c4 : (I 9 0) ≤ a1
      · replace hf := (if_pos c4).symm.trans hf
        cases hf
        exact FR.rf
      · replace hf := (if_neg c4).symm.trans hf
        by_cases c5 : (6000 : Int32) ≤ x1
        · replace hf := (if_pos c5).symm.trans hf
          cases hf
          exact FR.rf
        · replace hf := (if_neg c5).symm.trans hf
          obtain ⟨c6, hf⟩ := gd_some hf
          cases hf
          exact (FR.ai FR.rf (by decide))
theorem dX5_beat_0 : decode cX5_beat 0 = .ok (.aload_n 0, 1) := by decide +kernel
theorem dX5_beat_1 : decode cX5_beat 1 = .ok (.aload_n 0, 1) := by decide +kernel
theorem dX5_beat_2 : decode cX5_beat 2 = .ok (.getfield 69, 3) := by decide +kernel
theorem dX5_beat_5 : decode cX5_beat 5 = .ok (.ineg, 1) := by decide +kernel
theorem dX5_beat_6 : decode cX5_beat 6 = .ok (.putfield 69, 3) := by decide +kernel
theorem dX5_beat_9 : decode cX5_beat 9 = .ok (.iload_n 1, 1) := by decide +kernel
theorem dX5_beat_10 : decode cX5_beat 10 = .ok (.i2l, 1) := by decide +kernel
theorem dX5_beat_11 : decode cX5_beat 11 = .ok (.aload_n 0, 1) := by decide +kernel
theorem dX5_beat_12 : decode cX5_beat 12 = .ok (.getfield 53, 3) := by decide +kernel
theorem dX5_beat_15 : decode cX5_beat 15 = .ok (.i2l, 1) := by decide +kernel
theorem dX5_beat_16 : decode cX5_beat 16 = .ok (.lmul, 1) := by decide +kernel
theorem dX5_beat_17 : decode cX5_beat 17 = .ok (.bipush 16, 2) := by decide +kernel
theorem dX5_beat_19 : decode cX5_beat 19 = .ok (.lshr, 1) := by decide +kernel
theorem dX5_beat_20 : decode cX5_beat 20 = .ok (.lstore_n 2, 1) := by decide +kernel
theorem dX5_beat_21 : decode cX5_beat 21 = .ok (.aload_n 0, 1) := by decide +kernel
theorem dX5_beat_22 : decode cX5_beat 22 = .ok (.aload_n 0, 1) := by decide +kernel
theorem dX5_beat_23 : decode cX5_beat 23 = .ok (.getfield 66, 3) := by decide +kernel
theorem dX5_beat_26 : decode cX5_beat 26 = .ok (.ifCond .le 13, 3) := by decide +kernel
theorem dX5_beat_29 : decode cX5_beat 29 = .ok (.aload_n 0, 1) := by decide +kernel
theorem dX5_beat_30 : decode cX5_beat 30 = .ok (.getfield 66, 3) := by decide +kernel
theorem dX5_beat_33 : decode cX5_beat 33 = .ok (.i2l, 1) := by decide +kernel
theorem dX5_beat_34 : decode cX5_beat 34 = .ok (.lload_n 2, 1) := by decide +kernel
theorem dX5_beat_35 : decode cX5_beat 35 = .ok (.ladd, 1) := by decide +kernel
theorem dX5_beat_36 : decode cX5_beat 36 = .ok (.goto 10, 3) := by decide +kernel
theorem dX5_beat_39 : decode cX5_beat 39 = .ok (.aload_n 0, 1) := by decide +kernel
theorem dX5_beat_40 : decode cX5_beat 40 = .ok (.getfield 66, 3) := by decide +kernel
theorem dX5_beat_43 : decode cX5_beat 43 = .ok (.i2l, 1) := by decide +kernel
theorem dX5_beat_44 : decode cX5_beat 44 = .ok (.lload_n 2, 1) := by decide +kernel
theorem dX5_beat_45 : decode cX5_beat 45 = .ok (.lsub, 1) := by decide +kernel
theorem dX5_beat_46 : decode cX5_beat 46 = .ok (.invokestatic 87, 3) := by decide +kernel
theorem dX5_beat_49 : decode cX5_beat 49 = .ok (.putfield 66, 3) := by decide +kernel
theorem dX5_beat_52 : decode cX5_beat 52 = .ok (.aload_n 0, 1) := by decide +kernel
theorem dX5_beat_53 : decode cX5_beat 53 = .ok (.dup, 1) := by decide +kernel
theorem dX5_beat_54 : decode cX5_beat 54 = .ok (.getfield 75, 3) := by decide +kernel
theorem dX5_beat_57 : decode cX5_beat 57 = .ok (.iconst 1, 1) := by decide +kernel
theorem dX5_beat_58 : decode cX5_beat 58 = .ok (.iadd, 1) := by decide +kernel
theorem dX5_beat_59 : decode cX5_beat 59 = .ok (.putfield 75, 3) := by decide +kernel
theorem dX5_beat_62 : decode cX5_beat 62 = .ok (.aload_n 0, 1) := by decide +kernel
theorem dX5_beat_63 : decode cX5_beat 63 = .ok (.getfield 25, 3) := by decide +kernel
theorem dX5_beat_66 : decode cX5_beat 66 = .ok (.invokevirtual 127, 3) := by decide +kernel
theorem dX5_beat_69 : decode cX5_beat 69 = .ok (.istore 4, 2) := by decide +kernel
theorem dX5_beat_71 : decode cX5_beat 71 = .ok (.aload_n 0, 1) := by decide +kernel
theorem dX5_beat_72 : decode cX5_beat 72 = .ok (.getfield 25, 3) := by decide +kernel
theorem dX5_beat_75 : decode cX5_beat 75 = .ok (.iload 4, 2) := by decide +kernel
theorem dX5_beat_77 : decode cX5_beat 77 = .ok (.iconst 0, 1) := by decide +kernel
theorem dX5_beat_78 : decode cX5_beat 78 = .ok (.aload_n 0, 1) := by decide +kernel
theorem dX5_beat_79 : decode cX5_beat 79 = .ok (.getfield 72, 3) := by decide +kernel
theorem dX5_beat_82 : decode cX5_beat 82 = .ok (.invokevirtual 130, 3) := by decide +kernel
theorem dX5_beat_85 : decode cX5_beat 85 = .ok (.aload_n 0, 1) := by decide +kernel
theorem dX5_beat_86 : decode cX5_beat 86 = .ok (.getfield 25, 3) := by decide +kernel
theorem dX5_beat_89 : decode cX5_beat 89 = .ok (.iload 4, 2) := by decide +kernel
theorem dX5_beat_91 : decode cX5_beat 91 = .ok (.iconst 1, 1) := by decide +kernel
theorem dX5_beat_92 : decode cX5_beat 92 = .ok (.aload_n 0, 1) := by decide +kernel
theorem dX5_beat_93 : decode cX5_beat 93 = .ok (.getfield 81, 3) := by decide +kernel
theorem dX5_beat_96 : decode cX5_beat 96 = .ok (.invokevirtual 130, 3) := by decide +kernel
theorem dX5_beat_99 : decode cX5_beat 99 = .ok (.aload_n 0, 1) := by decide +kernel
theorem dX5_beat_100 : decode cX5_beat 100 = .ok (.iconst 0, 1) := by decide +kernel
theorem dX5_beat_101 : decode cX5_beat 101 = .ok (.putfield 81, 3) := by decide +kernel
theorem dX5_beat_104 : decode cX5_beat 104 = .ok (.return_, 1) := by decide +kernel
def f_Es_beat_L46 (s1 : Int64) (I : (Nat → Nat → Int32)) (L : (Nat → Nat → Int64)) : Option ((Nat → Nat → Int32) × (Nat → Nat → Int64)) := (bnd (f_Es_held s1) fun x4 => (bnd ((I 1 12) + (1 : Int32)) fun x5 => ((f_Ro_open_9 (uI (uI I 1 9 x4) 1 12 x5) L).bind fun q6 => ((f_Ro_write_9 q6.1 (0 : Int32) (q6.2.1 1 11) q6.2.1 q6.2.2).bind fun q8 => ((f_Ro_write_9 q6.1 (1 : Int32) (q8.1 1 14) q8.1 q8.2).bind fun q10 => (some ((uI q10.1 1 14 (0 : Int32)), q10.2)))))))
set_option maxRecDepth 100000 in
set_option maxHeartbeats 4000000 in
theorem x_Es_beat_L46 {G : xG} {S : List xSh} {Rf : Nat → Nat → Option Nat} (hT : xTH S Rf) {s1 : Int64} {I : Nat → Nat → Int32} {L : Nat → Nat → Int64} {q : ((Nat → Nat → Int32) × (Nat → Nat → Int64))} (hf : f_Es_beat_L46 s1 I L = some q) : X G 2 m_Es_beat 46 [(0, .ref (xB G + 1))] [.long s1, .ref (xB G + 1)] (S, I, L, Rf) (none, (S, q.1, q.2, Rf)) := by
  replace hf := (f_Es_beat_L46.eq_1 _ _ _).symm.trans hf
  refine X_invS_i (pc := 46) (c_Es_held hT rfl) ok_Es_held k_710 k_711 nd_19 (by decide) rfl (Nat.le_of_ble_eq_true rfl) dX5_beat_46 ?_
  obtain ⟨x4, ex4, hf⟩ := bnd_e hf
  refine X_tope ex4 ?_
  refine X_puti (pc := 49) (a := 1) (ci := 5) (j := 9) false (sh_1 hT) (by decide) k_185 rfl (fun h => by cases h) rfl dX5_beat_49 ?_
  refine X_aload_n (pc := 52) (i := 0) 0 dX5_beat_52 rfl rfl ?_
  refine X_dup (pc := 53) dX5_beat_53 rfl ?_
  refine X_get (pc := 54) (a := 1) (ci := 5) (j := 12) (.int (I 1 12)) (sh_1 hT) (by decide) k_191 rfl dX5_beat_54 ?_
  refine X_iconst (pc := 57) (1 : Int32) dX5_beat_57 (by decide) ?_
  refine X_iadd (pc := 58) dX5_beat_58 ?_
  obtain ⟨x5, ex5, hf⟩ := bnd_e hf
  refine X_tope ex5 ?_
  refine X_puti (pc := 59) (a := 1) (ci := 5) (j := 12) false (sh_1 hT) (by decide) k_191 rfl (fun h => by cases h) rfl dX5_beat_59 ?_
  refine X_aload_n (pc := 62) (i := 0) 0 dX5_beat_62 rfl rfl ?_
  refine X_getr (pc := 63) (a := 1) (ci := 5) (j := 15) (c := 9) (sh_1 hT) (by decide) k_197 (rf_1_15 hT) (fun _ h => h) dX5_beat_63 ?_
  obtain ⟨q6, c7, hf⟩ := bd_some hf
  refine X_invV_i (pc := 66) (c_Ro_open_9 hT c7) ok_Ro_open (ci := 7) (sh_9 hT) k_748 k_695 k_696 nd_4 (by decide) rfl (Nat.le_of_ble_eq_true rfl) dX5_beat_66 ?_
  refine X_istore (pc := 69) [(4, .int q6.1), (0, .ref (xB G + 1))] dX5_beat_69 (by decide) rfl ?_
  refine X_aload_n (pc := 71) (i := 0) 1 dX5_beat_71 rfl rfl ?_
  refine X_getr (pc := 72) (a := 1) (ci := 5) (j := 15) (c := 9) (sh_1 hT) (by decide) k_197 (rf_1_15 hT) (fun _ h => h) dX5_beat_72 ?_
  refine X_iload (pc := 75) 0 dX5_beat_75 rfl ?_
  refine X_iconst (pc := 77) (0 : Int32) dX5_beat_77 (by decide) ?_
  refine X_aload_n (pc := 78) (i := 0) 1 dX5_beat_78 rfl rfl ?_
  refine X_get (pc := 79) (a := 1) (ci := 5) (j := 11) (.int (q6.2.1 1 11)) (sh_1 hT) (by decide) k_189 rfl dX5_beat_79 ?_
  obtain ⟨q8, c9, hf⟩ := bd_some hf
  refine X_invV_v (pc := 82) (c_Ro_write_9 hT c9) ok_Ro_write (ci := 7) (sh_9 hT) k_749 k_699 k_700 nd_7 (by decide) rfl (Nat.le_of_ble_eq_true rfl) dX5_beat_82 ?_
  refine X_aload_n (pc := 85) (i := 0) 1 dX5_beat_85 rfl rfl ?_
  refine X_getr (pc := 86) (a := 1) (ci := 5) (j := 15) (c := 9) (sh_1 hT) (by decide) k_197 (rf_1_15 hT) (fun _ h => h) dX5_beat_86 ?_
  refine X_iload (pc := 89) 0 dX5_beat_89 rfl ?_
  refine X_iconst (pc := 91) (1 : Int32) dX5_beat_91 (by decide) ?_
  refine X_aload_n (pc := 92) (i := 0) 1 dX5_beat_92 rfl rfl ?_
  refine X_get (pc := 93) (a := 1) (ci := 5) (j := 14) (.int (q8.1 1 14)) (sh_1 hT) (by decide) k_195 rfl dX5_beat_93 ?_
  obtain ⟨q10, c11, hf⟩ := bd_some hf
  refine X_invV_v (pc := 96) (c_Ro_write_9 hT c11) ok_Ro_write (ci := 7) (sh_9 hT) k_749 k_699 k_700 nd_7 (by decide) rfl (Nat.le_of_ble_eq_true rfl) dX5_beat_96 ?_
  refine X_aload_n (pc := 99) (i := 0) 1 dX5_beat_99 rfl rfl ?_
  refine X_iconst (pc := 100) (0 : Int32) dX5_beat_100 (by decide) ?_
  refine X_puti (pc := 101) (a := 1) (ci := 5) (j := 14) false (sh_1 hT) (by decide) k_195 rfl (fun h => by cases h) rfl dX5_beat_101 ?_
  cases hf
  exact X_return (pc := 104) rfl dX5_beat_104
theorem u_Es_beat_L46 {S : List xSh} {s1 : Int64} {I : Nat → Nat → Int32} {L : Nat → Nat → Int64} {q : ((Nat → Nat → Int32) × (Nat → Nat → Int64))} (hf : f_Es_beat_L46 s1 I L = some q) : FR S [10, 1109, 1110, 1112, 1114, 1903] [] I q.1 L q.2 := by
  replace hf := (f_Es_beat_L46.eq_1 _ _ _).symm.trans hf
  obtain ⟨x4, ex4, hf⟩ := bnd_e hf
  obtain ⟨x5, ex5, hf⟩ := bnd_e hf
  obtain ⟨q6, c7, hf⟩ := bd_some hf
  obtain ⟨q8, c9, hf⟩ := bd_some hf
  obtain ⟨q10, c11, hf⟩ := bd_some hf
  cases hf
  exact (FR.fi (FR.tr (FR.tr (FR.tr (FR.fi (FR.fi FR.rf (by decide)) (by decide)) (u_Ro_open_9 (q := q6) c7) (by decide) (by decide)) (u_Ro_write_9 (q := q8) c9) (by decide) (by decide)) (u_Ro_write_9 (q := q10) c11) (by decide) (by decide)) (by decide))
def f_Es_beat (a0 : Int32) (I : Nat → Nat → Int32) (L : Nat → Nat → Int64) : Option ((Nat → Nat → Int32) × (Nat → Nat → Int64)) := (bnd (-(I 1 10)) fun x1 => (bnd (((Int32.toInt64 a0) * (Int32.toInt64 (I 1 3))) >>> (Int32.toInt64 (16 : Int32) &&& 63)) fun x2 => (if (I 1 9) ≤ (0 : Int32) then (f_Es_beat_L46 ((Int32.toInt64 (I 1 9)) - x2) (uI I 1 10 x1) L) else (f_Es_beat_L46 ((Int32.toInt64 (I 1 9)) + x2) (uI I 1 10 x1) L))))
set_option maxRecDepth 100000 in
set_option maxHeartbeats 4000000 in
theorem c_Es_beat {G : xG} {S : List xSh} {Rf : Nat → Nat → Option Nat} (hT : xTH S Rf) {a0 : Int32} {I : Nat → Nat → Int32} {L : Nat → Nat → Int64} {q : ((Nat → Nat → Int32) × (Nat → Nat → Int64))} (hf : f_Es_beat a0 I L = some q) : CT G 2 m_Es_beat [.ref (xB G + 1), .int a0] (S, I, L, Rf) (none, (S, q.1, q.2, Rf)) := by
  refine CT.of (by decide +kernel) (Nat.le_of_ble_eq_true rfl) ?_
  show X G 2 m_Es_beat 0 [(0, .ref (xB G + 1)), (1, .int a0)] [] (S, I, L, Rf) (none, (S, q.1, q.2, Rf))
  replace hf := (f_Es_beat.eq_1 _ _ _).symm.trans hf
  refine X_aload_n (pc := 0) (i := 0) 0 dX5_beat_0 rfl rfl ?_
  refine X_aload_n (pc := 1) (i := 0) 0 dX5_beat_1 rfl rfl ?_
  refine X_get (pc := 2) (a := 1) (ci := 5) (j := 10) (.int (I 1 10)) (sh_1 hT) (by decide) k_187 rfl dX5_beat_2 ?_
  refine X_ineg (pc := 5) dX5_beat_5 ?_
  obtain ⟨x1, ex1, hf⟩ := bnd_e hf
  refine X_tope ex1 ?_
  refine X_puti (pc := 6) (a := 1) (ci := 5) (j := 10) false (sh_1 hT) (by decide) k_187 rfl (fun h => by cases h) rfl dX5_beat_6 ?_
  refine X_iload_n (pc := 9) (i := 1) 1 dX5_beat_9 rfl rfl ?_
  refine X_i2l (pc := 10) dX5_beat_10 ?_
  refine X_aload_n (pc := 11) (i := 0) 0 dX5_beat_11 rfl rfl ?_
  refine X_get (pc := 12) (a := 1) (ci := 5) (j := 3) (.int (I 1 3)) (sh_1 hT) (by decide) k_176 rfl dX5_beat_12 ?_
  refine X_i2l (pc := 15) dX5_beat_15 ?_
  refine X_lmul (pc := 16) dX5_beat_16 ?_
  refine X_bipush (pc := 17) (16 : Int32) dX5_beat_17 (by decide) ?_
  refine X_lshr (pc := 19) dX5_beat_19 ?_
  obtain ⟨x2, ex2, hf⟩ := bnd_e hf
  refine X_tople ex2 ?_
  refine X_lstore_n (pc := 20) (i := 2) [(2, .long x2), (0, .ref (xB G + 1)), (1, .int a0)] dX5_beat_20 rfl (by decide) rfl ?_
  refine X_aload_n (pc := 21) (i := 0) 1 dX5_beat_21 rfl rfl ?_
  refine X_aload_n (pc := 22) (i := 0) 1 dX5_beat_22 rfl rfl ?_
  refine X_get (pc := 23) (a := 1) (ci := 5) (j := 9) (.int (I 1 9)) (sh_1 hT) (by decide) k_185 rfl dX5_beat_23 ?_
  by_cases c3 : (I 1 9) ≤ (0 : Int32)
  · replace hf := (if_pos c3).symm.trans hf
    refine X_if_le_t (pc := 26) 39 dX5_beat_26 (by decide) c3 ?_
    refine X_aload_n (pc := 39) (i := 0) 1 dX5_beat_39 rfl rfl ?_
    refine X_get (pc := 40) (a := 1) (ci := 5) (j := 9) (.int (I 1 9)) (sh_1 hT) (by decide) k_185 rfl dX5_beat_40 ?_
    refine X_i2l (pc := 43) dX5_beat_43 ?_
    refine X_lload_n (pc := 44) (i := 2) 0 dX5_beat_44 rfl rfl ?_
    refine X_lsub (pc := 45) dX5_beat_45 ?_
    exact X_lvs [1] rfl (x_Es_beat_L46 hT hf)
  · replace hf := (if_neg c3).symm.trans hf
    refine X_if_le_f (pc := 26) 39 dX5_beat_26 (by decide) c3 ?_
    refine X_aload_n (pc := 29) (i := 0) 1 dX5_beat_29 rfl rfl ?_
    refine X_get (pc := 30) (a := 1) (ci := 5) (j := 9) (.int (I 1 9)) (sh_1 hT) (by decide) k_185 rfl dX5_beat_30 ?_
    refine X_i2l (pc := 33) dX5_beat_33 ?_
    refine X_lload_n (pc := 34) (i := 2) 0 dX5_beat_34 rfl rfl ?_
    refine X_ladd (pc := 35) dX5_beat_35 ?_
    refine X_goto (pc := 36) 46 dX5_beat_36 (by decide) ?_
    exact X_lvs [1] rfl (x_Es_beat_L46 hT hf)
theorem u_Es_beat {S : List xSh} {a0 : Int32} {I : Nat → Nat → Int32} {L : Nat → Nat → Int64} {q : ((Nat → Nat → Int32) × (Nat → Nat → Int64))} (hf : f_Es_beat a0 I L = some q) : FR S [10, 1109, 1110, 1112, 1114, 1903] [] I q.1 L q.2 := by
  replace hf := (f_Es_beat.eq_1 _ _ _).symm.trans hf
  obtain ⟨x1, ex1, hf⟩ := bnd_e hf
  obtain ⟨x2, ex2, hf⟩ := bnd_e hf
  by_cases c3 : (I 1 9) ≤ (0 : Int32)
  · replace hf := (if_pos c3).symm.trans hf
    exact FR.tr (FR.fi FR.rf (by decide)) (u_Es_beat_L46 hf) (by decide) (by decide)
  · replace hf := (if_neg c3).symm.trans hf
    exact FR.tr (FR.fi FR.rf (by decide)) (u_Es_beat_L46 hf) (by decide) (by decide)
theorem dX6_turned_0 : decode cX6_turned 0 = .ok (.iload_n 1, 1) := by decide +kernel
theorem dX6_turned_1 : decode cX6_turned 1 = .ok (.ifCond .lt 20, 3) := by decide +kernel
theorem dX6_turned_4 : decode cX6_turned 4 = .ok (.iload_n 1, 1) := by decide +kernel
theorem dX6_turned_5 : decode cX6_turned 5 = .ok (.bipush 24, 2) := by decide +kernel
theorem dX6_turned_7 : decode cX6_turned 7 = .ok (.if_icmp .ge 14, 3) := by decide +kernel
theorem dX6_turned_10 : decode cX6_turned 10 = .ok (.aload_n 0, 1) := by decide +kernel
theorem dX6_turned_11 : decode cX6_turned 11 = .ok (.getfield 18, 3) := by decide +kernel
theorem dX6_turned_14 : decode cX6_turned 14 = .ok (.iload_n 1, 1) := by decide +kernel
theorem dX6_turned_15 : decode cX6_turned 15 = .ok (.laload, 1) := by decide +kernel
theorem dX6_turned_16 : decode cX6_turned 16 = .ok (.lconst 0, 1) := by decide +kernel
theorem dX6_turned_17 : decode cX6_turned 17 = .ok (.lcmp, 1) := by decide +kernel
theorem dX6_turned_18 : decode cX6_turned 18 = .ok (.ifCond .gt 5, 3) := by decide +kernel
theorem dX6_turned_21 : decode cX6_turned 21 = .ok (.lconst 0, 1) := by decide +kernel
theorem dX6_turned_22 : decode cX6_turned 22 = .ok (.lreturn, 1) := by decide +kernel
theorem dX6_turned_23 : decode cX6_turned 23 = .ok (.iload_n 3, 1) := by decide +kernel
theorem dX6_turned_24 : decode cX6_turned 24 = .ok (.i2l, 1) := by decide +kernel
theorem dX6_turned_25 : decode cX6_turned 25 = .ok (.aload_n 0, 1) := by decide +kernel
theorem dX6_turned_26 : decode cX6_turned 26 = .ok (.getfield 11, 3) := by decide +kernel
theorem dX6_turned_29 : decode cX6_turned 29 = .ok (.iload_n 1, 1) := by decide +kernel
theorem dX6_turned_30 : decode cX6_turned 30 = .ok (.laload, 1) := by decide +kernel
theorem dX6_turned_31 : decode cX6_turned 31 = .ok (.invokestatic 62, 3) := by decide +kernel
theorem dX6_turned_34 : decode cX6_turned 34 = .ok (.lmul, 1) := by decide +kernel
theorem dX6_turned_35 : decode cX6_turned 35 = .ok (.iload_n 2, 1) := by decide +kernel
theorem dX6_turned_36 : decode cX6_turned 36 = .ok (.i2l, 1) := by decide +kernel
theorem dX6_turned_37 : decode cX6_turned 37 = .ok (.lmul, 1) := by decide +kernel
theorem dX6_turned_38 : decode cX6_turned 38 = .ok (.aload_n 0, 1) := by decide +kernel
theorem dX6_turned_39 : decode cX6_turned 39 = .ok (.getfield 18, 3) := by decide +kernel
theorem dX6_turned_42 : decode cX6_turned 42 = .ok (.iload_n 1, 1) := by decide +kernel
theorem dX6_turned_43 : decode cX6_turned 43 = .ok (.laload, 1) := by decide +kernel
theorem dX6_turned_44 : decode cX6_turned 44 = .ok (.ldiv, 1) := by decide +kernel
theorem dX6_turned_45 : decode cX6_turned 45 = .ok (.lreturn, 1) := by decide +kernel
def f_Ge_turned (a0 : Int32) (a1 : Int32) (a2 : Int32) (I : Nat → Nat → Int32) (L : Nat → Nat → Int64) : Option Int64 := (if a0 < (0 : Int32) then (some (0 : Int64)) else (if (24 : Int32) ≤ a0 then (some (0 : Int64)) else (if (0 ≤ a0 ∧ a0 < (24 : Int32)) then (if (0 : Int64) < (L 5 (a0.toNatClampNeg)) then (if (0 ≤ a0 ∧ a0 < (24 : Int32)) then (if (0 ≤ a0 ∧ a0 < (24 : Int32)) then (if ¬ (L 5 (a0.toNatClampNeg)) = (0 : Int64) then (some ((((Int32.toInt64 a2) * (Jabs (L 3 (a0.toNatClampNeg)))) * (Int32.toInt64 a1)) / (L 5 (a0.toNatClampNeg)))) else none) else none) else none) else (some (0 : Int64))) else none)))
set_option maxRecDepth 100000 in
set_option maxHeartbeats 4000000 in
theorem c_Ge_turned {G : xG} {S : List xSh} {Rf : Nat → Nat → Option Nat} (hT : xTH S Rf) {a0 : Int32} {a1 : Int32} {a2 : Int32} {I : Nat → Nat → Int32} {L : Nat → Nat → Int64} {q : Int64} (hf : f_Ge_turned a0 a1 a2 I L = some q) : CT G 1 m_Ge_turned [.ref (xB G + 2), .int a0, .int a1, .int a2] (S, I, L, Rf) (some (.long q), (S, I, L, Rf)) := by
  refine CT.of (by decide +kernel) (Nat.le_of_ble_eq_true rfl) ?_
  show X G 1 m_Ge_turned 0 [(0, .ref (xB G + 2)), (1, .int a0), (2, .int a1), (3, .int a2)] [] (S, I, L, Rf) (some (.long q), (S, I, L, Rf))
  replace hf := (f_Ge_turned.eq_1 _ _ _ _ _).symm.trans hf
  refine X_iload_n (pc := 0) (i := 1) 1 dX6_turned_0 rfl rfl ?_
  by_cases c1 : a0 < (0 : Int32)
  · replace hf := (if_pos c1).symm.trans hf
    refine X_if_lt_t (pc := 1) 21 dX6_turned_1 (by decide) c1 ?_
    refine X_lconst (pc := 21) (0 : Int64) dX6_turned_21 (by decide) ?_
    cases hf
    exact X_lreturn (pc := 22) rfl dX6_turned_22
  · replace hf := (if_neg c1).symm.trans hf
    refine X_if_lt_f (pc := 1) 21 dX6_turned_1 (by decide) c1 ?_
    refine X_iload_n (pc := 4) (i := 1) 1 dX6_turned_4 rfl rfl ?_
    refine X_bipush (pc := 5) (24 : Int32) dX6_turned_5 (by decide) ?_
    by_cases c2 : (24 : Int32) ≤ a0
    · replace hf := (if_pos c2).symm.trans hf
      refine X_icmp_ge_t (pc := 7) 21 dX6_turned_7 (by decide) c2 ?_
      refine X_lconst (pc := 21) (0 : Int64) dX6_turned_21 (by decide) ?_
      cases hf
      exact X_lreturn (pc := 22) rfl dX6_turned_22
    · replace hf := (if_neg c2).symm.trans hf
      refine X_icmp_ge_f (pc := 7) 21 dX6_turned_7 (by decide) c2 ?_
      refine X_aload_n (pc := 10) (i := 0) 0 dX6_turned_10 rfl rfl ?_
      refine X_getr (pc := 11) (a := 2) (ci := 6) (j := 7) (c := 5) (sh_2 hT) (by decide) k_119 (rf_2_7 hT) (fun _ h => h) dX6_turned_11 ?_
      refine X_iload_n (pc := 14) (i := 1) 1 dX6_turned_14 rfl rfl ?_
      obtain ⟨c3, hf⟩ := gd_some hf
      refine X_laldj (pc := 15) (j := a0.toNatClampNeg) (L 5 (a0.toNatClampNeg)) (sh_5 hT) (vp_in_lit (N := 24) c3 (by decide)) rfl rfl dX6_turned_15 ?_
      refine X_lconst (pc := 16) (0 : Int64) dX6_turned_16 (by decide) ?_
      refine X_lcmp (pc := 17) dX6_turned_17 ?_
      by_cases c4 : (0 : Int64) < (L 5 (a0.toNatClampNeg))
      · replace hf := (if_pos c4).symm.trans hf
        refine X_if_gt_t (pc := 18) 23 dX6_turned_18 (by decide) ((lg_cmp_gt _ _).mpr c4) ?_
        refine X_iload_n (pc := 23) (i := 3) 3 dX6_turned_23 rfl rfl ?_
        refine X_i2l (pc := 24) dX6_turned_24 ?_
        refine X_aload_n (pc := 25) (i := 0) 0 dX6_turned_25 rfl rfl ?_
        refine X_getr (pc := 26) (a := 2) (ci := 6) (j := 5) (c := 3) (sh_2 hT) (by decide) k_115 (rf_2_5 hT) (fun _ h => h) dX6_turned_26 ?_
        refine X_iload_n (pc := 29) (i := 1) 1 dX6_turned_29 rfl rfl ?_
        obtain ⟨c5, hf⟩ := gd_some hf
        refine X_laldj (pc := 30) (j := a0.toNatClampNeg) (L 3 (a0.toNatClampNeg)) (sh_3 hT) (vp_in_lit (N := 24) c5 (by decide)) rfl rfl dX6_turned_30 ?_
        refine X_Jabs (pc := 31) k_476 (by decide) (Nat.le_of_ble_eq_true rfl) dX6_turned_31 ?_
        refine X_lmul (pc := 34) dX6_turned_34 ?_
        refine X_iload_n (pc := 35) (i := 2) 2 dX6_turned_35 rfl rfl ?_
        refine X_i2l (pc := 36) dX6_turned_36 ?_
        refine X_lmul (pc := 37) dX6_turned_37 ?_
        refine X_aload_n (pc := 38) (i := 0) 0 dX6_turned_38 rfl rfl ?_
        refine X_getr (pc := 39) (a := 2) (ci := 6) (j := 7) (c := 5) (sh_2 hT) (by decide) k_119 (rf_2_7 hT) (fun _ h => h) dX6_turned_39 ?_
        refine X_iload_n (pc := 42) (i := 1) 1 dX6_turned_42 rfl rfl ?_
        obtain ⟨c6, hf⟩ := gd_some hf
        refine X_laldj (pc := 43) (j := a0.toNatClampNeg) (L 5 (a0.toNatClampNeg)) (sh_5 hT) (vp_in_lit (N := 24) c6 (by decide)) rfl rfl dX6_turned_43 ?_
        obtain ⟨c7, hf⟩ := gd_some hf
        refine X_ldiv (pc := 44) dX6_turned_44 c7 ?_
        cases hf
        exact X_lreturn (pc := 45) rfl dX6_turned_45
      · replace hf := (if_neg c4).symm.trans hf
        refine X_if_gt_f (pc := 18) 23 dX6_turned_18 (by decide) (fun h => c4 ((lg_cmp_gt _ _).mp h)) ?_
        refine X_lconst (pc := 21) (0 : Int64) dX6_turned_21 (by decide) ?_
        cases hf
        exact X_lreturn (pc := 22) rfl dX6_turned_22

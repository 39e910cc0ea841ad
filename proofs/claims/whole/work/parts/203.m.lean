theorem dX11_hang_0 : decode cX11_hang 0 = .ok (.aload_n 1, 1) := by decide +kernel
theorem dX11_hang_1 : decode cX11_hang 1 = .ok (.iload_n 2, 1) := by decide +kernel
theorem dX11_hang_2 : decode cX11_hang 2 = .ok (.putfield 385, 3) := by decide +kernel
theorem dX11_hang_5 : decode cX11_hang 5 = .ok (.aload_n 1, 1) := by decide +kernel
theorem dX11_hang_6 : decode cX11_hang 6 = .ok (.invokestatic 380, 3) := by decide +kernel
theorem dX11_hang_9 : decode cX11_hang 9 = .ok (.aload_n 0, 1) := by decide +kernel
theorem dX11_hang_10 : decode cX11_hang 10 = .ok (.getfield 23, 3) := by decide +kernel
theorem dX11_hang_13 : decode cX11_hang 13 = .ok (.aload_n 0, 1) := by decide +kernel
theorem dX11_hang_14 : decode cX11_hang 14 = .ok (.getfield 137, 3) := by decide +kernel
theorem dX11_hang_17 : decode cX11_hang 17 = .ok (.aload_n 1, 1) := by decide +kernel
theorem dX11_hang_18 : decode cX11_hang 18 = .ok (.aastore, 1) := by decide +kernel
theorem dX11_hang_19 : decode cX11_hang 19 = .ok (.aload_n 0, 1) := by decide +kernel
theorem dX11_hang_20 : decode cX11_hang 20 = .ok (.dup, 1) := by decide +kernel
theorem dX11_hang_21 : decode cX11_hang 21 = .ok (.getfield 137, 3) := by decide +kernel
theorem dX11_hang_24 : decode cX11_hang 24 = .ok (.dup_x1, 1) := by decide +kernel
theorem dX11_hang_25 : decode cX11_hang 25 = .ok (.iconst 1, 1) := by decide +kernel
theorem dX11_hang_26 : decode cX11_hang 26 = .ok (.iadd, 1) := by decide +kernel
theorem dX11_hang_27 : decode cX11_hang 27 = .ok (.putfield 137, 3) := by decide +kernel
theorem dX11_hang_30 : decode cX11_hang 30 = .ok (.ireturn, 1) := by decide +kernel
def f_H_hang_D (S : List xSh) (Rf : Nat → Nat → Option Nat) (a0 : Nat) (a1 : Int32) (I : Nat → Nat → Int32) (L : Nat → Nat → Int64) : Option (Int32 × xH) := ((f_H_renew_D a0 (uI I a0 0 a1) L).bind fun q1 => (if (0 ≤ (q1.1 0 6) ∧ (q1.1 0 6) < (8 : Int32)) then (bnd ((q1.1 0 6) + (1 : Int32)) fun x4 => (some ((q1.1 0 6), S, (uI q1.1 0 6 x4), q1.2, (uR Rf 11 (Int32.toNatClampNeg (q1.1 0 6)) (some a0))))) else none))
set_option maxRecDepth 100000 in
set_option maxHeartbeats 4000000 in
theorem c_H_hang_D {G : xG} {S : List xSh} {Rf : Nat → Nat → Option Nat} (hT : xTH S Rf) {a0 : Nat} {a1 : Int32} (ha0 : S[a0]? = some (.inl 4)) {I : Nat → Nat → Int32} {L : Nat → Nat → Int64} {q : (Int32 × xH)} (hf : f_H_hang_D S Rf a0 a1 I L = some q) : CT G 3 m_H_hang [.ref (xP G 0), .ref (xP G a0), .int a1] (S, I, L, Rf) (some (.int q.1), q.2) := by
  refine CT.of (by decide +kernel) (Nat.le_of_ble_eq_true rfl) ?_
  show X G 3 m_H_hang 0 [(0, .ref (xP G 0)), (1, .ref (xP G a0)), (2, .int a1)] [] (S, I, L, Rf) (some (.int q.1), q.2)
  replace hf := (f_H_hang_D.eq_1 _ _ _ _ _ _).symm.trans hf
  refine X_aload_n (pc := 0) (i := 1) 1 dX11_hang_0 rfl rfl ?_
  refine X_iload_n (pc := 1) (i := 2) 2 dX11_hang_1 rfl rfl ?_
  refine X_puti (pc := 2) (a := a0) (ci := 4) (j := 0) 0 rfl false ha0 (by decide) k_363 rfl (fun h => by cases h) rfl dX11_hang_2 ?_
  refine X_aload_n (pc := 5) (i := 1) 1 dX11_hang_5 rfl rfl ?_
  obtain ⟨q1, c2, hf⟩ := bd_some hf
  refine X_invS_v (pc := 6) (c_H_renew_D hT ha0 c2) ok_H_renew k_649 k_650 nd_14 (by decide) rfl (Nat.le_of_ble_eq_true rfl) dX11_hang_6 ?_
  refine X_aload_n (pc := 9) (i := 0) 0 dX11_hang_9 rfl rfl ?_
  refine X_getr (pc := 10) (a := 0) (ci := 10) (j := 2) (c := 11) (sh_0 hT) (by decide) k_496 (rf_0_2 hT) (fun _ h => h) dX11_hang_10 ?_
  refine X_aload_n (pc := 13) (i := 0) 0 dX11_hang_13 rfl rfl ?_
  refine X_get (pc := 14) (a := 0) (ci := 10) (j := 9) (.int (q1.1 0 6)) (sh_0 hT) (by decide) k_503 rfl dX11_hang_14 ?_
  refine X_aload_n (pc := 17) (i := 1) 1 dX11_hang_17 rfl rfl ?_
  obtain ⟨c3, hf⟩ := gd_some hf
  refine X_aastW (pc := 18) (ci := 4) (sh_11 hT) ha0 k_1824 (vp_in_lit (N := 8) c3 (by decide)) dX11_hang_18 ?_
  refine X_aload_n (pc := 19) (i := 0) 0 dX11_hang_19 rfl rfl ?_
  refine X_dup (pc := 20) dX11_hang_20 rfl ?_
  refine X_get (pc := 21) (a := 0) (ci := 10) (j := 9) (.int (q1.1 0 6)) (sh_0 (KP.H (KP.u11 (j := (Int32.toNatClampNeg (q1.1 0 6))) (v := (some a0)) KP.rf) hT)) (by decide) k_503 rfl dX11_hang_21 ?_
  refine X_dup_x1 (pc := 24) dX11_hang_24 rfl rfl ?_
  refine X_iconst (pc := 25) (1 : Int32) dX11_hang_25 (by decide) ?_
  refine X_iadd (pc := 26) dX11_hang_26 ?_
  obtain ⟨x4, ex4, hf⟩ := bnd_e hf
  refine X_tope ex4 ?_
  refine X_puti (pc := 27) (a := 0) (ci := 10) (j := 9) 6 rfl false (sh_0 (KP.H (KP.u11 (j := (Int32.toNatClampNeg (q1.1 0 6))) (v := (some a0)) KP.rf) hT)) (by decide) k_503 rfl (fun h => by cases h) rfl dX11_hang_27 ?_
  cases hf
  exact X_ireturn (pc := 30) rfl dX11_hang_30
theorem u_H_hang_D {S : List xSh} {Rf : Nat → Nat → Option Nat} {a0 : Nat} {a1 : Int32} (ha0 : S[a0]? = some (.inl 4)) {I : Nat → Nat → Int32} {L : Nat → Nat → Int64} {q : (Int32 × xH)} (hf : f_H_hang_D S Rf a0 a1 I L = some q) : FR S [1006] [] I q.2.2.1 L q.2.2.2.1 := by
  replace hf := (f_H_hang_D.eq_1 _ _ _ _ _ _).symm.trans hf
  obtain ⟨q1, c2, hf⟩ := bd_some hf
  obtain ⟨c3, hf⟩ := gd_some hf
  obtain ⟨x4, ex4, hf⟩ := bnd_e hf
  cases hf
  exact (FR.fi (FR.tr (FR.dy FR.rf ha0 (by decide)) (u_H_renew_D ha0 (q := q1) c2) (by decide) (by decide)) (by decide))
theorem t_H_hang_D {S : List xSh} {Rf : Nat → Nat → Option Nat} {a0 : Nat} {a1 : Int32} {I : Nat → Nat → Int32} {L : Nat → Nat → Int64} {q : (Int32 × xH)} (hf : f_H_hang_D S Rf a0 a1 I L = some q) : KP S Rf q.2.1 q.2.2.2.2 := by
  replace hf := (f_H_hang_D.eq_1 _ _ _ _ _ _).symm.trans hf
  obtain ⟨q1, c2, hf⟩ := bd_some hf
  obtain ⟨c3, hf⟩ := gd_some hf
  obtain ⟨x4, ex4, hf⟩ := bnd_e hf
  cases hf
  exact (KP.u11 (j := (Int32.toNatClampNeg (q1.1 0 6))) (v := (some a0)) KP.rf)
theorem dX11_dial_0 : decode cX11_dial 0 = .ok (.aload_n 0, 1) := by decide +kernel
theorem dX11_dial_1 : decode cX11_dial 1 = .ok (.getfield 20, 3) := by decide +kernel
theorem dX11_dial_4 : decode cX11_dial 4 = .ok (.iload_n 1, 1) := by decide +kernel
theorem dX11_dial_5 : decode cX11_dial 5 = .ok (.invokevirtual 109, 3) := by decide +kernel
theorem dX11_dial_8 : decode cX11_dial 8 = .ok (.ifCond .eq 14, 3) := by decide +kernel
theorem dX11_dial_11 : decode cX11_dial 11 = .ok (.iload_n 2, 1) := by decide +kernel
theorem dX11_dial_12 : decode cX11_dial 12 = .ok (.iconst 2, 1) := by decide +kernel
theorem dX11_dial_13 : decode cX11_dial 13 = .ok (.sipush 1000, 3) := by decide +kernel
theorem dX11_dial_16 : decode cX11_dial 16 = .ok (.invokestatic 113, 3) := by decide +kernel
theorem dX11_dial_19 : decode cX11_dial 19 = .ok (.ifCond .ne 5, 3) := by decide +kernel
theorem dX11_dial_22 : decode cX11_dial 22 = .ok (.iconst (-1), 1) := by decide +kernel
theorem dX11_dial_23 : decode cX11_dial 23 = .ok (.ireturn, 1) := by decide +kernel
theorem dX11_dial_24 : decode cX11_dial 24 = .ok (.aload_n 0, 1) := by decide +kernel
theorem dX11_dial_25 : decode cX11_dial 25 = .ok (.getfield 99, 3) := by decide +kernel
theorem dX11_dial_28 : decode cX11_dial 28 = .ok (.ifCond .eq 6, 3) := by decide +kernel
theorem dX11_dial_31 : decode cX11_dial 31 = .ok (.bipush (-2), 2) := by decide +kernel
theorem dX11_dial_33 : decode cX11_dial 33 = .ok (.ireturn, 1) := by decide +kernel
theorem dX11_dial_34 : decode cX11_dial 34 = .ok (.aload_n 0, 1) := by decide +kernel
theorem dX11_dial_35 : decode cX11_dial 35 = .ok (.getfield 137, 3) := by decide +kernel
theorem dX11_dial_38 : decode cX11_dial 38 = .ok (.bipush 8, 2) := by decide +kernel
theorem dX11_dial_40 : decode cX11_dial 40 = .ok (.if_icmp .ge 15, 3) := by decide +kernel
theorem dX11_dial_43 : decode cX11_dial 43 = .ok (.aload_n 0, 1) := by decide +kernel
theorem dX11_dial_44 : decode cX11_dial 44 = .ok (.getfield 29, 3) := by decide +kernel
theorem dX11_dial_47 : decode cX11_dial 47 = .ok (.aload_n 0, 1) := by decide +kernel
theorem dX11_dial_48 : decode cX11_dial 48 = .ok (.getfield 137, 3) := by decide +kernel
theorem dX11_dial_51 : decode cX11_dial 51 = .ok (.aaload, 1) := by decide +kernel
theorem dX11_dial_52 : decode cX11_dial 52 = .ok (.goto 4, 3) := by decide +kernel
theorem dX11_dial_55 : decode cX11_dial 55 = .ok (.aconst_null, 1) := by decide +kernel
theorem dX11_dial_56 : decode cX11_dial 56 = .ok (.astore_n 3, 1) := by decide +kernel
theorem dX11_dial_57 : decode cX11_dial 57 = .ok (.aload_n 3, 1) := by decide +kernel
theorem dX11_dial_58 : decode cX11_dial 58 = .ok (.ifnonnull 6, 3) := by decide +kernel
theorem dX11_dial_61 : decode cX11_dial 61 = .ok (.bipush (-3), 2) := by decide +kernel
theorem dX11_dial_63 : decode cX11_dial 63 = .ok (.ireturn, 1) := by decide +kernel
theorem dX11_dial_64 : decode cX11_dial 64 = .ok (.aload_n 3, 1) := by decide +kernel
theorem dX11_dial_65 : decode cX11_dial 65 = .ok (.iload_n 2, 1) := by decide +kernel
theorem dX11_dial_66 : decode cX11_dial 66 = .ok (.invokevirtual 140, 3) := by decide +kernel
theorem dX11_dial_69 : decode cX11_dial 69 = .ok (.aload_n 0, 1) := by decide +kernel
theorem dX11_dial_70 : decode cX11_dial 70 = .ok (.aload_n 3, 1) := by decide +kernel
theorem dX11_dial_71 : decode cX11_dial 71 = .ok (.iload_n 1, 1) := by decide +kernel
theorem dX11_dial_72 : decode cX11_dial 72 = .ok (.invokevirtual 144, 3) := by decide +kernel
theorem dX11_dial_75 : decode cX11_dial 75 = .ok (.ireturn, 1) := by decide +kernel
def f_H_dial_L56 (l1 : Int32) (l2 : Int32) (S : List xSh) (Rf : (Nat → Nat → Option Nat)) (I : (Nat → Nat → Int32)) (L : (Nat → Nat → Int64)) : Option (Int32 × xH) := (some ((-3 : Int32), S, I, L, Rf))
set_option maxRecDepth 100000 in
set_option maxHeartbeats 4000000 in
theorem x_H_dial_L56 {G : xG} {S : List xSh} {Rf : Nat → Nat → Option Nat} (hT : xTH S Rf) {l1 : Int32} {l2 : Int32} {I : Nat → Nat → Int32} {L : Nat → Nat → Int64} {q : (Int32 × xH)} (hf : f_H_dial_L56 l1 l2 S Rf I L = some q) : X G 4 m_H_dial 56 [(0, .ref (xP G 0)), (1, .int l1), (2, .int l2)] [.null] (S, I, L, Rf) (some (.int q.1), q.2) := by
  replace hf := (f_H_dial_L56.eq_1 _ _ _ _ _ _).symm.trans hf
  refine X_astore_nN (pc := 56) (i := 3) [(3, .null), (0, .ref (xP G 0)), (1, .int l1), (2, .int l2)] dX11_dial_56 rfl (by decide) rfl ?_
  refine X_aload_nN (pc := 57) (i := 3) 0 dX11_dial_57 rfl rfl ?_
  refine X_ifnonnull_f (pc := 58) dX11_dial_58 ?_
  refine X_bipush (pc := 61) (-3 : Int32) dX11_dial_61 (by decide) ?_
  cases hf
  exact X_ireturn (pc := 63) rfl dX11_dial_63
theorem u_H_dial_L56 {S : List xSh} {Rf : Nat → Nat → Option Nat} {l1 : Int32} {l2 : Int32} {I : Nat → Nat → Int32} {L : Nat → Nat → Int64} {q : (Int32 × xH)} (hf : f_H_dial_L56 l1 l2 S Rf I L = some q) : FR S [1006] [] I q.2.2.1 L q.2.2.2.1 := by
  replace hf := (f_H_dial_L56.eq_1 _ _ _ _ _ _).symm.trans hf
  cases hf
  exact FR.rf
theorem t_H_dial_L56 {S : List xSh} {Rf : Nat → Nat → Option Nat} {l1 : Int32} {l2 : Int32} {I : Nat → Nat → Int32} {L : Nat → Nat → Int64} {q : (Int32 × xH)} (hf : f_H_dial_L56 l1 l2 S Rf I L = some q) : KP S Rf q.2.1 q.2.2.2.2 := by
  replace hf := (f_H_dial_L56.eq_1 _ _ _ _ _ _).symm.trans hf
  cases hf
  exact KP.rf
def f_H_dial_L56_2 (l1 : Int32) (l2 : Int32) (s0 : Nat) (S : List xSh) (Rf : (Nat → Nat → Option Nat)) (I : (Nat → Nat → Int32)) (L : (Nat → Nat → Int64)) : Option (Int32 × xH) := ((f_Di_begin s0 l2 I L).bind fun q10 => ((f_H_hang_D S Rf s0 l1 q10.1 q10.2).bind fun q12 => (some (q12.1, q12.2.1, q12.2.2.1, q12.2.2.2.1, q12.2.2.2.2))))
set_option maxRecDepth 100000 in
set_option maxHeartbeats 4000000 in
theorem x_H_dial_L56_2 {G : xG} {S : List xSh} {Rf : Nat → Nat → Option Nat} (hT : xTH S Rf) {l1 : Int32} {l2 : Int32} {s0 : Nat} {I : Nat → Nat → Int32} {L : Nat → Nat → Int64} {q : (Int32 × xH)} (hs0 : S[s0]? = some (.inl 4)) (hf : f_H_dial_L56_2 l1 l2 s0 S Rf I L = some q) : X G 4 m_H_dial 56 [(0, .ref (xP G 0)), (1, .int l1), (2, .int l2)] [.ref (xP G s0)] (S, I, L, Rf) (some (.int q.1), q.2) := by
  replace hf := (f_H_dial_L56_2.eq_1 _ _ _ _ _ _ _).symm.trans hf
  refine X_astore_n (pc := 56) (i := 3) [(3, .ref (xP G s0)), (0, .ref (xP G 0)), (1, .int l1), (2, .int l2)] dX11_dial_56 rfl (by decide) rfl ?_
  refine X_aload_n (pc := 57) (i := 3) 0 dX11_dial_57 rfl rfl ?_
  refine X_ifnonnull_t (pc := 58) 64 dX11_dial_58 (by decide) ?_
  refine X_aload_n (pc := 64) (i := 3) 0 dX11_dial_64 rfl rfl ?_
  refine X_iload_n (pc := 65) (i := 2) 3 dX11_dial_65 rfl rfl ?_
  obtain ⟨q10, c11, hf⟩ := bd_some hf
  refine X_invV_v (pc := 66) (c_Di_begin hT hs0 c11) ok_Di_begin (ci := 4) hs0 k_641 k_642 k_643 nd_13 (by decide) rfl (Nat.le_of_ble_eq_true rfl) dX11_dial_66 ?_
  refine X_aload_n (pc := 69) (i := 0) 1 dX11_dial_69 rfl rfl ?_
  refine X_aload_n (pc := 70) (i := 3) 0 dX11_dial_70 rfl rfl ?_
  refine X_iload_n (pc := 71) (i := 1) 2 dX11_dial_71 rfl rfl ?_
  obtain ⟨q12, c13, hf⟩ := bd_some hf
  refine X_invV_i (pc := 72) (c_H_hang_D hT hs0 c13) ok_H_hang (ci := 10) (sh_0 hT) k_645 k_647 k_9 nd_15 (by decide) rfl (Nat.le_of_ble_eq_true rfl) dX11_dial_72 ?_
  cases hf
  exact X_ireturn (pc := 75) rfl dX11_dial_75
theorem u_H_dial_L56_2 {S : List xSh} {Rf : Nat → Nat → Option Nat} {l1 : Int32} {l2 : Int32} {s0 : Nat} {I : Nat → Nat → Int32} {L : Nat → Nat → Int64} {q : (Int32 × xH)} (hs0 : S[s0]? = some (.inl 4)) (hf : f_H_dial_L56_2 l1 l2 s0 S Rf I L = some q) : FR S [1006] [] I q.2.2.1 L q.2.2.2.1 := by
  replace hf := (f_H_dial_L56_2.eq_1 _ _ _ _ _ _ _).symm.trans hf
  obtain ⟨q10, c11, hf⟩ := bd_some hf
  obtain ⟨q12, c13, hf⟩ := bd_some hf
  cases hf
  exact (FR.tr (FR.tr FR.rf (u_Di_begin hs0 (q := q10) c11) (by decide) (by decide)) (u_H_hang_D hs0 (q := q12) c13) (by decide) (by decide))
theorem t_H_dial_L56_2 {S : List xSh} {Rf : Nat → Nat → Option Nat} {l1 : Int32} {l2 : Int32} {s0 : Nat} {I : Nat → Nat → Int32} {L : Nat → Nat → Int64} {q : (Int32 × xH)} (hf : f_H_dial_L56_2 l1 l2 s0 S Rf I L = some q) : KP S Rf q.2.1 q.2.2.2.2 := by
  replace hf := (f_H_dial_L56_2.eq_1 _ _ _ _ _ _ _).symm.trans hf
  obtain ⟨q10, c11, hf⟩ := bd_some hf
  obtain ⟨q12, c13, hf⟩ := bd_some hf
  cases hf
  exact (KP.tr KP.rf (t_H_hang_D (q := q12) c13))
def f_H_dial (S : List xSh) (Rf : Nat → Nat → Option Nat) (a0 : Int32) (a1 : Int32) (I : Nat → Nat → Int32) (L : Nat → Nat → Int64) : Option (Int32 × xH) := (if (f_Ge_hasArbor a0 I L) = (0 : Int32) then (some ((-1 : Int32), S, I, L, Rf)) else (bnd (f_H_isWithin a1 (2 : Int32) (1000 : Int32)) fun x2 => (if x2 = (0 : Int32) then (some ((-1 : Int32), S, I, L, Rf)) else (if (I 0 8) = (0 : Int32) then (if (8 : Int32) ≤ (I 0 6) then (f_H_dial_L56 a0 a1 S Rf I L) else (if (0 ≤ (I 0 6) ∧ (I 0 6) < (8 : Int32)) then (oc (Rf 75 ((I 0 6).toNatClampNeg)) (f_H_dial_L56 a0 a1 S Rf I L) fun w7 => (if S[w7]? = some (.inl 4) then (f_H_dial_L56_2 a0 a1 w7 S Rf I L) else none)) else none)) else (some ((-2 : Int32), S, I, L, Rf))))))
set_option maxRecDepth 100000 in
set_option maxHeartbeats 4000000 in
theorem c_H_dial {G : xG} {S : List xSh} {Rf : Nat → Nat → Option Nat} (hT : xTH S Rf) {a0 : Int32} {a1 : Int32} {I : Nat → Nat → Int32} {L : Nat → Nat → Int64} {q : (Int32 × xH)} (hf : f_H_dial S Rf a0 a1 I L = some q) : CT G 4 m_H_dial [.ref (xP G 0), .int a0, .int a1] (S, I, L, Rf) (some (.int q.1), q.2) := by
  refine CT.of (by decide +kernel) (Nat.le_of_ble_eq_true rfl) ?_
  show X G 4 m_H_dial 0 [(0, .ref (xP G 0)), (1, .int a0), (2, .int a1)] [] (S, I, L, Rf) (some (.int q.1), q.2)
  replace hf := (f_H_dial.eq_1 _ _ _ _ _ _).symm.trans hf
  refine X_aload_n (pc := 0) (i := 0) 0 dX11_dial_0 rfl rfl ?_
  refine X_getr (pc := 1) (a := 0) (ci := 10) (j := 1) (c := 2) (sh_0 hT) (by decide) k_495 (rf_0_1 hT) (fun _ h => h) dX11_dial_1 ?_
  refine X_iload_n (pc := 4) (i := 1) 1 dX11_dial_4 rfl rfl ?_
  refine X_invV_i (pc := 5) (c_Ge_hasArbor hT rfl) ok_Ge_hasArbor (ci := 6) (sh_2 hT) k_559 k_560 k_561 nd_5 (by decide) rfl (Nat.le_of_ble_eq_true rfl) dX11_dial_5 ?_
  by_cases c1 : (f_Ge_hasArbor a0 I L) = (0 : Int32)
  · replace hf := (if_pos c1).symm.trans hf
    refine X_if_eq_t (pc := 8) 22 dX11_dial_8 (by decide) c1 ?_
    refine X_iconst (pc := 22) (-1 : Int32) dX11_dial_22 (by decide) ?_
    cases hf
    exact X_ireturn (pc := 23) rfl dX11_dial_23
  · replace hf := (if_neg c1).symm.trans hf
    refine X_if_eq_f (pc := 8) 22 dX11_dial_8 (by decide) c1 ?_
    refine X_iload_n (pc := 11) (i := 2) 2 dX11_dial_11 rfl rfl ?_
    refine X_iconst (pc := 12) (2 : Int32) dX11_dial_12 (by decide) ?_
    refine X_sipush (pc := 13) (1000 : Int32) dX11_dial_13 (by decide) ?_
    refine X_invS_i (pc := 16) (c_H_isWithin hT rfl) ok_H_isWithin k_563 k_564 nd_6 (by decide) rfl (Nat.le_of_ble_eq_true rfl) dX11_dial_16 ?_
    obtain ⟨x2, ex2, hf⟩ := bnd_e hf
    refine X_tope ex2 ?_
    by_cases c3 : x2 = (0 : Int32)
    · replace hf := (if_pos c3).symm.trans hf
      refine X_if_ne_f (pc := 19) 24 dX11_dial_19 (by decide) c3 ?_
      refine X_iconst (pc := 22) (-1 : Int32) dX11_dial_22 (by decide) ?_
      cases hf
      exact X_ireturn (pc := 23) rfl dX11_dial_23
    · replace hf := (if_neg c3).symm.trans hf
      refine X_if_ne_t (pc := 19) 24 dX11_dial_19 (by decide) c3 ?_
      refine X_aload_n (pc := 24) (i := 0) 0 dX11_dial_24 rfl rfl ?_
      refine X_get (pc := 25) (a := 0) (ci := 10) (j := 11) (.int (I 0 8)) (sh_0 hT) (by decide) k_505 rfl dX11_dial_25 ?_
      by_cases c4 : (I 0 8) = (0 : Int32)
      · replace hf := (if_pos c4).symm.trans hf
        refine X_if_eq_t (pc := 28) 34 dX11_dial_28 (by decide) c4 ?_
        refine X_aload_n (pc := 34) (i := 0) 0 dX11_dial_34 rfl rfl ?_
        refine X_get (pc := 35) (a := 0) (ci := 10) (j := 9) (.int (I 0 6)) (sh_0 hT) (by decide) k_503 rfl dX11_dial_35 ?_
        refine X_bipush (pc := 38) (8 : Int32) dX11_dial_38 (by decide) ?_
        by_cases c5 : (8 : Int32) ≤ (I 0 6)
        · replace hf := (if_pos c5).symm.trans hf
          refine X_icmp_ge_t (pc := 40) 55 dX11_dial_40 (by decide) c5 ?_
          refine X_null (pc := 55) dX11_dial_55 ?_
          exact X_lvs [0, 1, 2] rfl (x_H_dial_L56 hT hf)
        · replace hf := (if_neg c5).symm.trans hf
          refine X_icmp_ge_f (pc := 40) 55 dX11_dial_40 (by decide) c5 ?_
          refine X_aload_n (pc := 43) (i := 0) 0 dX11_dial_43 rfl rfl ?_
          refine X_getr (pc := 44) (a := 0) (ci := 10) (j := 3) (c := 75) (sh_0 hT) (by decide) k_497 (rf_0_13 hT) (fun _ h => h) dX11_dial_44 ?_
          refine X_aload_n (pc := 47) (i := 0) 0 dX11_dial_47 rfl rfl ?_
          refine X_get (pc := 48) (a := 0) (ci := 10) (j := 9) (.int (I 0 6)) (sh_0 hT) (by decide) k_503 rfl dX11_dial_48 ?_
          obtain ⟨c6, hf⟩ := gd_some hf
          rcases oc_cases hf with ⟨hr8, hf⟩ | ⟨w7, hr8, hf⟩
          · refine X_aaldN (pc := 51) (by decide) (sh_75 hT) (vp_in_lit (N := 8) c6 (by decide)) hr8 dX11_dial_51 ?_
            refine X_goto (pc := 52) 56 dX11_dial_52 (by decide) ?_
            exact X_lvs [0, 1, 2] rfl (x_H_dial_L56 hT hf)
          · obtain ⟨hs9, hf⟩ := gd_some hf
            refine X_aaldS (pc := 51) (by decide) (sh_75 hT) (vp_in_lit (N := 8) c6 (by decide)) hr8 dX11_dial_51 ?_
            refine X_goto (pc := 52) 56 dX11_dial_52 (by decide) ?_
            exact X_lvs [0, 1, 2] rfl (x_H_dial_L56_2 hT hs9 hf)
      · replace hf := (if_neg c4).symm.trans hf
        refine X_if_eq_f (pc := 28) 34 dX11_dial_28 (by decide) c4 ?_
        refine X_bipush (pc := 31) (-2 : Int32) dX11_dial_31 (by decide) ?_
        cases hf
        exact X_ireturn (pc := 33) rfl dX11_dial_33
theorem u_H_dial {S : List xSh} {Rf : Nat → Nat → Option Nat} {a0 : Int32} {a1 : Int32} {I : Nat → Nat → Int32} {L : Nat → Nat → Int64} {q : (Int32 × xH)} (hf : f_H_dial S Rf a0 a1 I L = some q) : FR S [1006] [] I q.2.2.1 L q.2.2.2.1 := by
  replace hf := (f_H_dial.eq_1 _ _ _ _ _ _).symm.trans hf
  by_cases c1 : (f_Ge_hasArbor a0 I L) = (0 : Int32)
  · replace hf := (if_pos c1).symm.trans hf
    cases hf
    exact FR.rf
  · replace hf := (if_neg c1).symm.trans hf
    obtain ⟨x2, ex2, hf⟩ := bnd_e hf
    by_cases c3 : x2 = (0 : Int32)
    · replace hf := (if_pos c3).symm.trans hf
      cases hf
      exact FR.rf
    · replace hf := (if_neg c3).symm.trans hf
      by_cases c4 : (I 0 8) = (0 : Int32)
      · replace hf := (if_pos c4).symm.trans hf
        by_cases c5 : (8 : Int32) ≤ (I 0 6)
        · replace hf := (if_pos c5).symm.trans hf
          exact FR.tr FR.rf (u_H_dial_L56 hf) (by decide) (by decide)
        · replace hf := (if_neg c5).symm.trans hf
          obtain ⟨c6, hf⟩ := gd_some hf
          rcases oc_cases hf with ⟨hr8, hf⟩ | ⟨w7, hr8, hf⟩
          · exact FR.tr FR.rf (u_H_dial_L56 hf) (by decide) (by decide)
          · obtain ⟨hs9, hf⟩ := gd_some hf
            exact FR.tr FR.rf (u_H_dial_L56_2 hs9 hf) (by decide) (by decide)
      · replace hf := (if_neg c4).symm.trans hf
        cases hf
        exact FR.rf
theorem t_H_dial {S : List xSh} {Rf : Nat → Nat → Option Nat} {a0 : Int32} {a1 : Int32} {I : Nat → Nat → Int32} {L : Nat → Nat → Int64} {q : (Int32 × xH)} (hf : f_H_dial S Rf a0 a1 I L = some q) : KP S Rf q.2.1 q.2.2.2.2 := by
  replace hf := (f_H_dial.eq_1 _ _ _ _ _ _).symm.trans hf
  by_cases c1 : (f_Ge_hasArbor a0 I L) = (0 : Int32)
  · replace hf := (if_pos c1).symm.trans hf
    cases hf
    exact KP.rf
  · replace hf := (if_neg c1).symm.trans hf
    obtain ⟨x2, ex2, hf⟩ := bnd_e hf
    by_cases c3 : x2 = (0 : Int32)
    · replace hf := (if_pos c3).symm.trans hf
      cases hf
      exact KP.rf
    · replace hf := (if_neg c3).symm.trans hf
      by_cases c4 : (I 0 8) = (0 : Int32)
      · replace hf := (if_pos c4).symm.trans hf
        by_cases c5 : (8 : Int32) ≤ (I 0 6)
        · replace hf := (if_pos c5).symm.trans hf
          exact KP.tr KP.rf (t_H_dial_L56 hf)
        · replace hf := (if_neg c5).symm.trans hf
          obtain ⟨c6, hf⟩ := gd_some hf
          rcases oc_cases hf with ⟨hr8, hf⟩ | ⟨w7, hr8, hf⟩
          · exact KP.tr KP.rf (t_H_dial_L56 hf)
          · obtain ⟨hs9, hf⟩ := gd_some hf
            exact KP.tr KP.rf (t_H_dial_L56_2 hf)
      · replace hf := (if_neg c4).symm.trans hf
        cases hf
        exact KP.rf
theorem dX1_length_0 : decode cX1_length 0 = .ok (.iload_n 0, 1) := by decide +kernel
theorem dX1_length_1 : decode cX1_length 1 = .ok (.ifCond .ne 6, 3) := by decide +kernel
theorem dX1_length_4 : decode cX1_length 4 = .ok (.bipush 31, 2) := by decide +kernel
theorem dX1_length_6 : decode cX1_length 6 = .ok (.ireturn, 1) := by decide +kernel
theorem dX1_length_7 : decode cX1_length 7 = .ok (.iload_n 1, 1) := by decide +kernel
theorem dX1_length_8 : decode cX1_length 8 = .ok (.iconst 2, 1) := by decide +kernel
theorem dX1_length_9 : decode cX1_length 9 = .ok (.if_icmp .ne 52, 3) := by decide +kernel
theorem dX1_length_12 : decode cX1_length 12 = .ok (.iload_n 0, 1) := by decide +kernel
theorem dX1_length_13 : decode cX1_length 13 = .ok (.iconst 1, 1) := by decide +kernel
theorem dX1_length_14 : decode cX1_length 14 = .ok (.if_icmp .le 47, 3) := by decide +kernel
theorem dX1_length_17 : decode cX1_length 17 = .ok (.iload_n 0, 1) := by decide +kernel
theorem dX1_length_18 : decode cX1_length 18 = .ok (.iconst 3, 1) := by decide +kernel
theorem dX1_length_19 : decode cX1_length 19 = .ok (.if_icmp .ne 22, 3) := by decide +kernel
theorem dX1_length_22 : decode cX1_length 22 = .ok (.iload_n 2, 1) := by decide +kernel
theorem dX1_length_23 : decode cX1_length 23 = .ok (.bipush 100, 2) := by decide +kernel
theorem dX1_length_25 : decode cX1_length 25 = .ok (.irem, 1) := by decide +kernel
theorem dX1_length_26 : decode cX1_length 26 = .ok (.ifCond .ne 15, 3) := by decide +kernel
theorem dX1_length_29 : decode cX1_length 29 = .ok (.iload_n 2, 1) := by decide +kernel
theorem dX1_length_30 : decode cX1_length 30 = .ok (.sipush 400, 3) := by decide +kernel
theorem dX1_length_33 : decode cX1_length 33 = .ok (.irem, 1) := by decide +kernel
theorem dX1_length_34 : decode cX1_length 34 = .ok (.ifCond .eq 7, 3) := by decide +kernel
theorem dX1_length_37 : decode cX1_length 37 = .ok (.iconst 1, 1) := by decide +kernel
theorem dX1_length_38 : decode cX1_length 38 = .ok (.goto 4, 3) := by decide +kernel
theorem dX1_length_41 : decode cX1_length 41 = .ok (.iconst 0, 1) := by decide +kernel
theorem dX1_length_42 : decode cX1_length 42 = .ok (.istore_n 3, 1) := by decide +kernel
theorem dX1_length_43 : decode cX1_length 43 = .ok (.iload_n 2, 1) := by decide +kernel
theorem dX1_length_44 : decode cX1_length 44 = .ok (.iconst 4, 1) := by decide +kernel
theorem dX1_length_45 : decode cX1_length 45 = .ok (.irem, 1) := by decide +kernel
theorem dX1_length_46 : decode cX1_length 46 = .ok (.ifCond .ne 12, 3) := by decide +kernel
theorem dX1_length_49 : decode cX1_length 49 = .ok (.iload_n 3, 1) := by decide +kernel
theorem dX1_length_50 : decode cX1_length 50 = .ok (.ifCond .ne 8, 3) := by decide +kernel
theorem dX1_length_53 : decode cX1_length 53 = .ok (.bipush 29, 2) := by decide +kernel
theorem dX1_length_55 : decode cX1_length 55 = .ok (.goto 5, 3) := by decide +kernel
theorem dX1_length_58 : decode cX1_length 58 = .ok (.bipush 28, 2) := by decide +kernel
theorem dX1_length_60 : decode cX1_length 60 = .ok (.ireturn, 1) := by decide +kernel
theorem dX1_length_61 : decode cX1_length 61 = .ok (.iload_n 1, 1) := by decide +kernel
theorem dX1_length_62 : decode cX1_length 62 = .ok (.iconst 2, 1) := by decide +kernel
theorem dX1_length_63 : decode cX1_length 63 = .ok (.if_icmp .eq 26, 3) := by decide +kernel
theorem dX1_length_66 : decode cX1_length 66 = .ok (.iload_n 1, 1) := by decide +kernel
theorem dX1_length_67 : decode cX1_length 67 = .ok (.iconst 4, 1) := by decide +kernel
theorem dX1_length_68 : decode cX1_length 68 = .ok (.if_icmp .eq 21, 3) := by decide +kernel
theorem dX1_length_71 : decode cX1_length 71 = .ok (.iload_n 1, 1) := by decide +kernel
theorem dX1_length_72 : decode cX1_length 72 = .ok (.bipush 6, 2) := by decide +kernel
theorem dX1_length_74 : decode cX1_length 74 = .ok (.if_icmp .eq 15, 3) := by decide +kernel
theorem dX1_length_77 : decode cX1_length 77 = .ok (.iload_n 1, 1) := by decide +kernel
theorem dX1_length_78 : decode cX1_length 78 = .ok (.bipush 9, 2) := by decide +kernel
theorem dX1_length_80 : decode cX1_length 80 = .ok (.if_icmp .eq 9, 3) := by decide +kernel
theorem dX1_length_83 : decode cX1_length 83 = .ok (.iload_n 1, 1) := by decide +kernel
theorem dX1_length_84 : decode cX1_length 84 = .ok (.bipush 11, 2) := by decide +kernel
theorem dX1_length_86 : decode cX1_length 86 = .ok (.if_icmp .ne 8, 3) := by decide +kernel
theorem dX1_length_89 : decode cX1_length 89 = .ok (.bipush 30, 2) := by decide +kernel
theorem dX1_length_91 : decode cX1_length 91 = .ok (.goto 5, 3) := by decide +kernel
theorem dX1_length_94 : decode cX1_length 94 = .ok (.bipush 31, 2) := by decide +kernel
theorem dX1_length_96 : decode cX1_length 96 = .ok (.ireturn, 1) := by decide +kernel
def f_Ca_length_L61 (l1 : Int32) : Int32 := (if l1 = (2 : Int32) then (30 : Int32) else (if l1 = (4 : Int32) then (30 : Int32) else (if l1 = (6 : Int32) then (30 : Int32) else (if l1 = (9 : Int32) then (30 : Int32) else (if l1 = (11 : Int32) then (30 : Int32) else (31 : Int32))))))
set_option maxRecDepth 100000 in
set_option maxHeartbeats 4000000 in
theorem x_Ca_length_L61 {G : xG} {S : List xSh} {Rf : Nat → Nat → Option Nat} (hT : xTH S Rf) {l1 : Int32} {I : Nat → Nat → Int32} {L : Nat → Nat → Int64} {q : Int32} (hf : f_Ca_length_L61 l1 = q) : X G 1 m_Ca_length 61 [(1, .int l1)] [] (S, I, L, Rf) (some (.int q), (S, I, L, Rf)) := by
  replace hf := (f_Ca_length_L61.eq_1 _).symm.trans hf
  refine X_iload_n (pc := 61) (i := 1) 0 dX1_length_61 rfl rfl ?_
  refine X_iconst (pc := 62) (2 : Int32) dX1_length_62 (by decide) ?_
  by_cases c4 : l1 = (2 : Int32)
  · replace hf := (if_pos c4).symm.trans hf
    refine X_icmp_eq_t (pc := 63) 89 dX1_length_63 (by decide) c4 ?_
    refine X_bipush (pc := 89) (30 : Int32) dX1_length_89 (by decide) ?_
    refine X_goto (pc := 91) 96 dX1_length_91 (by decide) ?_
    subst hf
    exact X_ireturn (pc := 96) rfl dX1_length_96
  · replace hf := (if_neg c4).symm.trans hf
    refine X_icmp_eq_f (pc := 63) 89 dX1_length_63 (by decide) c4 ?_
    refine X_iload_n (pc := 66) (i := 1) 0 dX1_length_66 rfl rfl ?_
    refine X_iconst (pc := 67) (4 : Int32) dX1_length_67 (by decide) ?_
    by_cases c5 : l1 = (4 : Int32)
    · replace hf := (if_pos c5).symm.trans hf
      refine X_icmp_eq_t (pc := 68) 89 dX1_length_68 (by decide) c5 ?_
      refine X_bipush (pc := 89) (30 : Int32) dX1_length_89 (by decide) ?_
      refine X_goto (pc := 91) 96 dX1_length_91 (by decide) ?_
      subst hf
      exact X_ireturn (pc := 96) rfl dX1_length_96
    · replace hf := (if_neg c5).symm.trans hf
      refine X_icmp_eq_f (pc := 68) 89 dX1_length_68 (by decide) c5 ?_
      refine X_iload_n (pc := 71) (i := 1) 0 dX1_length_71 rfl rfl ?_
      refine X_bipush (pc := 72) (6 : Int32) dX1_length_72 (by decide) ?_
      by_cases c6 : l1 = (6 : Int32)
      · replace hf := (if_pos c6).symm.trans hf
        refine X_icmp_eq_t (pc := 74) 89 dX1_length_74 (by decide) c6 ?_
        refine X_bipush (pc := 89) (30 : Int32) dX1_length_89 (by decide) ?_
        refine X_goto (pc := 91) 96 dX1_length_91 (by decide) ?_
        subst hf
        exact X_ireturn (pc := 96) rfl dX1_length_96
      · replace hf := (if_neg c6).symm.trans hf
        refine X_icmp_eq_f (pc := 74) 89 dX1_length_74 (by decide) c6 ?_
        refine X_iload_n (pc := 77) (i := 1) 0 dX1_length_77 rfl rfl ?_
        refine X_bipush (pc := 78) (9 : Int32) dX1_length_78 (by decide) ?_
        by_cases c7 : l1 = (9 : Int32)
        · replace hf := (if_pos c7).symm.trans hf
          refine X_icmp_eq_t (pc := 80) 89 dX1_length_80 (by decide) c7 ?_
          refine X_bipush (pc := 89) (30 : Int32) dX1_length_89 (by decide) ?_
          refine X_goto (pc := 91) 96 dX1_length_91 (by decide) ?_
          subst hf
          exact X_ireturn (pc := 96) rfl dX1_length_96
        · replace hf := (if_neg c7).symm.trans hf
          refine X_icmp_eq_f (pc := 80) 89 dX1_length_80 (by decide) c7 ?_
          refine X_iload_n (pc := 83) (i := 1) 0 dX1_length_83 rfl rfl ?_
          refine X_bipush (pc := 84) (11 : Int32) dX1_length_84 (by decide) ?_
          by_cases c8 : l1 = (11 : Int32)
          · replace hf := (if_pos c8).symm.trans hf
            refine X_icmp_ne_f (pc := 86) 94 dX1_length_86 (by decide) c8 ?_
            refine X_bipush (pc := 89) (30 : Int32) dX1_length_89 (by decide) ?_
            refine X_goto (pc := 91) 96 dX1_length_91 (by decide) ?_
            subst hf
            exact X_ireturn (pc := 96) rfl dX1_length_96
          · replace hf := (if_neg c8).symm.trans hf
            refine X_icmp_ne_t (pc := 86) 94 dX1_length_86 (by decide) c8 ?_
            refine X_bipush (pc := 94) (31 : Int32) dX1_length_94 (by decide) ?_
            subst hf
            exact X_ireturn (pc := 96) rfl dX1_length_96
def f_Ca_length_L42 (l2 : Int32) (s0 : Int32) : Int32 := (if (irem l2 (4 : Int32)) = (0 : Int32) then (if s0 = (0 : Int32) then (29 : Int32) else (28 : Int32)) else (28 : Int32))
set_option maxRecDepth 100000 in
set_option maxHeartbeats 4000000 in
theorem x_Ca_length_L42 {G : xG} {S : List xSh} {Rf : Nat → Nat → Option Nat} (hT : xTH S Rf) {l2 : Int32} {s0 : Int32} {I : Nat → Nat → Int32} {L : Nat → Nat → Int64} {q : Int32} (hf : f_Ca_length_L42 l2 s0 = q) : X G 1 m_Ca_length 42 [(2, .int l2)] [.int s0] (S, I, L, Rf) (some (.int q), (S, I, L, Rf)) := by
  replace hf := (f_Ca_length_L42.eq_1 _ _).symm.trans hf
  refine X_istore_n (pc := 42) (i := 3) [(3, .int s0), (2, .int l2)] dX1_length_42 rfl (by decide) rfl ?_
  refine X_iload_n (pc := 43) (i := 2) 1 dX1_length_43 rfl rfl ?_
  refine X_iconst (pc := 44) (4 : Int32) dX1_length_44 (by decide) ?_
  refine X_irem (pc := 45) dX1_length_45 (by decide) ?_
  by_cases c12 : (irem l2 (4 : Int32)) = (0 : Int32)
  · replace hf := (if_pos c12).symm.trans hf
    refine X_if_ne_f (pc := 46) 58 dX1_length_46 (by decide) c12 ?_
    refine X_iload_n (pc := 49) (i := 3) 0 dX1_length_49 rfl rfl ?_
    by_cases c13 : s0 = (0 : Int32)
    · replace hf := (if_pos c13).symm.trans hf
      refine X_if_ne_f (pc := 50) 58 dX1_length_50 (by decide) c13 ?_
      refine X_bipush (pc := 53) (29 : Int32) dX1_length_53 (by decide) ?_
      refine X_goto (pc := 55) 60 dX1_length_55 (by decide) ?_
      subst hf
      exact X_ireturn (pc := 60) rfl dX1_length_60
    · replace hf := (if_neg c13).symm.trans hf
      refine X_if_ne_t (pc := 50) 58 dX1_length_50 (by decide) c13 ?_
      refine X_bipush (pc := 58) (28 : Int32) dX1_length_58 (by decide) ?_
      subst hf
      exact X_ireturn (pc := 60) rfl dX1_length_60
  · replace hf := (if_neg c12).symm.trans hf
    refine X_if_ne_t (pc := 46) 58 dX1_length_46 (by decide) c12 ?_
    refine X_bipush (pc := 58) (28 : Int32) dX1_length_58 (by decide) ?_
    subst hf
    exact X_ireturn (pc := 60) rfl dX1_length_60
def f_Ca_length_L41 (l2 : Int32) : Int32 := (f_Ca_length_L42 l2 (0 : Int32))
set_option maxRecDepth 100000 in
set_option maxHeartbeats 4000000 in
theorem x_Ca_length_L41 {G : xG} {S : List xSh} {Rf : Nat → Nat → Option Nat} (hT : xTH S Rf) {l2 : Int32} {I : Nat → Nat → Int32} {L : Nat → Nat → Int64} {q : Int32} (hf : f_Ca_length_L41 l2 = q) : X G 1 m_Ca_length 41 [(2, .int l2)] [] (S, I, L, Rf) (some (.int q), (S, I, L, Rf)) := by
  replace hf := (f_Ca_length_L41.eq_1 _).symm.trans hf
  refine X_iconst (pc := 41) (0 : Int32) dX1_length_41 (by decide) ?_
  exact X_lvs [0] rfl (x_Ca_length_L42 hT hf)
def f_Ca_length (a0 : Int32) (a1 : Int32) (a2 : Int32) : Int32 := (if a0 = (0 : Int32) then (31 : Int32) else (if a1 = (2 : Int32) then (if a0 ≤ (1 : Int32) then (f_Ca_length_L61 a1) else (if a0 = (3 : Int32) then (if (irem a2 (100 : Int32)) = (0 : Int32) then (if (irem a2 (400 : Int32)) = (0 : Int32) then (f_Ca_length_L41 a2) else (f_Ca_length_L42 a2 (1 : Int32))) else (f_Ca_length_L41 a2)) else (f_Ca_length_L41 a2))) else (f_Ca_length_L61 a1)))
set_option maxRecDepth 100000 in
set_option maxHeartbeats 4000000 in
theorem c_Ca_length {G : xG} {S : List xSh} {Rf : Nat → Nat → Option Nat} (hT : xTH S Rf) {a0 : Int32} {a1 : Int32} {a2 : Int32} {I : Nat → Nat → Int32} {L : Nat → Nat → Int64} {q : Int32} (hf : f_Ca_length a0 a1 a2 = q) : CT G 1 m_Ca_length [.int a0, .int a1, .int a2] (S, I, L, Rf) (some (.int q), (S, I, L, Rf)) := by
  refine CT.of (by decide +kernel) (Nat.le_of_ble_eq_true rfl) ?_
  show X G 1 m_Ca_length 0 [(0, .int a0), (1, .int a1), (2, .int a2)] [] (S, I, L, Rf) (some (.int q), (S, I, L, Rf))
  replace hf := (f_Ca_length.eq_1 _ _ _).symm.trans hf
  refine X_iload_n (pc := 0) (i := 0) 0 dX1_length_0 rfl rfl ?_
  by_cases c1 : a0 = (0 : Int32)
  · replace hf := (if_pos c1).symm.trans hf
    refine X_if_ne_f (pc := 1) 7 dX1_length_1 (by decide) c1 ?_
    refine X_bipush (pc := 4) (31 : Int32) dX1_length_4 (by decide) ?_
    subst hf
    exact X_ireturn (pc := 6) rfl dX1_length_6
  · replace hf := (if_neg c1).symm.trans hf
    refine X_if_ne_t (pc := 1) 7 dX1_length_1 (by decide) c1 ?_
    refine X_iload_n (pc := 7) (i := 1) 1 dX1_length_7 rfl rfl ?_
    refine X_iconst (pc := 8) (2 : Int32) dX1_length_8 (by decide) ?_
    by_cases c2 : a1 = (2 : Int32)
    · replace hf := (if_pos c2).symm.trans hf
      refine X_icmp_ne_f (pc := 9) 61 dX1_length_9 (by decide) c2 ?_
      refine X_iload_n (pc := 12) (i := 0) 0 dX1_length_12 rfl rfl ?_
      refine X_iconst (pc := 13) (1 : Int32) dX1_length_13 (by decide) ?_
      by_cases c3 : a0 ≤ (1 : Int32)
      · replace hf := (if_pos c3).symm.trans hf
        refine X_icmp_le_t (pc := 14) 61 dX1_length_14 (by decide) c3 ?_
        exact X_lvs [1] rfl (x_Ca_length_L61 hT hf)
      · replace hf := (if_neg c3).symm.trans hf
        refine X_icmp_le_f (pc := 14) 61 dX1_length_14 (by decide) c3 ?_
        refine X_iload_n (pc := 17) (i := 0) 0 dX1_length_17 rfl rfl ?_
        refine X_iconst (pc := 18) (3 : Int32) dX1_length_18 (by decide) ?_
        by_cases c9 : a0 = (3 : Int32)
        · replace hf := (if_pos c9).symm.trans hf
          refine X_icmp_ne_f (pc := 19) 41 dX1_length_19 (by decide) c9 ?_
          refine X_iload_n (pc := 22) (i := 2) 2 dX1_length_22 rfl rfl ?_
          refine X_bipush (pc := 23) (100 : Int32) dX1_length_23 (by decide) ?_
          refine X_irem (pc := 25) dX1_length_25 (by decide) ?_
          by_cases c10 : (irem a2 (100 : Int32)) = (0 : Int32)
          · replace hf := (if_pos c10).symm.trans hf
            refine X_if_ne_f (pc := 26) 41 dX1_length_26 (by decide) c10 ?_
            refine X_iload_n (pc := 29) (i := 2) 2 dX1_length_29 rfl rfl ?_
            refine X_sipush (pc := 30) (400 : Int32) dX1_length_30 (by decide) ?_
            refine X_irem (pc := 33) dX1_length_33 (by decide) ?_
            by_cases c11 : (irem a2 (400 : Int32)) = (0 : Int32)
            · replace hf := (if_pos c11).symm.trans hf
              refine X_if_eq_t (pc := 34) 41 dX1_length_34 (by decide) c11 ?_
              exact X_lvs [2] rfl (x_Ca_length_L41 hT hf)
            · replace hf := (if_neg c11).symm.trans hf
              refine X_if_eq_f (pc := 34) 41 dX1_length_34 (by decide) c11 ?_
              refine X_iconst (pc := 37) (1 : Int32) dX1_length_37 (by decide) ?_
              refine X_goto (pc := 38) 42 dX1_length_38 (by decide) ?_
              exact X_lvs [2] rfl (x_Ca_length_L42 hT hf)
          · replace hf := (if_neg c10).symm.trans hf
            refine X_if_ne_t (pc := 26) 41 dX1_length_26 (by decide) c10 ?_
            exact X_lvs [2] rfl (x_Ca_length_L41 hT hf)
        · replace hf := (if_neg c9).symm.trans hf
          refine X_icmp_ne_t (pc := 19) 41 dX1_length_19 (by decide) c9 ?_
          exact X_lvs [2] rfl (x_Ca_length_L41 hT hf)
    · replace hf := (if_neg c2).symm.trans hf
      refine X_icmp_ne_t (pc := 9) 61 dX1_length_9 (by decide) c2 ?_
      exact X_lvs [1] rfl (x_Ca_length_L61 hT hf)
theorem dX1_isDay_0 : decode cX1_isDay 0 = .ok (.iload_n 2, 1) := by decide +kernel
theorem dX1_isDay_1 : decode cX1_isDay 1 = .ok (.iconst 1, 1) := by decide +kernel
theorem dX1_isDay_2 : decode cX1_isDay 2 = .ok (.sipush 9999, 3) := by decide +kernel
theorem dX1_isDay_5 : decode cX1_isDay 5 = .ok (.invokestatic 24, 3) := by decide +kernel
theorem dX1_isDay_8 : decode cX1_isDay 8 = .ok (.ifCond .eq 31, 3) := by decide +kernel
theorem dX1_isDay_11 : decode cX1_isDay 11 = .ok (.iload_n 1, 1) := by decide +kernel
theorem dX1_isDay_12 : decode cX1_isDay 12 = .ok (.iconst 1, 1) := by decide +kernel
theorem dX1_isDay_13 : decode cX1_isDay 13 = .ok (.bipush 12, 2) := by decide +kernel
theorem dX1_isDay_15 : decode cX1_isDay 15 = .ok (.invokestatic 24, 3) := by decide +kernel
theorem dX1_isDay_18 : decode cX1_isDay 18 = .ok (.ifCond .eq 21, 3) := by decide +kernel
theorem dX1_isDay_21 : decode cX1_isDay 21 = .ok (.iload_n 0, 1) := by decide +kernel
theorem dX1_isDay_22 : decode cX1_isDay 22 = .ok (.iconst 1, 1) := by decide +kernel
theorem dX1_isDay_23 : decode cX1_isDay 23 = .ok (.iconst 3, 1) := by decide +kernel
theorem dX1_isDay_24 : decode cX1_isDay 24 = .ok (.iload_n 1, 1) := by decide +kernel
theorem dX1_isDay_25 : decode cX1_isDay 25 = .ok (.iload_n 2, 1) := by decide +kernel
theorem dX1_isDay_26 : decode cX1_isDay 26 = .ok (.invokestatic 28, 3) := by decide +kernel
theorem dX1_isDay_29 : decode cX1_isDay 29 = .ok (.invokestatic 24, 3) := by decide +kernel
theorem dX1_isDay_32 : decode cX1_isDay 32 = .ok (.ifCond .eq 7, 3) := by decide +kernel
theorem dX1_isDay_35 : decode cX1_isDay 35 = .ok (.iconst 1, 1) := by decide +kernel
theorem dX1_isDay_36 : decode cX1_isDay 36 = .ok (.goto 4, 3) := by decide +kernel
theorem dX1_isDay_39 : decode cX1_isDay 39 = .ok (.iconst 0, 1) := by decide +kernel
theorem dX1_isDay_40 : decode cX1_isDay 40 = .ok (.ireturn, 1) := by decide +kernel
def f_Ca_isDay (a0 : Int32) (a1 : Int32) (a2 : Int32) : Int32 := (bnd (f_H_isWithin a2 (1 : Int32) (9999 : Int32)) fun x1 => (if x1 = (0 : Int32) then (0 : Int32) else (bnd (f_H_isWithin a1 (1 : Int32) (12 : Int32)) fun x3 => (if x3 = (0 : Int32) then (0 : Int32) else (bnd (f_H_isWithin a0 (1 : Int32) (f_Ca_length (3 : Int32) a1 a2)) fun x5 => (if x5 = (0 : Int32) then (0 : Int32) else (1 : Int32)))))))
set_option maxRecDepth 100000 in
set_option maxHeartbeats 4000000 in
theorem c_Ca_isDay {G : xG} {S : List xSh} {Rf : Nat → Nat → Option Nat} (hT : xTH S Rf) {a0 : Int32} {a1 : Int32} {a2 : Int32} {I : Nat → Nat → Int32} {L : Nat → Nat → Int64} {q : Int32} (hf : f_Ca_isDay a0 a1 a2 = q) : CT G 2 m_Ca_isDay [.int a0, .int a1, .int a2] (S, I, L, Rf) (some (.int q), (S, I, L, Rf)) := by
  refine CT.of (by decide +kernel) (Nat.le_of_ble_eq_true rfl) ?_
  show X G 2 m_Ca_isDay 0 [(0, .int a0), (1, .int a1), (2, .int a2)] [] (S, I, L, Rf) (some (.int q), (S, I, L, Rf))
  replace hf := (f_Ca_isDay.eq_1 _ _ _).symm.trans hf
  refine X_iload_n (pc := 0) (i := 2) 2 dX1_isDay_0 rfl rfl ?_
  refine X_iconst (pc := 1) (1 : Int32) dX1_isDay_1 (by decide) ?_
  refine X_sipush (pc := 2) (9999 : Int32) dX1_isDay_2 (by decide) ?_
  refine X_invSN_i (pc := 5) (c_H_isWithin hT rfl) ok_H_isWithin k_677 k_564 nd_6 (by decide) rfl (Nat.le_of_ble_eq_true rfl) dX1_isDay_5 ?_
  obtain ⟨x1, ex1, hf⟩ := bnd_e hf
  refine X_tope ex1 ?_
  by_cases c2 : x1 = (0 : Int32)
  · replace hf := (if_pos c2).symm.trans hf
    refine X_if_eq_t (pc := 8) 39 dX1_isDay_8 (by decide) c2 ?_
    refine X_iconst (pc := 39) (0 : Int32) dX1_isDay_39 (by decide) ?_
    subst hf
    exact X_zreturn (pc := 40) rfl (nar_b (by decide)) dX1_isDay_40
  · replace hf := (if_neg c2).symm.trans hf
    refine X_if_eq_f (pc := 8) 39 dX1_isDay_8 (by decide) c2 ?_
    refine X_iload_n (pc := 11) (i := 1) 1 dX1_isDay_11 rfl rfl ?_
    refine X_iconst (pc := 12) (1 : Int32) dX1_isDay_12 (by decide) ?_
    refine X_bipush (pc := 13) (12 : Int32) dX1_isDay_13 (by decide) ?_
    refine X_invSN_i (pc := 15) (c_H_isWithin hT rfl) ok_H_isWithin k_677 k_564 nd_6 (by decide) rfl (Nat.le_of_ble_eq_true rfl) dX1_isDay_15 ?_
    obtain ⟨x3, ex3, hf⟩ := bnd_e hf
    refine X_tope ex3 ?_
    by_cases c4 : x3 = (0 : Int32)
    · replace hf := (if_pos c4).symm.trans hf
      refine X_if_eq_t (pc := 18) 39 dX1_isDay_18 (by decide) c4 ?_
      refine X_iconst (pc := 39) (0 : Int32) dX1_isDay_39 (by decide) ?_
      subst hf
      exact X_zreturn (pc := 40) rfl (nar_b (by decide)) dX1_isDay_40
    · replace hf := (if_neg c4).symm.trans hf
      refine X_if_eq_f (pc := 18) 39 dX1_isDay_18 (by decide) c4 ?_
      refine X_iload_n (pc := 21) (i := 0) 0 dX1_isDay_21 rfl rfl ?_
      refine X_iconst (pc := 22) (1 : Int32) dX1_isDay_22 (by decide) ?_
      refine X_iconst (pc := 23) (3 : Int32) dX1_isDay_23 (by decide) ?_
      refine X_iload_n (pc := 24) (i := 1) 1 dX1_isDay_24 rfl rfl ?_
      refine X_iload_n (pc := 25) (i := 2) 2 dX1_isDay_25 rfl rfl ?_
      refine X_invS_i (pc := 26) (c_Ca_length hT rfl) ok_Ca_length k_661 k_662 nd_16 (by decide) rfl (Nat.le_of_ble_eq_true rfl) dX1_isDay_26 ?_
      refine X_invSN_i (pc := 29) (c_H_isWithin hT rfl) ok_H_isWithin k_677 k_564 nd_6 (by decide) rfl (Nat.le_of_ble_eq_true rfl) dX1_isDay_29 ?_
      obtain ⟨x5, ex5, hf⟩ := bnd_e hf
      refine X_tope ex5 ?_
      by_cases c6 : x5 = (0 : Int32)
      · replace hf := (if_pos c6).symm.trans hf
        refine X_if_eq_t (pc := 32) 39 dX1_isDay_32 (by decide) c6 ?_
        refine X_iconst (pc := 39) (0 : Int32) dX1_isDay_39 (by decide) ?_
        subst hf
        exact X_zreturn (pc := 40) rfl (nar_b (by decide)) dX1_isDay_40
      · replace hf := (if_neg c6).symm.trans hf
        refine X_if_eq_f (pc := 32) 39 dX1_isDay_32 (by decide) c6 ?_
        refine X_iconst (pc := 35) (1 : Int32) dX1_isDay_35 (by decide) ?_
        refine X_goto (pc := 36) 40 dX1_isDay_36 (by decide) ?_
        subst hf
        exact X_zreturn (pc := 40) rfl (nar_b (by decide)) dX1_isDay_40
theorem dX1_begin_0 : decode cX1_begin 0 = .ok (.aload_n 0, 1) := by decide +kernel
theorem dX1_begin_1 : decode cX1_begin 1 = .ok (.iload_n 1, 1) := by decide +kernel
theorem dX1_begin_2 : decode cX1_begin 2 = .ok (.putfield 9, 3) := by decide +kernel
theorem dX1_begin_5 : decode cX1_begin 5 = .ok (.aload_n 0, 1) := by decide +kernel
theorem dX1_begin_6 : decode cX1_begin 6 = .ok (.iload_n 2, 1) := by decide +kernel
theorem dX1_begin_7 : decode cX1_begin 7 = .ok (.putfield 15, 3) := by decide +kernel
theorem dX1_begin_10 : decode cX1_begin 10 = .ok (.aload_n 0, 1) := by decide +kernel
theorem dX1_begin_11 : decode cX1_begin 11 = .ok (.iload_n 3, 1) := by decide +kernel
theorem dX1_begin_12 : decode cX1_begin 12 = .ok (.putfield 18, 3) := by decide +kernel
theorem dX1_begin_15 : decode cX1_begin 15 = .ok (.aload_n 0, 1) := by decide +kernel
theorem dX1_begin_16 : decode cX1_begin 16 = .ok (.iload 4, 2) := by decide +kernel
theorem dX1_begin_18 : decode cX1_begin 18 = .ok (.putfield 21, 3) := by decide +kernel
theorem dX1_begin_21 : decode cX1_begin 21 = .ok (.return_, 1) := by decide +kernel
def f_Ca_begin (w0 : Nat) (a0 : Int32) (a1 : Int32) (a2 : Int32) (a3 : Int32) (I : Nat → Nat → Int32) (L : Nat → Nat → Int64) : Option ((Nat → Nat → Int32) × (Nat → Nat → Int64)) := (some ((uI (uI (uI (uI I w0 2 a0) w0 3 a1) w0 4 a2) w0 5 a3), L))
set_option maxRecDepth 100000 in
set_option maxHeartbeats 4000000 in
theorem c_Ca_begin {G : xG} {S : List xSh} {Rf : Nat → Nat → Option Nat} (hT : xTH S Rf) {w0 : Nat} {a0 : Int32} {a1 : Int32} {a2 : Int32} {a3 : Int32} (hw0 : S[w0]? = some (.inl 1)) {I : Nat → Nat → Int32} {L : Nat → Nat → Int64} {q : ((Nat → Nat → Int32) × (Nat → Nat → Int64))} (hf : f_Ca_begin w0 a0 a1 a2 a3 I L = some q) : CT G 1 m_Ca_begin [.ref (xP G w0), .int a0, .int a1, .int a2, .int a3] (S, I, L, Rf) (none, (S, q.1, q.2, Rf)) := by
  refine CT.of (by decide +kernel) (Nat.le_of_ble_eq_true rfl) ?_
  show X G 1 m_Ca_begin 0 [(0, .ref (xP G w0)), (1, .int a0), (2, .int a1), (3, .int a2), (4, .int a3)] [] (S, I, L, Rf) (none, (S, q.1, q.2, Rf))
  replace hf := (f_Ca_begin.eq_1 _ _ _ _ _ _ _).symm.trans hf
  refine X_aload_n (pc := 0) (i := 0) 0 dX1_begin_0 rfl rfl ?_
  refine X_iload_n (pc := 1) (i := 1) 1 dX1_begin_1 rfl rfl ?_
  refine X_puti (pc := 2) (a := w0) (ci := 1) (j := 2) 2 rfl false hw0 (by decide) k_379 rfl (fun h => by cases h) rfl dX1_begin_2 ?_
  refine X_aload_n (pc := 5) (i := 0) 0 dX1_begin_5 rfl rfl ?_
  refine X_iload_n (pc := 6) (i := 2) 2 dX1_begin_6 rfl rfl ?_
  refine X_puti (pc := 7) (a := w0) (ci := 1) (j := 3) 3 rfl false hw0 (by decide) k_380 rfl (fun h => by cases h) rfl dX1_begin_7 ?_
  refine X_aload_n (pc := 10) (i := 0) 0 dX1_begin_10 rfl rfl ?_
  refine X_iload_n (pc := 11) (i := 3) 3 dX1_begin_11 rfl rfl ?_
  refine X_puti (pc := 12) (a := w0) (ci := 1) (j := 4) 4 rfl false hw0 (by decide) k_381 rfl (fun h => by cases h) rfl dX1_begin_12 ?_
  refine X_aload_n (pc := 15) (i := 0) 0 dX1_begin_15 rfl rfl ?_
  refine X_iload (pc := 16) 4 dX1_begin_16 rfl ?_
  refine X_puti (pc := 18) (a := w0) (ci := 1) (j := 5) 5 rfl false hw0 (by decide) k_382 rfl (fun h => by cases h) rfl dX1_begin_18 ?_
  cases hf
  exact X_return (pc := 21) rfl dX1_begin_21
theorem u_Ca_begin {S : List xSh} {w0 : Nat} {a0 : Int32} {a1 : Int32} {a2 : Int32} {a3 : Int32} (hw0 : S[w0]? = some (.inl 1)) {I : Nat → Nat → Int32} {L : Nat → Nat → Int64} {q : ((Nat → Nat → Int32) × (Nat → Nat → Int64))} (hf : f_Ca_begin w0 a0 a1 a2 a3 I L = some q) : FR S [] [] I q.1 L q.2 := by
  replace hf := (f_Ca_begin.eq_1 _ _ _ _ _ _ _).symm.trans hf
  cases hf
  exact (FR.dy (FR.dy (FR.dy (FR.dy FR.rf hw0 (by decide)) hw0 (by decide)) hw0 (by decide)) hw0 (by decide))
theorem dX1_weekDayOf_0 : decode cX1_weekDayOf 0 = .ok (.iload_n 2, 1) := by decide +kernel
theorem dX1_weekDayOf_1 : decode cX1_weekDayOf 1 = .ok (.iconst 1, 1) := by decide +kernel
theorem dX1_weekDayOf_2 : decode cX1_weekDayOf 2 = .ok (.isub, 1) := by decide +kernel
theorem dX1_weekDayOf_3 : decode cX1_weekDayOf 3 = .ok (.istore_n 3, 1) := by decide +kernel
theorem dX1_weekDayOf_4 : decode cX1_weekDayOf 4 = .ok (.iload_n 3, 1) := by decide +kernel
theorem dX1_weekDayOf_5 : decode cX1_weekDayOf 5 = .ok (.sipush 365, 3) := by decide +kernel
theorem dX1_weekDayOf_8 : decode cX1_weekDayOf 8 = .ok (.imul, 1) := by decide +kernel
theorem dX1_weekDayOf_9 : decode cX1_weekDayOf 9 = .ok (.iload_n 3, 1) := by decide +kernel
theorem dX1_weekDayOf_10 : decode cX1_weekDayOf 10 = .ok (.iconst 4, 1) := by decide +kernel
theorem dX1_weekDayOf_11 : decode cX1_weekDayOf 11 = .ok (.idiv, 1) := by decide +kernel
theorem dX1_weekDayOf_12 : decode cX1_weekDayOf 12 = .ok (.iadd, 1) := by decide +kernel
theorem dX1_weekDayOf_13 : decode cX1_weekDayOf 13 = .ok (.iload_n 3, 1) := by decide +kernel
theorem dX1_weekDayOf_14 : decode cX1_weekDayOf 14 = .ok (.bipush 100, 2) := by decide +kernel
theorem dX1_weekDayOf_16 : decode cX1_weekDayOf 16 = .ok (.idiv, 1) := by decide +kernel
theorem dX1_weekDayOf_17 : decode cX1_weekDayOf 17 = .ok (.isub, 1) := by decide +kernel
theorem dX1_weekDayOf_18 : decode cX1_weekDayOf 18 = .ok (.iload_n 3, 1) := by decide +kernel
theorem dX1_weekDayOf_19 : decode cX1_weekDayOf 19 = .ok (.sipush 400, 3) := by decide +kernel
theorem dX1_weekDayOf_22 : decode cX1_weekDayOf 22 = .ok (.idiv, 1) := by decide +kernel
theorem dX1_weekDayOf_23 : decode cX1_weekDayOf 23 = .ok (.iadd, 1) := by decide +kernel
theorem dX1_weekDayOf_24 : decode cX1_weekDayOf 24 = .ok (.iload_n 0, 1) := by decide +kernel
theorem dX1_weekDayOf_25 : decode cX1_weekDayOf 25 = .ok (.iadd, 1) := by decide +kernel
theorem dX1_weekDayOf_26 : decode cX1_weekDayOf 26 = .ok (.iconst 1, 1) := by decide +kernel
theorem dX1_weekDayOf_27 : decode cX1_weekDayOf 27 = .ok (.isub, 1) := by decide +kernel
theorem dX1_weekDayOf_28 : decode cX1_weekDayOf 28 = .ok (.istore 4, 2) := by decide +kernel
theorem dX1_weekDayOf_30 : decode cX1_weekDayOf 30 = .ok (.iconst 1, 1) := by decide +kernel
theorem dX1_weekDayOf_31 : decode cX1_weekDayOf 31 = .ok (.istore 5, 2) := by decide +kernel
theorem dX1_weekDayOf_33 : decode cX1_weekDayOf 33 = .ok (.iload 5, 2) := by decide +kernel
theorem dX1_weekDayOf_35 : decode cX1_weekDayOf 35 = .ok (.iload_n 1, 1) := by decide +kernel
theorem dX1_weekDayOf_36 : decode cX1_weekDayOf 36 = .ok (.if_icmp .ge 28, 3) := by decide +kernel
theorem dX1_weekDayOf_39 : decode cX1_weekDayOf 39 = .ok (.iload 5, 2) := by decide +kernel
theorem dX1_weekDayOf_41 : decode cX1_weekDayOf 41 = .ok (.bipush 12, 2) := by decide +kernel
theorem dX1_weekDayOf_43 : decode cX1_weekDayOf 43 = .ok (.if_icmp .gt 21, 3) := by decide +kernel
theorem dX1_weekDayOf_46 : decode cX1_weekDayOf 46 = .ok (.iload 4, 2) := by decide +kernel
theorem dX1_weekDayOf_48 : decode cX1_weekDayOf 48 = .ok (.iconst 3, 1) := by decide +kernel
theorem dX1_weekDayOf_49 : decode cX1_weekDayOf 49 = .ok (.iload 5, 2) := by decide +kernel
theorem dX1_weekDayOf_51 : decode cX1_weekDayOf 51 = .ok (.iload_n 2, 1) := by decide +kernel
theorem dX1_weekDayOf_52 : decode cX1_weekDayOf 52 = .ok (.invokestatic 28, 3) := by decide +kernel
theorem dX1_weekDayOf_55 : decode cX1_weekDayOf 55 = .ok (.iadd, 1) := by decide +kernel
theorem dX1_weekDayOf_56 : decode cX1_weekDayOf 56 = .ok (.istore 4, 2) := by decide +kernel
theorem dX1_weekDayOf_58 : decode cX1_weekDayOf 58 = .ok (.iinc 5 1, 3) := by decide +kernel
theorem dX1_weekDayOf_61 : decode cX1_weekDayOf 61 = .ok (.goto (-28), 3) := by decide +kernel
theorem dX1_weekDayOf_64 : decode cX1_weekDayOf 64 = .ok (.iload 4, 2) := by decide +kernel
theorem dX1_weekDayOf_66 : decode cX1_weekDayOf 66 = .ok (.bipush 7, 2) := by decide +kernel
theorem dX1_weekDayOf_68 : decode cX1_weekDayOf 68 = .ok (.irem, 1) := by decide +kernel
theorem dX1_weekDayOf_69 : decode cX1_weekDayOf 69 = .ok (.ireturn, 1) := by decide +kernel
def f_Ca_weekDayOf_L33 : Nat → Int32 → Int32 → Int32 → Int32 → Option Int32
  | 0, _, _, _, _ => none
  | n + 1, l1, l2, l4, l5 => (if l1 ≤ l5 then (some (irem l4 (7 : Int32))) else (if (12 : Int32) < l5 then (some (irem l4 (7 : Int32))) else (bnd (l4 + (f_Ca_length (3 : Int32) l5 l2)) fun x6 => (f_Ca_weekDayOf_L33 n l1 l2 x6 (l5 + (1 : Int32))))))
set_option maxRecDepth 100000 in
set_option maxHeartbeats 4000000 in
theorem x_Ca_weekDayOf_L33 {G : xG} {S : List xSh} {Rf : Nat → Nat → Option Nat} (hT : xTH S Rf) : ∀ (n : Nat) {l1 : Int32} {l2 : Int32} {l4 : Int32} {l5 : Int32} {I : Nat → Nat → Int32} {L : Nat → Nat → Int64} {q : Int32}, f_Ca_weekDayOf_L33 n l1 l2 l4 l5 = some q → X G 2 m_Ca_weekDayOf 33 [(1, .int l1), (2, .int l2), (4, .int l4), (5, .int l5)] [] (S, I, L, Rf) (some (.int q), (S, I, L, Rf)) := by
  intro n
  induction n with
  | zero =>
    intro l1 l2 l4 l5 I L q hf
    exact absurd (show none = some q from hf) (by simp)
  | succ n ih =>
    intro l1 l2 l4 l5 I L q hf
    replace hf := (f_Ca_weekDayOf_L33.eq_2 _ _ _ _ _).symm.trans hf
    refine X_iload (pc := 33) 3 dX1_weekDayOf_33 rfl ?_
    refine X_iload_n (pc := 35) (i := 1) 0 dX1_weekDayOf_35 rfl rfl ?_
    by_cases c4 : l1 ≤ l5
    · replace hf := (if_pos c4).symm.trans hf
      refine X_icmp_ge_t (pc := 36) 64 dX1_weekDayOf_36 (by decide) c4 ?_
      refine X_iload (pc := 64) 2 dX1_weekDayOf_64 rfl ?_
      refine X_bipush (pc := 66) (7 : Int32) dX1_weekDayOf_66 (by decide) ?_
      refine X_irem (pc := 68) dX1_weekDayOf_68 (by decide) ?_
      cases hf
      exact X_ireturn (pc := 69) rfl dX1_weekDayOf_69
    · replace hf := (if_neg c4).symm.trans hf
      refine X_icmp_ge_f (pc := 36) 64 dX1_weekDayOf_36 (by decide) c4 ?_
      refine X_iload (pc := 39) 3 dX1_weekDayOf_39 rfl ?_
      refine X_bipush (pc := 41) (12 : Int32) dX1_weekDayOf_41 (by decide) ?_
      by_cases c5 : (12 : Int32) < l5
      · replace hf := (if_pos c5).symm.trans hf
        refine X_icmp_gt_t (pc := 43) 64 dX1_weekDayOf_43 (by decide) c5 ?_
        refine X_iload (pc := 64) 2 dX1_weekDayOf_64 rfl ?_
        refine X_bipush (pc := 66) (7 : Int32) dX1_weekDayOf_66 (by decide) ?_
        refine X_irem (pc := 68) dX1_weekDayOf_68 (by decide) ?_
        cases hf
        exact X_ireturn (pc := 69) rfl dX1_weekDayOf_69
      · replace hf := (if_neg c5).symm.trans hf
        refine X_icmp_gt_f (pc := 43) 64 dX1_weekDayOf_43 (by decide) c5 ?_
        refine X_iload (pc := 46) 2 dX1_weekDayOf_46 rfl ?_
        refine X_iconst (pc := 48) (3 : Int32) dX1_weekDayOf_48 (by decide) ?_
        refine X_iload (pc := 49) 3 dX1_weekDayOf_49 rfl ?_
        refine X_iload_n (pc := 51) (i := 2) 1 dX1_weekDayOf_51 rfl rfl ?_
        refine X_invS_i (pc := 52) (c_Ca_length hT rfl) ok_Ca_length k_661 k_662 nd_16 (by decide) rfl (Nat.le_of_ble_eq_true rfl) dX1_weekDayOf_52 ?_
        refine X_iadd (pc := 55) dX1_weekDayOf_55 ?_
        obtain ⟨x6, ex6, hf⟩ := bnd_e hf
        refine X_tope ex6 ?_
        refine X_istore (pc := 56) [(4, .int x6), (1, .int l1), (2, .int l2), (5, .int l5)] dX1_weekDayOf_56 (by decide) rfl ?_
        refine X_iinc (pc := 58) (i := 5) (q := 3) (v := (l5 + (1 : Int32))) [(5, .int (l5 + (1 : Int32))), (4, .int x6), (1, .int l1), (2, .int l2)] dX1_weekDayOf_58 rfl rfl (by decide) rfl ?_
        refine X_goto (pc := 61) 33 dX1_weekDayOf_61 (by decide) ?_
        exact X_lvs [2, 3, 1, 0] rfl (ih hf)
def f_Ca_weekDayOf (a0 : Int32) (a1 : Int32) (a2 : Int32) : Option Int32 := (bnd (a2 - (1 : Int32)) fun x1 => (bnd ((((x1 * (365 : Int32)) + (x1 / (4 : Int32))) - (x1 / (100 : Int32))) + (x1 / (400 : Int32))) fun x2 => (bnd ((x2 + a0) - (1 : Int32)) fun x3 => (f_Ca_weekDayOf_L33 xF a1 a2 x3 (1 : Int32)))))
set_option maxRecDepth 100000 in
set_option maxHeartbeats 4000000 in
theorem c_Ca_weekDayOf {G : xG} {S : List xSh} {Rf : Nat → Nat → Option Nat} (hT : xTH S Rf) {a0 : Int32} {a1 : Int32} {a2 : Int32} {I : Nat → Nat → Int32} {L : Nat → Nat → Int64} {q : Int32} (hf : f_Ca_weekDayOf a0 a1 a2 = some q) : CT G 2 m_Ca_weekDayOf [.int a0, .int a1, .int a2] (S, I, L, Rf) (some (.int q), (S, I, L, Rf)) := by
  refine CT.of (by decide +kernel) (Nat.le_of_ble_eq_true rfl) ?_
  show X G 2 m_Ca_weekDayOf 0 [(0, .int a0), (1, .int a1), (2, .int a2)] [] (S, I, L, Rf) (some (.int q), (S, I, L, Rf))
  replace hf := (f_Ca_weekDayOf.eq_1 _ _ _).symm.trans hf
  refine X_iload_n (pc := 0) (i := 2) 2 dX1_weekDayOf_0 rfl rfl ?_
  refine X_iconst (pc := 1) (1 : Int32) dX1_weekDayOf_1 (by decide) ?_
  refine X_isub (pc := 2) dX1_weekDayOf_2 ?_
  obtain ⟨x1, ex1, hf⟩ := bnd_e hf
  refine X_tope ex1 ?_
  refine X_istore_n (pc := 3) (i := 3) [(3, .int x1), (0, .int a0), (1, .int a1), (2, .int a2)] dX1_weekDayOf_3 rfl (by decide) rfl ?_
  refine X_iload_n (pc := 4) (i := 3) 0 dX1_weekDayOf_4 rfl rfl ?_
  refine X_sipush (pc := 5) (365 : Int32) dX1_weekDayOf_5 (by decide) ?_
  refine X_imul (pc := 8) dX1_weekDayOf_8 ?_
  refine X_iload_n (pc := 9) (i := 3) 0 dX1_weekDayOf_9 rfl rfl ?_
  refine X_iconst (pc := 10) (4 : Int32) dX1_weekDayOf_10 (by decide) ?_
  refine X_idiv (pc := 11) dX1_weekDayOf_11 (by decide) ?_
  refine X_iadd (pc := 12) dX1_weekDayOf_12 ?_
  refine X_iload_n (pc := 13) (i := 3) 0 dX1_weekDayOf_13 rfl rfl ?_
  refine X_bipush (pc := 14) (100 : Int32) dX1_weekDayOf_14 (by decide) ?_
  refine X_idiv (pc := 16) dX1_weekDayOf_16 (by decide) ?_
  refine X_isub (pc := 17) dX1_weekDayOf_17 ?_
  refine X_iload_n (pc := 18) (i := 3) 0 dX1_weekDayOf_18 rfl rfl ?_
  refine X_sipush (pc := 19) (400 : Int32) dX1_weekDayOf_19 (by decide) ?_
  refine X_idiv (pc := 22) dX1_weekDayOf_22 (by decide) ?_
  refine X_iadd (pc := 23) dX1_weekDayOf_23 ?_
  obtain ⟨x2, ex2, hf⟩ := bnd_e hf
  refine X_tope ex2 ?_
  refine X_iload_n (pc := 24) (i := 0) 1 dX1_weekDayOf_24 rfl rfl ?_
  refine X_iadd (pc := 25) dX1_weekDayOf_25 ?_
  refine X_iconst (pc := 26) (1 : Int32) dX1_weekDayOf_26 (by decide) ?_
  refine X_isub (pc := 27) dX1_weekDayOf_27 ?_
  obtain ⟨x3, ex3, hf⟩ := bnd_e hf
  refine X_tope ex3 ?_
  refine X_istore (pc := 28) [(4, .int x3), (3, .int x1), (0, .int a0), (1, .int a1), (2, .int a2)] dX1_weekDayOf_28 (by decide) rfl ?_
  refine X_iconst (pc := 30) (1 : Int32) dX1_weekDayOf_30 (by decide) ?_
  refine X_istore (pc := 31) [(5, .int (1 : Int32)), (4, .int x3), (3, .int x1), (0, .int a0), (1, .int a1), (2, .int a2)] dX1_weekDayOf_31 (by decide) rfl ?_
  exact X_lvs [4, 5, 1, 0] rfl (x_Ca_weekDayOf_L33 hT xF hf)
theorem dX1_restart_0 : decode cX1_restart 0 = .ok (.aload_n 0, 1) := by decide +kernel
theorem dX1_restart_1 : decode cX1_restart 1 = .ok (.aload_n 0, 1) := by decide +kernel
theorem dX1_restart_2 : decode cX1_restart 2 = .ok (.getfield 15, 3) := by decide +kernel
theorem dX1_restart_5 : decode cX1_restart 5 = .ok (.putfield 32, 3) := by decide +kernel
theorem dX1_restart_8 : decode cX1_restart 8 = .ok (.aload_n 0, 1) := by decide +kernel
theorem dX1_restart_9 : decode cX1_restart 9 = .ok (.aload_n 0, 1) := by decide +kernel
theorem dX1_restart_10 : decode cX1_restart 10 = .ok (.getfield 18, 3) := by decide +kernel
theorem dX1_restart_13 : decode cX1_restart 13 = .ok (.putfield 35, 3) := by decide +kernel
theorem dX1_restart_16 : decode cX1_restart 16 = .ok (.aload_n 0, 1) := by decide +kernel
theorem dX1_restart_17 : decode cX1_restart 17 = .ok (.aload_n 0, 1) := by decide +kernel
theorem dX1_restart_18 : decode cX1_restart 18 = .ok (.getfield 21, 3) := by decide +kernel
theorem dX1_restart_21 : decode cX1_restart 21 = .ok (.putfield 38, 3) := by decide +kernel
theorem dX1_restart_24 : decode cX1_restart 24 = .ok (.aload_n 0, 1) := by decide +kernel
theorem dX1_restart_25 : decode cX1_restart 25 = .ok (.aload_n 0, 1) := by decide +kernel
theorem dX1_restart_26 : decode cX1_restart 26 = .ok (.getfield 32, 3) := by decide +kernel
theorem dX1_restart_29 : decode cX1_restart 29 = .ok (.aload_n 0, 1) := by decide +kernel
theorem dX1_restart_30 : decode cX1_restart 30 = .ok (.getfield 35, 3) := by decide +kernel
theorem dX1_restart_33 : decode cX1_restart 33 = .ok (.aload_n 0, 1) := by decide +kernel
theorem dX1_restart_34 : decode cX1_restart 34 = .ok (.getfield 38, 3) := by decide +kernel
theorem dX1_restart_37 : decode cX1_restart 37 = .ok (.invokestatic 41, 3) := by decide +kernel
theorem dX1_restart_40 : decode cX1_restart 40 = .ok (.putfield 44, 3) := by decide +kernel
theorem dX1_restart_43 : decode cX1_restart 43 = .ok (.aload_n 0, 1) := by decide +kernel
theorem dX1_restart_44 : decode cX1_restart 44 = .ok (.aload_n 0, 1) := by decide +kernel
theorem dX1_restart_45 : decode cX1_restart 45 = .ok (.getfield 32, 3) := by decide +kernel
theorem dX1_restart_48 : decode cX1_restart 48 = .ok (.putfield 47, 3) := by decide +kernel
theorem dX1_restart_51 : decode cX1_restart 51 = .ok (.aload_n 0, 1) := by decide +kernel
theorem dX1_restart_52 : decode cX1_restart 52 = .ok (.aload_n 0, 1) := by decide +kernel
theorem dX1_restart_53 : decode cX1_restart 53 = .ok (.getfield 35, 3) := by decide +kernel
theorem dX1_restart_56 : decode cX1_restart 56 = .ok (.putfield 50, 3) := by decide +kernel
theorem dX1_restart_59 : decode cX1_restart 59 = .ok (.aload_n 0, 1) := by decide +kernel
theorem dX1_restart_60 : decode cX1_restart 60 = .ok (.aload_n 0, 1) := by decide +kernel
theorem dX1_restart_61 : decode cX1_restart 61 = .ok (.getfield 38, 3) := by decide +kernel
theorem dX1_restart_64 : decode cX1_restart 64 = .ok (.putfield 53, 3) := by decide +kernel
theorem dX1_restart_67 : decode cX1_restart 67 = .ok (.aload_n 0, 1) := by decide +kernel
theorem dX1_restart_68 : decode cX1_restart 68 = .ok (.iconst 0, 1) := by decide +kernel
theorem dX1_restart_69 : decode cX1_restart 69 = .ok (.putfield 56, 3) := by decide +kernel
theorem dX1_restart_72 : decode cX1_restart 72 = .ok (.return_, 1) := by decide +kernel
def f_Ca_restart (w0 : Nat) (I : Nat → Nat → Int32) (L : Nat → Nat → Int64) : Option ((Nat → Nat → Int32) × (Nat → Nat → Int64)) := (bnd (I w0 3) fun x1 => (bnd ((uI I w0 6 x1) w0 4) fun x2 => (bnd ((uI (uI I w0 6 x1) w0 7 x2) w0 5) fun x3 => ((f_Ca_weekDayOf ((uI (uI (uI I w0 6 x1) w0 7 x2) w0 8 x3) w0 6) ((uI (uI (uI I w0 6 x1) w0 7 x2) w0 8 x3) w0 7) ((uI (uI (uI I w0 6 x1) w0 7 x2) w0 8 x3) w0 8)).bind fun q4 => (bnd ((uI (uI (uI (uI I w0 6 x1) w0 7 x2) w0 8 x3) w0 9 q4) w0 6) fun x6 => (bnd ((uI (uI (uI (uI (uI I w0 6 x1) w0 7 x2) w0 8 x3) w0 9 q4) w0 10 x6) w0 7) fun x7 => (bnd ((uI (uI (uI (uI (uI (uI I w0 6 x1) w0 7 x2) w0 8 x3) w0 9 q4) w0 10 x6) w0 11 x7) w0 8) fun x8 => (some ((uI (uI (uI (uI (uI (uI (uI (uI I w0 6 x1) w0 7 x2) w0 8 x3) w0 9 q4) w0 10 x6) w0 11 x7) w0 12 x8) w0 13 (0 : Int32)), L)))))))))
set_option maxRecDepth 100000 in
set_option maxHeartbeats 4000000 in
theorem c_Ca_restart {G : xG} {S : List xSh} {Rf : Nat → Nat → Option Nat} (hT : xTH S Rf) {w0 : Nat} (hw0 : S[w0]? = some (.inl 1)) {I : Nat → Nat → Int32} {L : Nat → Nat → Int64} {q : ((Nat → Nat → Int32) × (Nat → Nat → Int64))} (hf : f_Ca_restart w0 I L = some q) : CT G 3 m_Ca_restart [.ref (xP G w0)] (S, I, L, Rf) (none, (S, q.1, q.2, Rf)) := by
  refine CT.of (by decide +kernel) (Nat.le_of_ble_eq_true rfl) ?_
  show X G 3 m_Ca_restart 0 [(0, .ref (xP G w0))] [] (S, I, L, Rf) (none, (S, q.1, q.2, Rf))
  replace hf := (f_Ca_restart.eq_1 _ _ _).symm.trans hf
  refine X_aload_n (pc := 0) (i := 0) 0 dX1_restart_0 rfl rfl ?_
  refine X_aload_n (pc := 1) (i := 0) 0 dX1_restart_1 rfl rfl ?_
  refine X_get (pc := 2) (a := w0) (ci := 1) (j := 3) (.int (I w0 3)) hw0 (by decide) k_380 rfl dX1_restart_2 ?_
  obtain ⟨x1, ex1, hf⟩ := bnd_e hf
  refine X_tope ex1 ?_
  refine X_puti (pc := 5) (a := w0) (ci := 1) (j := 6) 6 rfl false hw0 (by decide) k_383 rfl (fun h => by cases h) rfl dX1_restart_5 ?_
  refine X_aload_n (pc := 8) (i := 0) 0 dX1_restart_8 rfl rfl ?_
  refine X_aload_n (pc := 9) (i := 0) 0 dX1_restart_9 rfl rfl ?_
  refine X_get (pc := 10) (a := w0) (ci := 1) (j := 4) (.int ((uI I w0 6 x1) w0 4)) hw0 (by decide) k_381 rfl dX1_restart_10 ?_
  obtain ⟨x2, ex2, hf⟩ := bnd_e hf
  refine X_tope ex2 ?_
  refine X_puti (pc := 13) (a := w0) (ci := 1) (j := 7) 7 rfl false hw0 (by decide) k_384 rfl (fun h => by cases h) rfl dX1_restart_13 ?_
  refine X_aload_n (pc := 16) (i := 0) 0 dX1_restart_16 rfl rfl ?_
  refine X_aload_n (pc := 17) (i := 0) 0 dX1_restart_17 rfl rfl ?_
  refine X_get (pc := 18) (a := w0) (ci := 1) (j := 5) (.int ((uI (uI I w0 6 x1) w0 7 x2) w0 5)) hw0 (by decide) k_382 rfl dX1_restart_18 ?_
  obtain ⟨x3, ex3, hf⟩ := bnd_e hf
  refine X_tope ex3 ?_
  refine X_puti (pc := 21) (a := w0) (ci := 1) (j := 8) 8 rfl false hw0 (by decide) k_385 rfl (fun h => by cases h) rfl dX1_restart_21 ?_
  refine X_aload_n (pc := 24) (i := 0) 0 dX1_restart_24 rfl rfl ?_
  refine X_aload_n (pc := 25) (i := 0) 0 dX1_restart_25 rfl rfl ?_
  refine X_get (pc := 26) (a := w0) (ci := 1) (j := 6) (.int ((uI (uI (uI I w0 6 x1) w0 7 x2) w0 8 x3) w0 6)) hw0 (by decide) k_383 rfl dX1_restart_26 ?_
  refine X_aload_n (pc := 29) (i := 0) 0 dX1_restart_29 rfl rfl ?_
  refine X_get (pc := 30) (a := w0) (ci := 1) (j := 7) (.int ((uI (uI (uI I w0 6 x1) w0 7 x2) w0 8 x3) w0 7)) hw0 (by decide) k_384 rfl dX1_restart_30 ?_
  refine X_aload_n (pc := 33) (i := 0) 0 dX1_restart_33 rfl rfl ?_
  refine X_get (pc := 34) (a := w0) (ci := 1) (j := 8) (.int ((uI (uI (uI I w0 6 x1) w0 7 x2) w0 8 x3) w0 8)) hw0 (by decide) k_385 rfl dX1_restart_34 ?_
  obtain ⟨q4, c5, hf⟩ := bd_some hf
  refine X_invS_i (pc := 37) (c_Ca_weekDayOf hT c5) ok_Ca_weekDayOf k_658 k_659 nd_16 (by decide) rfl (Nat.le_of_ble_eq_true rfl) dX1_restart_37 ?_
  refine X_puti (pc := 40) (a := w0) (ci := 1) (j := 9) 9 rfl false hw0 (by decide) k_386 rfl (fun h => by cases h) rfl dX1_restart_40 ?_
  refine X_aload_n (pc := 43) (i := 0) 0 dX1_restart_43 rfl rfl ?_
  refine X_aload_n (pc := 44) (i := 0) 0 dX1_restart_44 rfl rfl ?_
  refine X_get (pc := 45) (a := w0) (ci := 1) (j := 6) (.int ((uI (uI (uI (uI I w0 6 x1) w0 7 x2) w0 8 x3) w0 9 q4) w0 6)) hw0 (by decide) k_383 rfl dX1_restart_45 ?_
  obtain ⟨x6, ex6, hf⟩ := bnd_e hf
  refine X_tope ex6 ?_
  refine X_puti (pc := 48) (a := w0) (ci := 1) (j := 10) 10 rfl false hw0 (by decide) k_387 rfl (fun h => by cases h) rfl dX1_restart_48 ?_
  refine X_aload_n (pc := 51) (i := 0) 0 dX1_restart_51 rfl rfl ?_
  refine X_aload_n (pc := 52) (i := 0) 0 dX1_restart_52 rfl rfl ?_
  refine X_get (pc := 53) (a := w0) (ci := 1) (j := 7) (.int ((uI (uI (uI (uI (uI I w0 6 x1) w0 7 x2) w0 8 x3) w0 9 q4) w0 10 x6) w0 7)) hw0 (by decide) k_384 rfl dX1_restart_53 ?_
  obtain ⟨x7, ex7, hf⟩ := bnd_e hf
  refine X_tope ex7 ?_
  refine X_puti (pc := 56) (a := w0) (ci := 1) (j := 11) 11 rfl false hw0 (by decide) k_388 rfl (fun h => by cases h) rfl dX1_restart_56 ?_
  refine X_aload_n (pc := 59) (i := 0) 0 dX1_restart_59 rfl rfl ?_
  refine X_aload_n (pc := 60) (i := 0) 0 dX1_restart_60 rfl rfl ?_
  refine X_get (pc := 61) (a := w0) (ci := 1) (j := 8) (.int ((uI (uI (uI (uI (uI (uI I w0 6 x1) w0 7 x2) w0 8 x3) w0 9 q4) w0 10 x6) w0 11 x7) w0 8)) hw0 (by decide) k_385 rfl dX1_restart_61 ?_
  obtain ⟨x8, ex8, hf⟩ := bnd_e hf
  refine X_tope ex8 ?_
  refine X_puti (pc := 64) (a := w0) (ci := 1) (j := 12) 12 rfl false hw0 (by decide) k_389 rfl (fun h => by cases h) rfl dX1_restart_64 ?_
  refine X_aload_n (pc := 67) (i := 0) 0 dX1_restart_67 rfl rfl ?_
  refine X_iconst (pc := 68) (0 : Int32) dX1_restart_68 (by decide) ?_
  refine X_puti (pc := 69) (a := w0) (ci := 1) (j := 13) 13 rfl false hw0 (by decide) k_390 rfl (fun h => by cases h) rfl dX1_restart_69 ?_
  cases hf
  exact X_return (pc := 72) rfl dX1_restart_72
theorem u_Ca_restart {S : List xSh} {w0 : Nat} (hw0 : S[w0]? = some (.inl 1)) {I : Nat → Nat → Int32} {L : Nat → Nat → Int64} {q : ((Nat → Nat → Int32) × (Nat → Nat → Int64))} (hf : f_Ca_restart w0 I L = some q) : FR S [] [] I q.1 L q.2 := by
  replace hf := (f_Ca_restart.eq_1 _ _ _).symm.trans hf
  obtain ⟨x1, ex1, hf⟩ := bnd_e hf
  obtain ⟨x2, ex2, hf⟩ := bnd_e hf
  obtain ⟨x3, ex3, hf⟩ := bnd_e hf
  obtain ⟨q4, c5, hf⟩ := bd_some hf
  obtain ⟨x6, ex6, hf⟩ := bnd_e hf
  obtain ⟨x7, ex7, hf⟩ := bnd_e hf
  obtain ⟨x8, ex8, hf⟩ := bnd_e hf
  cases hf
  exact (FR.dy (FR.dy (FR.dy (FR.dy (FR.dy (FR.dy (FR.dy (FR.dy FR.rf hw0 (by decide)) hw0 (by decide)) hw0 (by decide)) hw0 (by decide)) hw0 (by decide)) hw0 (by decide)) hw0 (by decide)) hw0 (by decide))
def f_H_renew_C (a0 : Nat) (I : Nat → Nat → Int32) (L : Nat → Nat → Int64) : Option ((Nat → Nat → Int32) × (Nat → Nat → Int64)) := ((f_Ca_restart a0 (uI I a0 1 (0 : Int32)) L).bind fun q1 => (some (q1.1, q1.2)))
set_option maxRecDepth 100000 in
set_option maxHeartbeats 4000000 in
theorem c_H_renew_C {G : xG} {S : List xSh} {Rf : Nat → Nat → Option Nat} (hT : xTH S Rf) {a0 : Nat} (ha0 : S[a0]? = some (.inl 1)) {I : Nat → Nat → Int32} {L : Nat → Nat → Int64} {q : ((Nat → Nat → Int32) × (Nat → Nat → Int64))} (hf : f_H_renew_C a0 I L = some q) : CT G 4 m_H_renew [.ref (xP G a0)] (S, I, L, Rf) (none, (S, q.1, q.2, Rf)) := by
  refine CT.of (by decide +kernel) (Nat.le_of_ble_eq_true rfl) ?_
  show X G 4 m_H_renew 0 [(0, .ref (xP G a0))] [] (S, I, L, Rf) (none, (S, q.1, q.2, Rf))
  replace hf := (f_H_renew_C.eq_1 _ _ _).symm.trans hf
  refine X_aload_n (pc := 0) (i := 0) 0 dX11_renew_0 rfl rfl ?_
  refine X_iconst (pc := 1) (0 : Int32) dX11_renew_1 (by decide) ?_
  refine X_puti (pc := 2) (a := a0) (ci := 1) (j := 1) 1 rfl false ha0 (by decide) k_364 rfl (fun h => by cases h) rfl dX11_renew_2 ?_
  refine X_aload_n (pc := 5) (i := 0) 0 dX11_renew_5 rfl rfl ?_
  obtain ⟨q1, c2, hf⟩ := bd_some hf
  refine X_invU_v (pc := 6) (c_Ca_restart hT ha0 c2) ok_Ca_restart (ci := 1) ha0 k_652 k_654 k_653 (by decide +kernel) k_656 k_655 nd_1 (by decide) rfl (Nat.le_of_ble_eq_true rfl) dX11_renew_6 ?_
  cases hf
  exact X_return (pc := 9) rfl dX11_renew_9
theorem u_H_renew_C {S : List xSh} {a0 : Nat} (ha0 : S[a0]? = some (.inl 1)) {I : Nat → Nat → Int32} {L : Nat → Nat → Int64} {q : ((Nat → Nat → Int32) × (Nat → Nat → Int64))} (hf : f_H_renew_C a0 I L = some q) : FR S [] [] I q.1 L q.2 := by
  replace hf := (f_H_renew_C.eq_1 _ _ _).symm.trans hf
  obtain ⟨q1, c2, hf⟩ := bd_some hf
  cases hf
  exact (FR.tr (FR.dy FR.rf ha0 (by decide)) (u_Ca_restart ha0 (q := q1) c2) (by decide) (by decide))
def f_H_hang_C (S : List xSh) (Rf : Nat → Nat → Option Nat) (a0 : Nat) (a1 : Int32) (I : Nat → Nat → Int32) (L : Nat → Nat → Int64) : Option (Int32 × xH) := ((f_H_renew_C a0 (uI I a0 0 a1) L).bind fun q1 => (if (0 ≤ (q1.1 0 6) ∧ (q1.1 0 6) < (8 : Int32)) then (bnd ((q1.1 0 6) + (1 : Int32)) fun x4 => (some ((q1.1 0 6), S, (uI q1.1 0 6 x4), q1.2, (uR Rf 11 (Int32.toNatClampNeg (q1.1 0 6)) (some a0))))) else none))
set_option maxRecDepth 100000 in
set_option maxHeartbeats 4000000 in
theorem c_H_hang_C {G : xG} {S : List xSh} {Rf : Nat → Nat → Option Nat} (hT : xTH S Rf) {a0 : Nat} {a1 : Int32} (ha0 : S[a0]? = some (.inl 1)) {I : Nat → Nat → Int32} {L : Nat → Nat → Int64} {q : (Int32 × xH)} (hf : f_H_hang_C S Rf a0 a1 I L = some q) : CT G 5 m_H_hang [.ref (xP G 0), .ref (xP G a0), .int a1] (S, I, L, Rf) (some (.int q.1), q.2) := by
  refine CT.of (by decide +kernel) (Nat.le_of_ble_eq_true rfl) ?_
  show X G 5 m_H_hang 0 [(0, .ref (xP G 0)), (1, .ref (xP G a0)), (2, .int a1)] [] (S, I, L, Rf) (some (.int q.1), q.2)
  replace hf := (f_H_hang_C.eq_1 _ _ _ _ _ _).symm.trans hf
  refine X_aload_n (pc := 0) (i := 1) 1 dX11_hang_0 rfl rfl ?_
  refine X_iload_n (pc := 1) (i := 2) 2 dX11_hang_1 rfl rfl ?_
  refine X_puti (pc := 2) (a := a0) (ci := 1) (j := 0) 0 rfl false ha0 (by decide) k_363 rfl (fun h => by cases h) rfl dX11_hang_2 ?_
  refine X_aload_n (pc := 5) (i := 1) 1 dX11_hang_5 rfl rfl ?_
  obtain ⟨q1, c2, hf⟩ := bd_some hf
  refine X_invS_v (pc := 6) (c_H_renew_C hT ha0 c2) ok_H_renew k_649 k_650 nd_14 (by decide) rfl (Nat.le_of_ble_eq_true rfl) dX11_hang_6 ?_
  refine X_aload_n (pc := 9) (i := 0) 0 dX11_hang_9 rfl rfl ?_
  refine X_getr (pc := 10) (a := 0) (ci := 10) (j := 2) (c := 11) (sh_0 hT) (by decide) k_496 (rf_0_2 hT) (fun _ h => h) dX11_hang_10 ?_
  refine X_aload_n (pc := 13) (i := 0) 0 dX11_hang_13 rfl rfl ?_
  refine X_get (pc := 14) (a := 0) (ci := 10) (j := 9) (.int (q1.1 0 6)) (sh_0 hT) (by decide) k_503 rfl dX11_hang_14 ?_
  refine X_aload_n (pc := 17) (i := 1) 1 dX11_hang_17 rfl rfl ?_
  obtain ⟨c3, hf⟩ := gd_some hf
  refine X_aastW (pc := 18) (ci := 1) (sh_11 hT) ha0 k_1823 (vp_in_lit (N := 8) c3 (by decide)) dX11_hang_18 ?_
  refine X_aload_n (pc := 19) (i := 0) 0 dX11_hang_19 rfl rfl ?_
  refine X_dup (pc := 20) dX11_hang_20 rfl ?_
  refine X_get (pc := 21) (a := 0) (ci := 10) (j := 9) (.int (q1.1 0 6)) (sh_0 (KP.H (KP.u11 (j := (Int32.toNatClampNeg (q1.1 0 6))) (v := (some a0)) KP.rf) hT)) (by decide) k_503 rfl dX11_hang_21 ?_
  refine X_dup_x1 (pc := 24) dX11_hang_24 rfl rfl ?_
  refine X_iconst (pc := 25) (1 : Int32) dX11_hang_25 (by decide) ?_
  refine X_iadd (pc := 26) dX11_hang_26 ?_
  obtain ⟨x4, ex4, hf⟩ := bnd_e hf
  refine X_tope ex4 ?_
  refine X_puti (pc := 27) (a := 0) (ci := 10) (j := 9) 6 rfl false (sh_0 (KP.H (KP.u11 (j := (Int32.toNatClampNeg (q1.1 0 6))) (v := (some a0)) KP.rf) hT)) (by decide) k_503 rfl (fun h => by cases h) rfl dX11_hang_27 ?_
  cases hf
  exact X_ireturn (pc := 30) rfl dX11_hang_30
theorem u_H_hang_C {S : List xSh} {Rf : Nat → Nat → Option Nat} {a0 : Nat} {a1 : Int32} (ha0 : S[a0]? = some (.inl 1)) {I : Nat → Nat → Int32} {L : Nat → Nat → Int64} {q : (Int32 × xH)} (hf : f_H_hang_C S Rf a0 a1 I L = some q) : FR S [1006] [] I q.2.2.1 L q.2.2.2.1 := by
  replace hf := (f_H_hang_C.eq_1 _ _ _ _ _ _).symm.trans hf
  obtain ⟨q1, c2, hf⟩ := bd_some hf
  obtain ⟨c3, hf⟩ := gd_some hf
  obtain ⟨x4, ex4, hf⟩ := bnd_e hf
  cases hf
  exact (FR.fi (FR.tr (FR.dy FR.rf ha0 (by decide)) (u_H_renew_C ha0 (q := q1) c2) (by decide) (by decide)) (by decide))
theorem t_H_hang_C {S : List xSh} {Rf : Nat → Nat → Option Nat} {a0 : Nat} {a1 : Int32} {I : Nat → Nat → Int32} {L : Nat → Nat → Int64} {q : (Int32 × xH)} (hf : f_H_hang_C S Rf a0 a1 I L = some q) : KP S Rf q.2.1 q.2.2.2.2 := by
  replace hf := (f_H_hang_C.eq_1 _ _ _ _ _ _).symm.trans hf
  obtain ⟨q1, c2, hf⟩ := bd_some hf
  obtain ⟨c3, hf⟩ := gd_some hf
  obtain ⟨x4, ex4, hf⟩ := bnd_e hf
  cases hf
  exact (KP.u11 (j := (Int32.toNatClampNeg (q1.1 0 6))) (v := (some a0)) KP.rf)
theorem dX11_calendar_0 : decode cX11_calendar 0 = .ok (.aload_n 0, 1) := by decide +kernel
theorem dX11_calendar_1 : decode cX11_calendar 1 = .ok (.getfield 20, 3) := by decide +kernel
theorem dX11_calendar_4 : decode cX11_calendar 4 = .ok (.iload_n 1, 1) := by decide +kernel
theorem dX11_calendar_5 : decode cX11_calendar 5 = .ok (.invokevirtual 109, 3) := by decide +kernel
theorem dX11_calendar_8 : decode cX11_calendar 8 = .ok (.ifCond .eq 23, 3) := by decide +kernel
theorem dX11_calendar_11 : decode cX11_calendar 11 = .ok (.iload_n 2, 1) := by decide +kernel
theorem dX11_calendar_12 : decode cX11_calendar 12 = .ok (.iconst 0, 1) := by decide +kernel
theorem dX11_calendar_13 : decode cX11_calendar 13 = .ok (.iconst 3, 1) := by decide +kernel
theorem dX11_calendar_14 : decode cX11_calendar 14 = .ok (.invokestatic 113, 3) := by decide +kernel
theorem dX11_calendar_17 : decode cX11_calendar 17 = .ok (.ifCond .eq 14, 3) := by decide +kernel
theorem dX11_calendar_20 : decode cX11_calendar 20 = .ok (.iload_n 3, 1) := by decide +kernel
theorem dX11_calendar_21 : decode cX11_calendar 21 = .ok (.iload 4, 2) := by decide +kernel
theorem dX11_calendar_23 : decode cX11_calendar 23 = .ok (.iload 5, 2) := by decide +kernel
theorem dX11_calendar_25 : decode cX11_calendar 25 = .ok (.invokestatic 148, 3) := by decide +kernel
theorem dX11_calendar_28 : decode cX11_calendar 28 = .ok (.ifCond .ne 5, 3) := by decide +kernel
theorem dX11_calendar_31 : decode cX11_calendar 31 = .ok (.iconst (-1), 1) := by decide +kernel
theorem dX11_calendar_32 : decode cX11_calendar 32 = .ok (.ireturn, 1) := by decide +kernel
theorem dX11_calendar_33 : decode cX11_calendar 33 = .ok (.aload_n 0, 1) := by decide +kernel
theorem dX11_calendar_34 : decode cX11_calendar 34 = .ok (.getfield 99, 3) := by decide +kernel
theorem dX11_calendar_37 : decode cX11_calendar 37 = .ok (.ifCond .eq 6, 3) := by decide +kernel
theorem dX11_calendar_40 : decode cX11_calendar 40 = .ok (.bipush (-2), 2) := by decide +kernel
theorem dX11_calendar_42 : decode cX11_calendar 42 = .ok (.ireturn, 1) := by decide +kernel
theorem dX11_calendar_43 : decode cX11_calendar 43 = .ok (.aload_n 0, 1) := by decide +kernel
theorem dX11_calendar_44 : decode cX11_calendar 44 = .ok (.getfield 137, 3) := by decide +kernel
theorem dX11_calendar_47 : decode cX11_calendar 47 = .ok (.bipush 8, 2) := by decide +kernel
theorem dX11_calendar_49 : decode cX11_calendar 49 = .ok (.if_icmp .ge 15, 3) := by decide +kernel
theorem dX11_calendar_52 : decode cX11_calendar 52 = .ok (.aload_n 0, 1) := by decide +kernel
theorem dX11_calendar_53 : decode cX11_calendar 53 = .ok (.getfield 35, 3) := by decide +kernel
theorem dX11_calendar_56 : decode cX11_calendar 56 = .ok (.aload_n 0, 1) := by decide +kernel
theorem dX11_calendar_57 : decode cX11_calendar 57 = .ok (.getfield 137, 3) := by decide +kernel
theorem dX11_calendar_60 : decode cX11_calendar 60 = .ok (.aaload, 1) := by decide +kernel
theorem dX11_calendar_61 : decode cX11_calendar 61 = .ok (.goto 4, 3) := by decide +kernel
theorem dX11_calendar_64 : decode cX11_calendar 64 = .ok (.aconst_null, 1) := by decide +kernel
theorem dX11_calendar_65 : decode cX11_calendar 65 = .ok (.astore 6, 2) := by decide +kernel
theorem dX11_calendar_67 : decode cX11_calendar 67 = .ok (.aload 6, 2) := by decide +kernel
theorem dX11_calendar_69 : decode cX11_calendar 69 = .ok (.ifnonnull 6, 3) := by decide +kernel
theorem dX11_calendar_72 : decode cX11_calendar 72 = .ok (.bipush (-3), 2) := by decide +kernel
theorem dX11_calendar_74 : decode cX11_calendar 74 = .ok (.ireturn, 1) := by decide +kernel
theorem dX11_calendar_75 : decode cX11_calendar 75 = .ok (.aload 6, 2) := by decide +kernel
theorem dX11_calendar_77 : decode cX11_calendar 77 = .ok (.iload_n 2, 1) := by decide +kernel
theorem dX11_calendar_78 : decode cX11_calendar 78 = .ok (.iload_n 3, 1) := by decide +kernel
theorem dX11_calendar_79 : decode cX11_calendar 79 = .ok (.iload 4, 2) := by decide +kernel
theorem dX11_calendar_81 : decode cX11_calendar 81 = .ok (.iload 5, 2) := by decide +kernel
theorem dX11_calendar_83 : decode cX11_calendar 83 = .ok (.invokevirtual 151, 3) := by decide +kernel
theorem dX11_calendar_86 : decode cX11_calendar 86 = .ok (.aload_n 0, 1) := by decide +kernel
theorem dX11_calendar_87 : decode cX11_calendar 87 = .ok (.aload 6, 2) := by decide +kernel
theorem dX11_calendar_89 : decode cX11_calendar 89 = .ok (.iload_n 1, 1) := by decide +kernel
theorem dX11_calendar_90 : decode cX11_calendar 90 = .ok (.invokevirtual 144, 3) := by decide +kernel
theorem dX11_calendar_93 : decode cX11_calendar 93 = .ok (.ireturn, 1) := by decide +kernel
def f_H_calendar_L65 (l1 : Int32) (l2 : Int32) (l3 : Int32) (l4 : Int32) (l5 : Int32) (S : List xSh) (Rf : (Nat → Nat → Option Nat)) (I : (Nat → Nat → Int32)) (L : (Nat → Nat → Int64)) : Option (Int32 × xH) := (some ((-3 : Int32), S, I, L, Rf))
set_option maxRecDepth 100000 in
set_option maxHeartbeats 4000000 in
theorem x_H_calendar_L65 {G : xG} {S : List xSh} {Rf : Nat → Nat → Option Nat} (hT : xTH S Rf) {l1 : Int32} {l2 : Int32} {l3 : Int32} {l4 : Int32} {l5 : Int32} {I : Nat → Nat → Int32} {L : Nat → Nat → Int64} {q : (Int32 × xH)} (hf : f_H_calendar_L65 l1 l2 l3 l4 l5 S Rf I L = some q) : X G 6 m_H_calendar 65 [(0, .ref (xP G 0)), (1, .int l1), (2, .int l2), (3, .int l3), (4, .int l4), (5, .int l5)] [.null] (S, I, L, Rf) (some (.int q.1), q.2) := by
  replace hf := (f_H_calendar_L65.eq_1 _ _ _ _ _ _ _ _ _).symm.trans hf
  refine X_astoreN (pc := 65) [(6, .null), (0, .ref (xP G 0)), (1, .int l1), (2, .int l2), (3, .int l3), (4, .int l4), (5, .int l5)] dX11_calendar_65 (by decide) rfl ?_
  refine X_aloadN (pc := 67) (i := 6) 0 dX11_calendar_67 rfl ?_
  refine X_ifnonnull_f (pc := 69) dX11_calendar_69 ?_
  refine X_bipush (pc := 72) (-3 : Int32) dX11_calendar_72 (by decide) ?_
  cases hf
  exact X_ireturn (pc := 74) rfl dX11_calendar_74
theorem u_H_calendar_L65 {S : List xSh} {Rf : Nat → Nat → Option Nat} {l1 : Int32} {l2 : Int32} {l3 : Int32} {l4 : Int32} {l5 : Int32} {I : Nat → Nat → Int32} {L : Nat → Nat → Int64} {q : (Int32 × xH)} (hf : f_H_calendar_L65 l1 l2 l3 l4 l5 S Rf I L = some q) : FR S [1006] [] I q.2.2.1 L q.2.2.2.1 := by
  replace hf := (f_H_calendar_L65.eq_1 _ _ _ _ _ _ _ _ _).symm.trans hf
  cases hf
  exact FR.rf
theorem t_H_calendar_L65 {S : List xSh} {Rf : Nat → Nat → Option Nat} {l1 : Int32} {l2 : Int32} {l3 : Int32} {l4 : Int32} {l5 : Int32} {I : Nat → Nat → Int32} {L : Nat → Nat → Int64} {q : (Int32 × xH)} (hf : f_H_calendar_L65 l1 l2 l3 l4 l5 S Rf I L = some q) : KP S Rf q.2.1 q.2.2.2.2 := by
  replace hf := (f_H_calendar_L65.eq_1 _ _ _ _ _ _ _ _ _).symm.trans hf
  cases hf
  exact KP.rf
def f_H_calendar_L65_2 (l1 : Int32) (l2 : Int32) (l3 : Int32) (l4 : Int32) (l5 : Int32) (s0 : Nat) (S : List xSh) (Rf : (Nat → Nat → Option Nat)) (I : (Nat → Nat → Int32)) (L : (Nat → Nat → Int64)) : Option (Int32 × xH) := ((f_Ca_begin s0 l2 l3 l4 l5 I L).bind fun q11 => ((f_H_hang_C S Rf s0 l1 q11.1 q11.2).bind fun q13 => (some (q13.1, q13.2.1, q13.2.2.1, q13.2.2.2.1, q13.2.2.2.2))))
set_option maxRecDepth 100000 in
set_option maxHeartbeats 4000000 in
theorem x_H_calendar_L65_2 {G : xG} {S : List xSh} {Rf : Nat → Nat → Option Nat} (hT : xTH S Rf) {l1 : Int32} {l2 : Int32} {l3 : Int32} {l4 : Int32} {l5 : Int32} {s0 : Nat} {I : Nat → Nat → Int32} {L : Nat → Nat → Int64} {q : (Int32 × xH)} (hs0 : S[s0]? = some (.inl 1)) (hf : f_H_calendar_L65_2 l1 l2 l3 l4 l5 s0 S Rf I L = some q) : X G 6 m_H_calendar 65 [(0, .ref (xP G 0)), (1, .int l1), (2, .int l2), (3, .int l3), (4, .int l4), (5, .int l5)] [.ref (xP G s0)] (S, I, L, Rf) (some (.int q.1), q.2) := by
  replace hf := (f_H_calendar_L65_2.eq_1 _ _ _ _ _ _ _ _ _ _).symm.trans hf
  refine X_astore (pc := 65) [(6, .ref (xP G s0)), (0, .ref (xP G 0)), (1, .int l1), (2, .int l2), (3, .int l3), (4, .int l4), (5, .int l5)] dX11_calendar_65 (by decide) rfl ?_
  refine X_aload (pc := 67) 0 dX11_calendar_67 rfl ?_
  refine X_ifnonnull_t (pc := 69) 75 dX11_calendar_69 (by decide) ?_
  refine X_aload (pc := 75) 0 dX11_calendar_75 rfl ?_
  refine X_iload_n (pc := 77) (i := 2) 3 dX11_calendar_77 rfl rfl ?_
  refine X_iload_n (pc := 78) (i := 3) 4 dX11_calendar_78 rfl rfl ?_
  refine X_iload (pc := 79) 5 dX11_calendar_79 rfl ?_
  refine X_iload (pc := 81) 6 dX11_calendar_81 rfl ?_
  obtain ⟨q11, c12, hf⟩ := bd_some hf
  refine X_invV_v (pc := 83) (c_Ca_begin hT hs0 c12) ok_Ca_begin (ci := 1) hs0 k_678 k_679 k_680 nd_2 (by decide) rfl (Nat.le_of_ble_eq_true rfl) dX11_calendar_83 ?_
  refine X_aload_n (pc := 86) (i := 0) 1 dX11_calendar_86 rfl rfl ?_
  refine X_aload (pc := 87) 0 dX11_calendar_87 rfl ?_
  refine X_iload_n (pc := 89) (i := 1) 2 dX11_calendar_89 rfl rfl ?_
  obtain ⟨q13, c14, hf⟩ := bd_some hf
  refine X_invV_i (pc := 90) (c_H_hang_C hT hs0 c14) ok_H_hang (ci := 10) (sh_0 hT) k_645 k_647 k_9 nd_15 (by decide) rfl (Nat.le_of_ble_eq_true rfl) dX11_calendar_90 ?_
  cases hf
  exact X_ireturn (pc := 93) rfl dX11_calendar_93
theorem u_H_calendar_L65_2 {S : List xSh} {Rf : Nat → Nat → Option Nat} {l1 : Int32} {l2 : Int32} {l3 : Int32} {l4 : Int32} {l5 : Int32} {s0 : Nat} {I : Nat → Nat → Int32} {L : Nat → Nat → Int64} {q : (Int32 × xH)} (hs0 : S[s0]? = some (.inl 1)) (hf : f_H_calendar_L65_2 l1 l2 l3 l4 l5 s0 S Rf I L = some q) : FR S [1006] [] I q.2.2.1 L q.2.2.2.1 := by
  replace hf := (f_H_calendar_L65_2.eq_1 _ _ _ _ _ _ _ _ _ _).symm.trans hf
  obtain ⟨q11, c12, hf⟩ := bd_some hf
  obtain ⟨q13, c14, hf⟩ := bd_some hf
  cases hf
  exact (FR.tr (FR.tr FR.rf (u_Ca_begin hs0 (q := q11) c12) (by decide) (by decide)) (u_H_hang_C hs0 (q := q13) c14) (by decide) (by decide))
theorem t_H_calendar_L65_2 {S : List xSh} {Rf : Nat → Nat → Option Nat} {l1 : Int32} {l2 : Int32} {l3 : Int32} {l4 : Int32} {l5 : Int32} {s0 : Nat} {I : Nat → Nat → Int32} {L : Nat → Nat → Int64} {q : (Int32 × xH)} (hf : f_H_calendar_L65_2 l1 l2 l3 l4 l5 s0 S Rf I L = some q) : KP S Rf q.2.1 q.2.2.2.2 := by
  replace hf := (f_H_calendar_L65_2.eq_1 _ _ _ _ _ _ _ _ _ _).symm.trans hf
  obtain ⟨q11, c12, hf⟩ := bd_some hf
  obtain ⟨q13, c14, hf⟩ := bd_some hf
  cases hf
  exact (KP.tr KP.rf (t_H_hang_C (q := q13) c14))
def f_H_calendar (S : List xSh) (Rf : Nat → Nat → Option Nat) (a0 : Int32) (a1 : Int32) (a2 : Int32) (a3 : Int32) (a4 : Int32) (I : Nat → Nat → Int32) (L : Nat → Nat → Int64) : Option (Int32 × xH) := (if (f_Ge_hasArbor a0 I L) = (0 : Int32) then (some ((-1 : Int32), S, I, L, Rf)) else (bnd (f_H_isWithin a1 (0 : Int32) (3 : Int32)) fun x2 => (if x2 = (0 : Int32) then (some ((-1 : Int32), S, I, L, Rf)) else (if (f_Ca_isDay a2 a3 a4) = (0 : Int32) then (some ((-1 : Int32), S, I, L, Rf)) else (if (I 0 8) = (0 : Int32) then (if (8 : Int32) ≤ (I 0 6) then (f_H_calendar_L65 a0 a1 a2 a3 a4 S Rf I L) else (if (0 ≤ (I 0 6) ∧ (I 0 6) < (8 : Int32)) then (oc (Rf 76 ((I 0 6).toNatClampNeg)) (f_H_calendar_L65 a0 a1 a2 a3 a4 S Rf I L) fun w8 => (if S[w8]? = some (.inl 1) then (f_H_calendar_L65_2 a0 a1 a2 a3 a4 w8 S Rf I L) else none)) else none)) else (some ((-2 : Int32), S, I, L, Rf)))))))
set_option maxRecDepth 100000 in
set_option maxHeartbeats 4000000 in
theorem c_H_calendar {G : xG} {S : List xSh} {Rf : Nat → Nat → Option Nat} (hT : xTH S Rf) {a0 : Int32} {a1 : Int32} {a2 : Int32} {a3 : Int32} {a4 : Int32} {I : Nat → Nat → Int32} {L : Nat → Nat → Int64} {q : (Int32 × xH)} (hf : f_H_calendar S Rf a0 a1 a2 a3 a4 I L = some q) : CT G 6 m_H_calendar [.ref (xP G 0), .int a0, .int a1, .int a2, .int a3, .int a4] (S, I, L, Rf) (some (.int q.1), q.2) := by
  refine CT.of (by decide +kernel) (Nat.le_of_ble_eq_true rfl) ?_
  show X G 6 m_H_calendar 0 [(0, .ref (xP G 0)), (1, .int a0), (2, .int a1), (3, .int a2), (4, .int a3), (5, .int a4)] [] (S, I, L, Rf) (some (.int q.1), q.2)
  replace hf := (f_H_calendar.eq_1 _ _ _ _ _ _ _ _ _).symm.trans hf
  refine X_aload_n (pc := 0) (i := 0) 0 dX11_calendar_0 rfl rfl ?_
  refine X_getr (pc := 1) (a := 0) (ci := 10) (j := 1) (c := 2) (sh_0 hT) (by decide) k_495 (rf_0_1 hT) (fun _ h => h) dX11_calendar_1 ?_
  refine X_iload_n (pc := 4) (i := 1) 1 dX11_calendar_4 rfl rfl ?_
  refine X_invV_i (pc := 5) (c_Ge_hasArbor hT rfl) ok_Ge_hasArbor (ci := 6) (sh_2 hT) k_559 k_560 k_561 nd_5 (by decide) rfl (Nat.le_of_ble_eq_true rfl) dX11_calendar_5 ?_
  by_cases c1 : (f_Ge_hasArbor a0 I L) = (0 : Int32)
  · replace hf := (if_pos c1).symm.trans hf
    refine X_if_eq_t (pc := 8) 31 dX11_calendar_8 (by decide) c1 ?_
    refine X_iconst (pc := 31) (-1 : Int32) dX11_calendar_31 (by decide) ?_
    cases hf
    exact X_ireturn (pc := 32) rfl dX11_calendar_32
  · replace hf := (if_neg c1).symm.trans hf
    refine X_if_eq_f (pc := 8) 31 dX11_calendar_8 (by decide) c1 ?_
    refine X_iload_n (pc := 11) (i := 2) 2 dX11_calendar_11 rfl rfl ?_
    refine X_iconst (pc := 12) (0 : Int32) dX11_calendar_12 (by decide) ?_
    refine X_iconst (pc := 13) (3 : Int32) dX11_calendar_13 (by decide) ?_
    refine X_invS_i (pc := 14) (c_H_isWithin hT rfl) ok_H_isWithin k_563 k_564 nd_6 (by decide) rfl (Nat.le_of_ble_eq_true rfl) dX11_calendar_14 ?_
    obtain ⟨x2, ex2, hf⟩ := bnd_e hf
    refine X_tope ex2 ?_
    by_cases c3 : x2 = (0 : Int32)
    · replace hf := (if_pos c3).symm.trans hf
      refine X_if_eq_t (pc := 17) 31 dX11_calendar_17 (by decide) c3 ?_
      refine X_iconst (pc := 31) (-1 : Int32) dX11_calendar_31 (by decide) ?_
      cases hf
      exact X_ireturn (pc := 32) rfl dX11_calendar_32
    · replace hf := (if_neg c3).symm.trans hf
      refine X_if_eq_f (pc := 17) 31 dX11_calendar_17 (by decide) c3 ?_
      refine X_iload_n (pc := 20) (i := 3) 3 dX11_calendar_20 rfl rfl ?_
      refine X_iload (pc := 21) 4 dX11_calendar_21 rfl ?_
      refine X_iload (pc := 23) 5 dX11_calendar_23 rfl ?_
      refine X_invS_i (pc := 25) (c_Ca_isDay hT rfl) ok_Ca_isDay k_674 k_675 nd_6 (by decide) rfl (Nat.le_of_ble_eq_true rfl) dX11_calendar_25 ?_
      by_cases c4 : (f_Ca_isDay a2 a3 a4) = (0 : Int32)
      · replace hf := (if_pos c4).symm.trans hf
        refine X_if_ne_f (pc := 28) 33 dX11_calendar_28 (by decide) c4 ?_
        refine X_iconst (pc := 31) (-1 : Int32) dX11_calendar_31 (by decide) ?_
        cases hf
        exact X_ireturn (pc := 32) rfl dX11_calendar_32
      · replace hf := (if_neg c4).symm.trans hf
        refine X_if_ne_t (pc := 28) 33 dX11_calendar_28 (by decide) c4 ?_
        refine X_aload_n (pc := 33) (i := 0) 0 dX11_calendar_33 rfl rfl ?_
        refine X_get (pc := 34) (a := 0) (ci := 10) (j := 11) (.int (I 0 8)) (sh_0 hT) (by decide) k_505 rfl dX11_calendar_34 ?_
        by_cases c5 : (I 0 8) = (0 : Int32)
        · replace hf := (if_pos c5).symm.trans hf
          refine X_if_eq_t (pc := 37) 43 dX11_calendar_37 (by decide) c5 ?_
          refine X_aload_n (pc := 43) (i := 0) 0 dX11_calendar_43 rfl rfl ?_
          refine X_get (pc := 44) (a := 0) (ci := 10) (j := 9) (.int (I 0 6)) (sh_0 hT) (by decide) k_503 rfl dX11_calendar_44 ?_
          refine X_bipush (pc := 47) (8 : Int32) dX11_calendar_47 (by decide) ?_
          by_cases c6 : (8 : Int32) ≤ (I 0 6)
          · replace hf := (if_pos c6).symm.trans hf
            refine X_icmp_ge_t (pc := 49) 64 dX11_calendar_49 (by decide) c6 ?_
            refine X_null (pc := 64) dX11_calendar_64 ?_
            exact X_lvs [0, 1, 2, 3, 4, 5] rfl (x_H_calendar_L65 hT hf)
          · replace hf := (if_neg c6).symm.trans hf
            refine X_icmp_ge_f (pc := 49) 64 dX11_calendar_49 (by decide) c6 ?_
            refine X_aload_n (pc := 52) (i := 0) 0 dX11_calendar_52 rfl rfl ?_
            refine X_getr (pc := 53) (a := 0) (ci := 10) (j := 4) (c := 76) (sh_0 hT) (by decide) k_498 (rf_0_14 hT) (fun _ h => h) dX11_calendar_53 ?_
            refine X_aload_n (pc := 56) (i := 0) 0 dX11_calendar_56 rfl rfl ?_
            refine X_get (pc := 57) (a := 0) (ci := 10) (j := 9) (.int (I 0 6)) (sh_0 hT) (by decide) k_503 rfl dX11_calendar_57 ?_
            obtain ⟨c7, hf⟩ := gd_some hf
            rcases oc_cases hf with ⟨hr9, hf⟩ | ⟨w8, hr9, hf⟩
            · refine X_aaldN (pc := 60) (by decide) (sh_76 hT) (vp_in_lit (N := 8) c7 (by decide)) hr9 dX11_calendar_60 ?_
              refine X_goto (pc := 61) 65 dX11_calendar_61 (by decide) ?_
              exact X_lvs [0, 1, 2, 3, 4, 5] rfl (x_H_calendar_L65 hT hf)
            · obtain ⟨hs10, hf⟩ := gd_some hf
              refine X_aaldS (pc := 60) (by decide) (sh_76 hT) (vp_in_lit (N := 8) c7 (by decide)) hr9 dX11_calendar_60 ?_
              refine X_goto (pc := 61) 65 dX11_calendar_61 (by decide) ?_
              exact X_lvs [0, 1, 2, 3, 4, 5] rfl (x_H_calendar_L65_2 hT hs10 hf)
        · replace hf := (if_neg c5).symm.trans hf
          refine X_if_eq_f (pc := 37) 43 dX11_calendar_37 (by decide) c5 ?_
          refine X_bipush (pc := 40) (-2 : Int32) dX11_calendar_40 (by decide) ?_
          cases hf
          exact X_ireturn (pc := 42) rfl dX11_calendar_42
theorem u_H_calendar {S : List xSh} {Rf : Nat → Nat → Option Nat} {a0 : Int32} {a1 : Int32} {a2 : Int32} {a3 : Int32} {a4 : Int32} {I : Nat → Nat → Int32} {L : Nat → Nat → Int64} {q : (Int32 × xH)} (hf : f_H_calendar S Rf a0 a1 a2 a3 a4 I L = some q) : FR S [1006] [] I q.2.2.1 L q.2.2.2.1 := by
  replace hf := (f_H_calendar.eq_1 _ _ _ _ _ _ _ _ _).symm.trans hf
  by_cases c1 : (f_Ge_hasArbor a0 I L) = (0 : Int32)
  · replace hf := (if_pos c1).symm.trans hf
    cases hf
    exact FR.rf
  · replace hf := (if_neg c1).symm.trans hf
    obtain ⟨x2, ex2, hf⟩ := bnd_e hf
    by_cases c3 : x2 = (0 : Int32)
    · replace hf := (if_pos c3).symm.trans hf
      cases hf
      exact FR.rf
    · replace hf := (if_neg c3).symm.trans hf
      by_cases c4 : (f_Ca_isDay a2 a3 a4) = (0 : Int32)
      · replace hf := (if_pos c4).symm.trans hf
        cases hf
        exact FR.rf
      · replace hf := (if_neg c4).symm.trans hf
        by_cases c5 : (I 0 8) = (0 : Int32)
        · replace hf := (if_pos c5).symm.trans hf
          by_cases c6 : (8 : Int32) ≤ (I 0 6)
          · replace hf := (if_pos c6).symm.trans hf
            exact FR.tr FR.rf (u_H_calendar_L65 hf) (by decide) (by decide)
          · replace hf := (if_neg c6).symm.trans hf
            obtain ⟨c7, hf⟩ := gd_some hf
            rcases oc_cases hf with ⟨hr9, hf⟩ | ⟨w8, hr9, hf⟩
            · exact FR.tr FR.rf (u_H_calendar_L65 hf) (by decide) (by decide)
            · obtain ⟨hs10, hf⟩ := gd_some hf
              exact FR.tr FR.rf (u_H_calendar_L65_2 hs10 hf) (by decide) (by decide)
        · replace hf := (if_neg c5).symm.trans hf
          cases hf
          exact FR.rf
theorem t_H_calendar {S : List xSh} {Rf : Nat → Nat → Option Nat} {a0 : Int32} {a1 : Int32} {a2 : Int32} {a3 : Int32} {a4 : Int32} {I : Nat → Nat → Int32} {L : Nat → Nat → Int64} {q : (Int32 × xH)} (hf : f_H_calendar S Rf a0 a1 a2 a3 a4 I L = some q) : KP S Rf q.2.1 q.2.2.2.2 := by
  replace hf := (f_H_calendar.eq_1 _ _ _ _ _ _ _ _ _).symm.trans hf
  by_cases c1 : (f_Ge_hasArbor a0 I L) = (0 : Int32)
  · replace hf := (if_pos c1).symm.trans hf
    cases hf
    exact KP.rf
  · replace hf := (if_neg c1).symm.trans hf
    obtain ⟨x2, ex2, hf⟩ := bnd_e hf
    by_cases c3 : x2 = (0 : Int32)
    · replace hf := (if_pos c3).symm.trans hf
      cases hf
      exact KP.rf
    · replace hf := (if_neg c3).symm.trans hf
      by_cases c4 : (f_Ca_isDay a2 a3 a4) = (0 : Int32)
      · replace hf := (if_pos c4).symm.trans hf
        cases hf
        exact KP.rf
      · replace hf := (if_neg c4).symm.trans hf
        by_cases c5 : (I 0 8) = (0 : Int32)
        · replace hf := (if_pos c5).symm.trans hf
          by_cases c6 : (8 : Int32) ≤ (I 0 6)
          · replace hf := (if_pos c6).symm.trans hf
            exact KP.tr KP.rf (t_H_calendar_L65 hf)
          · replace hf := (if_neg c6).symm.trans hf
            obtain ⟨c7, hf⟩ := gd_some hf
            rcases oc_cases hf with ⟨hr9, hf⟩ | ⟨w8, hr9, hf⟩
            · exact KP.tr KP.rf (t_H_calendar_L65 hf)
            · obtain ⟨hs10, hf⟩ := gd_some hf
              exact KP.tr KP.rf (t_H_calendar_L65_2 hf)
        · replace hf := (if_neg c5).symm.trans hf
          cases hf
          exact KP.rf

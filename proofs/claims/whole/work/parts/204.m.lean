theorem dX8_begin_0 : decode cX8_begin 0 = .ok (.aload_n 0, 1) := by decide +kernel
theorem dX8_begin_1 : decode cX8_begin 1 = .ok (.iload_n 1, 1) := by decide +kernel
theorem dX8_begin_2 : decode cX8_begin 2 = .ok (.putfield 9, 3) := by decide +kernel
theorem dX8_begin_5 : decode cX8_begin 5 = .ok (.return_, 1) := by decide +kernel
def f_St_begin (w0 : Nat) (a0 : Int32) (I : Nat → Nat → Int32) (L : Nat → Nat → Int64) : Option ((Nat → Nat → Int32) × (Nat → Nat → Int64)) := (some ((uI I w0 2 a0), L))
set_option maxRecDepth 100000 in
set_option maxHeartbeats 4000000 in
theorem c_St_begin {G : xG} {S : List xSh} {Rf : Nat → Nat → Option Nat} (hT : xTH S Rf) {w0 : Nat} {a0 : Int32} (hw0 : S[w0]? = some (.inl 8)) {I : Nat → Nat → Int32} {L : Nat → Nat → Int64} {q : ((Nat → Nat → Int32) × (Nat → Nat → Int64))} (hf : f_St_begin w0 a0 I L = some q) : CT G 1 m_St_begin [.ref (xP G w0), .int a0] (S, I, L, Rf) (none, (S, q.1, q.2, Rf)) := by
  refine CT.of (by decide +kernel) (Nat.le_of_ble_eq_true rfl) ?_
  show X G 1 m_St_begin 0 [(0, .ref (xP G w0)), (1, .int a0)] [] (S, I, L, Rf) (none, (S, q.1, q.2, Rf))
  replace hf := (f_St_begin.eq_1 _ _ _ _).symm.trans hf
  refine X_aload_n (pc := 0) (i := 0) 0 dX8_begin_0 rfl rfl ?_
  refine X_iload_n (pc := 1) (i := 1) 1 dX8_begin_1 rfl rfl ?_
  refine X_puti (pc := 2) (a := w0) (ci := 8) (j := 2) 2 rfl false hw0 (by decide) k_423 rfl (fun h => by cases h) rfl dX8_begin_2 ?_
  cases hf
  exact X_return (pc := 5) rfl dX8_begin_5
theorem u_St_begin {S : List xSh} {w0 : Nat} {a0 : Int32} (hw0 : S[w0]? = some (.inl 8)) {I : Nat → Nat → Int32} {L : Nat → Nat → Int64} {q : ((Nat → Nat → Int32) × (Nat → Nat → Int64))} (hf : f_St_begin w0 a0 I L = some q) : FR S [] [] I q.1 L q.2 := by
  replace hf := (f_St_begin.eq_1 _ _ _ _).symm.trans hf
  cases hf
  exact (FR.dy FR.rf hw0 (by decide))
theorem dX8_restart_0 : decode cX8_restart 0 = .ok (.aload_n 0, 1) := by decide +kernel
theorem dX8_restart_1 : decode cX8_restart 1 = .ok (.bipush 12, 2) := by decide +kernel
theorem dX8_restart_3 : decode cX8_restart 3 = .ok (.putfield 18, 3) := by decide +kernel
theorem dX8_restart_6 : decode cX8_restart 6 = .ok (.aload_n 0, 1) := by decide +kernel
theorem dX8_restart_7 : decode cX8_restart 7 = .ok (.iconst 1, 1) := by decide +kernel
theorem dX8_restart_8 : decode cX8_restart 8 = .ok (.putfield 21, 3) := by decide +kernel
theorem dX8_restart_11 : decode cX8_restart 11 = .ok (.aload_n 0, 1) := by decide +kernel
theorem dX8_restart_12 : decode cX8_restart 12 = .ok (.iconst 0, 1) := by decide +kernel
theorem dX8_restart_13 : decode cX8_restart 13 = .ok (.putfield 15, 3) := by decide +kernel
theorem dX8_restart_16 : decode cX8_restart 16 = .ok (.return_, 1) := by decide +kernel
def f_St_restart (w0 : Nat) (I : Nat → Nat → Int32) (L : Nat → Nat → Int64) : Option ((Nat → Nat → Int32) × (Nat → Nat → Int64)) := (some ((uI (uI (uI I w0 5 (12 : Int32)) w0 6 (1 : Int32)) w0 7 (0 : Int32)), L))
set_option maxRecDepth 100000 in
set_option maxHeartbeats 4000000 in
theorem c_St_restart {G : xG} {S : List xSh} {Rf : Nat → Nat → Option Nat} (hT : xTH S Rf) {w0 : Nat} (hw0 : S[w0]? = some (.inl 8)) {I : Nat → Nat → Int32} {L : Nat → Nat → Int64} {q : ((Nat → Nat → Int32) × (Nat → Nat → Int64))} (hf : f_St_restart w0 I L = some q) : CT G 1 m_St_restart [.ref (xP G w0)] (S, I, L, Rf) (none, (S, q.1, q.2, Rf)) := by
  refine CT.of (by decide +kernel) (Nat.le_of_ble_eq_true rfl) ?_
  show X G 1 m_St_restart 0 [(0, .ref (xP G w0))] [] (S, I, L, Rf) (none, (S, q.1, q.2, Rf))
  replace hf := (f_St_restart.eq_1 _ _ _).symm.trans hf
  refine X_aload_n (pc := 0) (i := 0) 0 dX8_restart_0 rfl rfl ?_
  refine X_bipush (pc := 1) (12 : Int32) dX8_restart_1 (by decide) ?_
  refine X_puti (pc := 3) (a := w0) (ci := 8) (j := 3) 5 rfl false hw0 (by decide) k_424 rfl (fun h => by cases h) rfl dX8_restart_3 ?_
  refine X_aload_n (pc := 6) (i := 0) 0 dX8_restart_6 rfl rfl ?_
  refine X_iconst (pc := 7) (1 : Int32) dX8_restart_7 (by decide) ?_
  refine X_puti (pc := 8) (a := w0) (ci := 8) (j := 4) 6 rfl false hw0 (by decide) k_425 rfl (fun h => by cases h) rfl dX8_restart_8 ?_
  refine X_aload_n (pc := 11) (i := 0) 0 dX8_restart_11 rfl rfl ?_
  refine X_iconst (pc := 12) (0 : Int32) dX8_restart_12 (by decide) ?_
  refine X_puti (pc := 13) (a := w0) (ci := 8) (j := 5) 7 rfl false hw0 (by decide) k_426 rfl (fun h => by cases h) rfl dX8_restart_13 ?_
  cases hf
  exact X_return (pc := 16) rfl dX8_restart_16
theorem u_St_restart {S : List xSh} {w0 : Nat} (hw0 : S[w0]? = some (.inl 8)) {I : Nat → Nat → Int32} {L : Nat → Nat → Int64} {q : ((Nat → Nat → Int32) × (Nat → Nat → Int64))} (hf : f_St_restart w0 I L = some q) : FR S [] [] I q.1 L q.2 := by
  replace hf := (f_St_restart.eq_1 _ _ _).symm.trans hf
  cases hf
  exact (FR.dy (FR.dy (FR.dy FR.rf hw0 (by decide)) hw0 (by decide)) hw0 (by decide))
def f_H_renew_S (a0 : Nat) (I : Nat → Nat → Int32) (L : Nat → Nat → Int64) : Option ((Nat → Nat → Int32) × (Nat → Nat → Int64)) := ((f_St_restart a0 (uI I a0 1 (0 : Int32)) L).bind fun q1 => (some (q1.1, q1.2)))
set_option maxRecDepth 100000 in
set_option maxHeartbeats 4000000 in
theorem c_H_renew_S {G : xG} {S : List xSh} {Rf : Nat → Nat → Option Nat} (hT : xTH S Rf) {a0 : Nat} (ha0 : S[a0]? = some (.inl 8)) {I : Nat → Nat → Int32} {L : Nat → Nat → Int64} {q : ((Nat → Nat → Int32) × (Nat → Nat → Int64))} (hf : f_H_renew_S a0 I L = some q) : CT G 2 m_H_renew [.ref (xP G a0)] (S, I, L, Rf) (none, (S, q.1, q.2, Rf)) := by
  refine CT.of (by decide +kernel) (Nat.le_of_ble_eq_true rfl) ?_
  show X G 2 m_H_renew 0 [(0, .ref (xP G a0))] [] (S, I, L, Rf) (none, (S, q.1, q.2, Rf))
  replace hf := (f_H_renew_S.eq_1 _ _ _).symm.trans hf
  refine X_aload_n (pc := 0) (i := 0) 0 dX11_renew_0 rfl rfl ?_
  refine X_iconst (pc := 1) (0 : Int32) dX11_renew_1 (by decide) ?_
  refine X_puti (pc := 2) (a := a0) (ci := 8) (j := 1) 1 rfl false ha0 (by decide) k_364 rfl (fun h => by cases h) rfl dX11_renew_2 ?_
  refine X_aload_n (pc := 5) (i := 0) 0 dX11_renew_5 rfl rfl ?_
  obtain ⟨q1, c2, hf⟩ := bd_some hf
  refine X_invU_v (pc := 6) (c_St_restart hT ha0 c2) ok_St_restart (ci := 8) ha0 k_652 k_654 k_653 (by decide +kernel) k_668 k_667 nd_1 (by decide) rfl (Nat.le_of_ble_eq_true rfl) dX11_renew_6 ?_
  cases hf
  exact X_return (pc := 9) rfl dX11_renew_9
theorem u_H_renew_S {S : List xSh} {a0 : Nat} (ha0 : S[a0]? = some (.inl 8)) {I : Nat → Nat → Int32} {L : Nat → Nat → Int64} {q : ((Nat → Nat → Int32) × (Nat → Nat → Int64))} (hf : f_H_renew_S a0 I L = some q) : FR S [] [] I q.1 L q.2 := by
  replace hf := (f_H_renew_S.eq_1 _ _ _).symm.trans hf
  obtain ⟨q1, c2, hf⟩ := bd_some hf
  cases hf
  exact (FR.tr (FR.dy FR.rf ha0 (by decide)) (u_St_restart ha0 (q := q1) c2) (by decide) (by decide))
def f_H_hang_S (S : List xSh) (Rf : Nat → Nat → Option Nat) (a0 : Nat) (a1 : Int32) (I : Nat → Nat → Int32) (L : Nat → Nat → Int64) : Option (Int32 × xH) := ((f_H_renew_S a0 (uI I a0 0 a1) L).bind fun q1 => (if (0 ≤ (q1.1 0 6) ∧ (q1.1 0 6) < (8 : Int32)) then (bnd ((q1.1 0 6) + (1 : Int32)) fun x4 => (some ((q1.1 0 6), S, (uI q1.1 0 6 x4), q1.2, (uR Rf 11 (Int32.toNatClampNeg (q1.1 0 6)) (some a0))))) else none))
set_option maxRecDepth 100000 in
set_option maxHeartbeats 4000000 in
theorem c_H_hang_S {G : xG} {S : List xSh} {Rf : Nat → Nat → Option Nat} (hT : xTH S Rf) {a0 : Nat} {a1 : Int32} (ha0 : S[a0]? = some (.inl 8)) {I : Nat → Nat → Int32} {L : Nat → Nat → Int64} {q : (Int32 × xH)} (hf : f_H_hang_S S Rf a0 a1 I L = some q) : CT G 3 m_H_hang [.ref (xP G 0), .ref (xP G a0), .int a1] (S, I, L, Rf) (some (.int q.1), q.2) := by
  refine CT.of (by decide +kernel) (Nat.le_of_ble_eq_true rfl) ?_
  show X G 3 m_H_hang 0 [(0, .ref (xP G 0)), (1, .ref (xP G a0)), (2, .int a1)] [] (S, I, L, Rf) (some (.int q.1), q.2)
  replace hf := (f_H_hang_S.eq_1 _ _ _ _ _ _).symm.trans hf
  refine X_aload_n (pc := 0) (i := 1) 1 dX11_hang_0 rfl rfl ?_
  refine X_iload_n (pc := 1) (i := 2) 2 dX11_hang_1 rfl rfl ?_
  refine X_puti (pc := 2) (a := a0) (ci := 8) (j := 0) 0 rfl false ha0 (by decide) k_363 rfl (fun h => by cases h) rfl dX11_hang_2 ?_
  refine X_aload_n (pc := 5) (i := 1) 1 dX11_hang_5 rfl rfl ?_
  obtain ⟨q1, c2, hf⟩ := bd_some hf
  refine X_invS_v (pc := 6) (c_H_renew_S hT ha0 c2) ok_H_renew k_649 k_650 nd_14 (by decide) rfl (Nat.le_of_ble_eq_true rfl) dX11_hang_6 ?_
  refine X_aload_n (pc := 9) (i := 0) 0 dX11_hang_9 rfl rfl ?_
  refine X_getr (pc := 10) (a := 0) (ci := 10) (j := 2) (c := 11) (sh_0 hT) (by decide) k_496 (rf_0_2 hT) (fun _ h => h) dX11_hang_10 ?_
  refine X_aload_n (pc := 13) (i := 0) 0 dX11_hang_13 rfl rfl ?_
  refine X_get (pc := 14) (a := 0) (ci := 10) (j := 9) (.int (q1.1 0 6)) (sh_0 hT) (by decide) k_503 rfl dX11_hang_14 ?_
  refine X_aload_n (pc := 17) (i := 1) 1 dX11_hang_17 rfl rfl ?_
  obtain ⟨c3, hf⟩ := gd_some hf
  refine X_aastW (pc := 18) (ci := 8) (sh_11 hT) ha0 k_1825 (vp_in_lit (N := 8) c3 (by decide)) dX11_hang_18 ?_
  refine X_aload_n (pc := 19) (i := 0) 0 dX11_hang_19 rfl rfl ?_
  refine X_dup (pc := 20) dX11_hang_20 rfl ?_
  refine X_get (pc := 21) (a := 0) (ci := 10) (j := 9) (.int (q1.1 0 6)) (sh_0 (KP.H (KP.u11 (j := (Int32.toNatClampNeg (q1.1 0 6))) (v := (some a0)) KP.rf) hT)) (by decide) k_503 rfl dX11_hang_21 ?_
  refine X_dup_x1 (pc := 24) dX11_hang_24 rfl rfl ?_
  refine X_iconst (pc := 25) (1 : Int32) dX11_hang_25 (by decide) ?_
  refine X_iadd (pc := 26) dX11_hang_26 ?_
  obtain ⟨x4, ex4, hf⟩ := bnd_e hf
  refine X_tope ex4 ?_
  refine X_puti (pc := 27) (a := 0) (ci := 10) (j := 9) 6 rfl false (sh_0 (KP.H (KP.u11 (j := (Int32.toNatClampNeg (q1.1 0 6))) (v := (some a0)) KP.rf) hT)) (by decide) k_503 rfl (fun h => by cases h) rfl dX11_hang_27 ?_
  cases hf
  exact X_ireturn (pc := 30) rfl dX11_hang_30
theorem u_H_hang_S {S : List xSh} {Rf : Nat → Nat → Option Nat} {a0 : Nat} {a1 : Int32} (ha0 : S[a0]? = some (.inl 8)) {I : Nat → Nat → Int32} {L : Nat → Nat → Int64} {q : (Int32 × xH)} (hf : f_H_hang_S S Rf a0 a1 I L = some q) : FR S [1006] [] I q.2.2.1 L q.2.2.2.1 := by
  replace hf := (f_H_hang_S.eq_1 _ _ _ _ _ _).symm.trans hf
  obtain ⟨q1, c2, hf⟩ := bd_some hf
  obtain ⟨c3, hf⟩ := gd_some hf
  obtain ⟨x4, ex4, hf⟩ := bnd_e hf
  cases hf
  exact (FR.fi (FR.tr (FR.dy FR.rf ha0 (by decide)) (u_H_renew_S ha0 (q := q1) c2) (by decide) (by decide)) (by decide))
theorem t_H_hang_S {S : List xSh} {Rf : Nat → Nat → Option Nat} {a0 : Nat} {a1 : Int32} {I : Nat → Nat → Int32} {L : Nat → Nat → Int64} {q : (Int32 × xH)} (hf : f_H_hang_S S Rf a0 a1 I L = some q) : KP S Rf q.2.1 q.2.2.2.2 := by
  replace hf := (f_H_hang_S.eq_1 _ _ _ _ _ _).symm.trans hf
  obtain ⟨q1, c2, hf⟩ := bd_some hf
  obtain ⟨c3, hf⟩ := gd_some hf
  obtain ⟨x4, ex4, hf⟩ := bnd_e hf
  cases hf
  exact (KP.u11 (j := (Int32.toNatClampNeg (q1.1 0 6))) (v := (some a0)) KP.rf)
theorem dX11_strike_0 : decode cX11_strike 0 = .ok (.aload_n 0, 1) := by decide +kernel
theorem dX11_strike_1 : decode cX11_strike 1 = .ok (.getfield 20, 3) := by decide +kernel
theorem dX11_strike_4 : decode cX11_strike 4 = .ok (.iload_n 1, 1) := by decide +kernel
theorem dX11_strike_5 : decode cX11_strike 5 = .ok (.invokevirtual 109, 3) := by decide +kernel
theorem dX11_strike_8 : decode cX11_strike 8 = .ok (.ifCond .eq 12, 3) := by decide +kernel
theorem dX11_strike_11 : decode cX11_strike 11 = .ok (.iload_n 2, 1) := by decide +kernel
theorem dX11_strike_12 : decode cX11_strike 12 = .ok (.iconst 0, 1) := by decide +kernel
theorem dX11_strike_13 : decode cX11_strike 13 = .ok (.iconst 1, 1) := by decide +kernel
theorem dX11_strike_14 : decode cX11_strike 14 = .ok (.invokestatic 113, 3) := by decide +kernel
theorem dX11_strike_17 : decode cX11_strike 17 = .ok (.ifCond .ne 5, 3) := by decide +kernel
theorem dX11_strike_20 : decode cX11_strike 20 = .ok (.iconst (-1), 1) := by decide +kernel
theorem dX11_strike_21 : decode cX11_strike 21 = .ok (.ireturn, 1) := by decide +kernel
theorem dX11_strike_22 : decode cX11_strike 22 = .ok (.aload_n 0, 1) := by decide +kernel
theorem dX11_strike_23 : decode cX11_strike 23 = .ok (.getfield 99, 3) := by decide +kernel
theorem dX11_strike_26 : decode cX11_strike 26 = .ok (.ifCond .eq 6, 3) := by decide +kernel
theorem dX11_strike_29 : decode cX11_strike 29 = .ok (.bipush (-2), 2) := by decide +kernel
theorem dX11_strike_31 : decode cX11_strike 31 = .ok (.ireturn, 1) := by decide +kernel
theorem dX11_strike_32 : decode cX11_strike 32 = .ok (.aload_n 0, 1) := by decide +kernel
theorem dX11_strike_33 : decode cX11_strike 33 = .ok (.getfield 137, 3) := by decide +kernel
theorem dX11_strike_36 : decode cX11_strike 36 = .ok (.bipush 8, 2) := by decide +kernel
theorem dX11_strike_38 : decode cX11_strike 38 = .ok (.if_icmp .ge 15, 3) := by decide +kernel
theorem dX11_strike_41 : decode cX11_strike 41 = .ok (.aload_n 0, 1) := by decide +kernel
theorem dX11_strike_42 : decode cX11_strike 42 = .ok (.getfield 41, 3) := by decide +kernel
theorem dX11_strike_45 : decode cX11_strike 45 = .ok (.aload_n 0, 1) := by decide +kernel
theorem dX11_strike_46 : decode cX11_strike 46 = .ok (.getfield 137, 3) := by decide +kernel
theorem dX11_strike_49 : decode cX11_strike 49 = .ok (.aaload, 1) := by decide +kernel
theorem dX11_strike_50 : decode cX11_strike 50 = .ok (.goto 4, 3) := by decide +kernel
theorem dX11_strike_53 : decode cX11_strike 53 = .ok (.aconst_null, 1) := by decide +kernel
theorem dX11_strike_54 : decode cX11_strike 54 = .ok (.astore_n 3, 1) := by decide +kernel
theorem dX11_strike_55 : decode cX11_strike 55 = .ok (.aload_n 3, 1) := by decide +kernel
theorem dX11_strike_56 : decode cX11_strike 56 = .ok (.ifnonnull 6, 3) := by decide +kernel
theorem dX11_strike_59 : decode cX11_strike 59 = .ok (.bipush (-3), 2) := by decide +kernel
theorem dX11_strike_61 : decode cX11_strike 61 = .ok (.ireturn, 1) := by decide +kernel
theorem dX11_strike_62 : decode cX11_strike 62 = .ok (.aload_n 3, 1) := by decide +kernel
theorem dX11_strike_63 : decode cX11_strike 63 = .ok (.iload_n 2, 1) := by decide +kernel
theorem dX11_strike_64 : decode cX11_strike 64 = .ok (.invokevirtual 153, 3) := by decide +kernel
theorem dX11_strike_67 : decode cX11_strike 67 = .ok (.aload_n 0, 1) := by decide +kernel
theorem dX11_strike_68 : decode cX11_strike 68 = .ok (.aload_n 3, 1) := by decide +kernel
theorem dX11_strike_69 : decode cX11_strike 69 = .ok (.iload_n 1, 1) := by decide +kernel
theorem dX11_strike_70 : decode cX11_strike 70 = .ok (.invokevirtual 144, 3) := by decide +kernel
theorem dX11_strike_73 : decode cX11_strike 73 = .ok (.ireturn, 1) := by decide +kernel
def f_H_strike_L54 (l1 : Int32) (l2 : Int32) (S : List xSh) (Rf : (Nat → Nat → Option Nat)) (I : (Nat → Nat → Int32)) (L : (Nat → Nat → Int64)) : Option (Int32 × xH) := (some ((-3 : Int32), S, I, L, Rf))
set_option maxRecDepth 100000 in
set_option maxHeartbeats 4000000 in
theorem x_H_strike_L54 {G : xG} {S : List xSh} {Rf : Nat → Nat → Option Nat} (hT : xTH S Rf) {l1 : Int32} {l2 : Int32} {I : Nat → Nat → Int32} {L : Nat → Nat → Int64} {q : (Int32 × xH)} (hf : f_H_strike_L54 l1 l2 S Rf I L = some q) : X G 4 m_H_strike 54 [(0, .ref (xP G 0)), (1, .int l1), (2, .int l2)] [.null] (S, I, L, Rf) (some (.int q.1), q.2) := by
  replace hf := (f_H_strike_L54.eq_1 _ _ _ _ _ _).symm.trans hf
  refine X_astore_nN (pc := 54) (i := 3) [(3, .null), (0, .ref (xP G 0)), (1, .int l1), (2, .int l2)] dX11_strike_54 rfl (by decide) rfl ?_
  refine X_aload_nN (pc := 55) (i := 3) 0 dX11_strike_55 rfl rfl ?_
  refine X_ifnonnull_f (pc := 56) dX11_strike_56 ?_
  refine X_bipush (pc := 59) (-3 : Int32) dX11_strike_59 (by decide) ?_
  cases hf
  exact X_ireturn (pc := 61) rfl dX11_strike_61
theorem u_H_strike_L54 {S : List xSh} {Rf : Nat → Nat → Option Nat} {l1 : Int32} {l2 : Int32} {I : Nat → Nat → Int32} {L : Nat → Nat → Int64} {q : (Int32 × xH)} (hf : f_H_strike_L54 l1 l2 S Rf I L = some q) : FR S [1006] [] I q.2.2.1 L q.2.2.2.1 := by
  replace hf := (f_H_strike_L54.eq_1 _ _ _ _ _ _).symm.trans hf
  cases hf
  exact FR.rf
theorem t_H_strike_L54 {S : List xSh} {Rf : Nat → Nat → Option Nat} {l1 : Int32} {l2 : Int32} {I : Nat → Nat → Int32} {L : Nat → Nat → Int64} {q : (Int32 × xH)} (hf : f_H_strike_L54 l1 l2 S Rf I L = some q) : KP S Rf q.2.1 q.2.2.2.2 := by
  replace hf := (f_H_strike_L54.eq_1 _ _ _ _ _ _).symm.trans hf
  cases hf
  exact KP.rf
def f_H_strike_L54_2 (l1 : Int32) (l2 : Int32) (s0 : Nat) (S : List xSh) (Rf : (Nat → Nat → Option Nat)) (I : (Nat → Nat → Int32)) (L : (Nat → Nat → Int64)) : Option (Int32 × xH) := ((f_St_begin s0 l2 I L).bind fun q10 => ((f_H_hang_S S Rf s0 l1 q10.1 q10.2).bind fun q12 => (some (q12.1, q12.2.1, q12.2.2.1, q12.2.2.2.1, q12.2.2.2.2))))
set_option maxRecDepth 100000 in
set_option maxHeartbeats 4000000 in
theorem x_H_strike_L54_2 {G : xG} {S : List xSh} {Rf : Nat → Nat → Option Nat} (hT : xTH S Rf) {l1 : Int32} {l2 : Int32} {s0 : Nat} {I : Nat → Nat → Int32} {L : Nat → Nat → Int64} {q : (Int32 × xH)} (hs0 : S[s0]? = some (.inl 8)) (hf : f_H_strike_L54_2 l1 l2 s0 S Rf I L = some q) : X G 4 m_H_strike 54 [(0, .ref (xP G 0)), (1, .int l1), (2, .int l2)] [.ref (xP G s0)] (S, I, L, Rf) (some (.int q.1), q.2) := by
  replace hf := (f_H_strike_L54_2.eq_1 _ _ _ _ _ _ _).symm.trans hf
  refine X_astore_n (pc := 54) (i := 3) [(3, .ref (xP G s0)), (0, .ref (xP G 0)), (1, .int l1), (2, .int l2)] dX11_strike_54 rfl (by decide) rfl ?_
  refine X_aload_n (pc := 55) (i := 3) 0 dX11_strike_55 rfl rfl ?_
  refine X_ifnonnull_t (pc := 56) 62 dX11_strike_56 (by decide) ?_
  refine X_aload_n (pc := 62) (i := 3) 0 dX11_strike_62 rfl rfl ?_
  refine X_iload_n (pc := 63) (i := 2) 3 dX11_strike_63 rfl rfl ?_
  obtain ⟨q10, c11, hf⟩ := bd_some hf
  refine X_invV_v (pc := 64) (c_St_begin hT hs0 c11) ok_St_begin (ci := 8) hs0 k_686 k_687 k_688 nd_13 (by decide) rfl (Nat.le_of_ble_eq_true rfl) dX11_strike_64 ?_
  refine X_aload_n (pc := 67) (i := 0) 1 dX11_strike_67 rfl rfl ?_
  refine X_aload_n (pc := 68) (i := 3) 0 dX11_strike_68 rfl rfl ?_
  refine X_iload_n (pc := 69) (i := 1) 2 dX11_strike_69 rfl rfl ?_
  obtain ⟨q12, c13, hf⟩ := bd_some hf
  refine X_invV_i (pc := 70) (c_H_hang_S hT hs0 c13) ok_H_hang (ci := 10) (sh_0 hT) k_645 k_647 k_9 nd_15 (by decide) rfl (Nat.le_of_ble_eq_true rfl) dX11_strike_70 ?_
  cases hf
  exact X_ireturn (pc := 73) rfl dX11_strike_73
theorem u_H_strike_L54_2 {S : List xSh} {Rf : Nat → Nat → Option Nat} {l1 : Int32} {l2 : Int32} {s0 : Nat} {I : Nat → Nat → Int32} {L : Nat → Nat → Int64} {q : (Int32 × xH)} (hs0 : S[s0]? = some (.inl 8)) (hf : f_H_strike_L54_2 l1 l2 s0 S Rf I L = some q) : FR S [1006] [] I q.2.2.1 L q.2.2.2.1 := by
  replace hf := (f_H_strike_L54_2.eq_1 _ _ _ _ _ _ _).symm.trans hf
  obtain ⟨q10, c11, hf⟩ := bd_some hf
  obtain ⟨q12, c13, hf⟩ := bd_some hf
  cases hf
  exact (FR.tr (FR.tr FR.rf (u_St_begin hs0 (q := q10) c11) (by decide) (by decide)) (u_H_hang_S hs0 (q := q12) c13) (by decide) (by decide))
theorem t_H_strike_L54_2 {S : List xSh} {Rf : Nat → Nat → Option Nat} {l1 : Int32} {l2 : Int32} {s0 : Nat} {I : Nat → Nat → Int32} {L : Nat → Nat → Int64} {q : (Int32 × xH)} (hf : f_H_strike_L54_2 l1 l2 s0 S Rf I L = some q) : KP S Rf q.2.1 q.2.2.2.2 := by
  replace hf := (f_H_strike_L54_2.eq_1 _ _ _ _ _ _ _).symm.trans hf
  obtain ⟨q10, c11, hf⟩ := bd_some hf
  obtain ⟨q12, c13, hf⟩ := bd_some hf
  cases hf
  exact (KP.tr KP.rf (t_H_hang_S (q := q12) c13))
def f_H_strike (S : List xSh) (Rf : Nat → Nat → Option Nat) (a0 : Int32) (a1 : Int32) (I : Nat → Nat → Int32) (L : Nat → Nat → Int64) : Option (Int32 × xH) := (if (f_Ge_hasArbor a0 I L) = (0 : Int32) then (some ((-1 : Int32), S, I, L, Rf)) else (bnd (f_H_isWithin a1 (0 : Int32) (1 : Int32)) fun x2 => (if x2 = (0 : Int32) then (some ((-1 : Int32), S, I, L, Rf)) else (if (I 0 8) = (0 : Int32) then (if (8 : Int32) ≤ (I 0 6) then (f_H_strike_L54 a0 a1 S Rf I L) else (if (0 ≤ (I 0 6) ∧ (I 0 6) < (8 : Int32)) then (oc (Rf 77 ((I 0 6).toNatClampNeg)) (f_H_strike_L54 a0 a1 S Rf I L) fun w7 => (if S[w7]? = some (.inl 8) then (f_H_strike_L54_2 a0 a1 w7 S Rf I L) else none)) else none)) else (some ((-2 : Int32), S, I, L, Rf))))))
set_option maxRecDepth 100000 in
set_option maxHeartbeats 4000000 in
theorem c_H_strike {G : xG} {S : List xSh} {Rf : Nat → Nat → Option Nat} (hT : xTH S Rf) {a0 : Int32} {a1 : Int32} {I : Nat → Nat → Int32} {L : Nat → Nat → Int64} {q : (Int32 × xH)} (hf : f_H_strike S Rf a0 a1 I L = some q) : CT G 4 m_H_strike [.ref (xP G 0), .int a0, .int a1] (S, I, L, Rf) (some (.int q.1), q.2) := by
  refine CT.of (by decide +kernel) (Nat.le_of_ble_eq_true rfl) ?_
  show X G 4 m_H_strike 0 [(0, .ref (xP G 0)), (1, .int a0), (2, .int a1)] [] (S, I, L, Rf) (some (.int q.1), q.2)
  replace hf := (f_H_strike.eq_1 _ _ _ _ _ _).symm.trans hf
  refine X_aload_n (pc := 0) (i := 0) 0 dX11_strike_0 rfl rfl ?_
  refine X_getr (pc := 1) (a := 0) (ci := 10) (j := 1) (c := 2) (sh_0 hT) (by decide) k_495 (rf_0_1 hT) (fun _ h => h) dX11_strike_1 ?_
  refine X_iload_n (pc := 4) (i := 1) 1 dX11_strike_4 rfl rfl ?_
  refine X_invV_i (pc := 5) (c_Ge_hasArbor hT rfl) ok_Ge_hasArbor (ci := 6) (sh_2 hT) k_559 k_560 k_561 nd_5 (by decide) rfl (Nat.le_of_ble_eq_true rfl) dX11_strike_5 ?_
  by_cases c1 : (f_Ge_hasArbor a0 I L) = (0 : Int32)
  · replace hf := (if_pos c1).symm.trans hf
    refine X_if_eq_t (pc := 8) 20 dX11_strike_8 (by decide) c1 ?_
    refine X_iconst (pc := 20) (-1 : Int32) dX11_strike_20 (by decide) ?_
    cases hf
    exact X_ireturn (pc := 21) rfl dX11_strike_21
  · replace hf := (if_neg c1).symm.trans hf
    refine X_if_eq_f (pc := 8) 20 dX11_strike_8 (by decide) c1 ?_
    refine X_iload_n (pc := 11) (i := 2) 2 dX11_strike_11 rfl rfl ?_
    refine X_iconst (pc := 12) (0 : Int32) dX11_strike_12 (by decide) ?_
    refine X_iconst (pc := 13) (1 : Int32) dX11_strike_13 (by decide) ?_
    refine X_invS_i (pc := 14) (c_H_isWithin hT rfl) ok_H_isWithin k_563 k_564 nd_6 (by decide) rfl (Nat.le_of_ble_eq_true rfl) dX11_strike_14 ?_
    obtain ⟨x2, ex2, hf⟩ := bnd_e hf
    refine X_tope ex2 ?_
    by_cases c3 : x2 = (0 : Int32)
    · replace hf := (if_pos c3).symm.trans hf
      refine X_if_ne_f (pc := 17) 22 dX11_strike_17 (by decide) c3 ?_
      refine X_iconst (pc := 20) (-1 : Int32) dX11_strike_20 (by decide) ?_
      cases hf
      exact X_ireturn (pc := 21) rfl dX11_strike_21
    · replace hf := (if_neg c3).symm.trans hf
      refine X_if_ne_t (pc := 17) 22 dX11_strike_17 (by decide) c3 ?_
      refine X_aload_n (pc := 22) (i := 0) 0 dX11_strike_22 rfl rfl ?_
      refine X_get (pc := 23) (a := 0) (ci := 10) (j := 11) (.int (I 0 8)) (sh_0 hT) (by decide) k_505 rfl dX11_strike_23 ?_
      by_cases c4 : (I 0 8) = (0 : Int32)
      · replace hf := (if_pos c4).symm.trans hf
        refine X_if_eq_t (pc := 26) 32 dX11_strike_26 (by decide) c4 ?_
        refine X_aload_n (pc := 32) (i := 0) 0 dX11_strike_32 rfl rfl ?_
        refine X_get (pc := 33) (a := 0) (ci := 10) (j := 9) (.int (I 0 6)) (sh_0 hT) (by decide) k_503 rfl dX11_strike_33 ?_
        refine X_bipush (pc := 36) (8 : Int32) dX11_strike_36 (by decide) ?_
        by_cases c5 : (8 : Int32) ≤ (I 0 6)
        · replace hf := (if_pos c5).symm.trans hf
          refine X_icmp_ge_t (pc := 38) 53 dX11_strike_38 (by decide) c5 ?_
          refine X_null (pc := 53) dX11_strike_53 ?_
          exact X_lvs [0, 1, 2] rfl (x_H_strike_L54 hT hf)
        · replace hf := (if_neg c5).symm.trans hf
          refine X_icmp_ge_f (pc := 38) 53 dX11_strike_38 (by decide) c5 ?_
          refine X_aload_n (pc := 41) (i := 0) 0 dX11_strike_41 rfl rfl ?_
          refine X_getr (pc := 42) (a := 0) (ci := 10) (j := 5) (c := 77) (sh_0 hT) (by decide) k_499 (rf_0_15 hT) (fun _ h => h) dX11_strike_42 ?_
          refine X_aload_n (pc := 45) (i := 0) 0 dX11_strike_45 rfl rfl ?_
          refine X_get (pc := 46) (a := 0) (ci := 10) (j := 9) (.int (I 0 6)) (sh_0 hT) (by decide) k_503 rfl dX11_strike_46 ?_
          obtain ⟨c6, hf⟩ := gd_some hf
          rcases oc_cases hf with ⟨hr8, hf⟩ | ⟨w7, hr8, hf⟩
          · refine X_aaldN (pc := 49) (by decide) (sh_77 hT) (vp_in_lit (N := 8) c6 (by decide)) hr8 dX11_strike_49 ?_
            refine X_goto (pc := 50) 54 dX11_strike_50 (by decide) ?_
            exact X_lvs [0, 1, 2] rfl (x_H_strike_L54 hT hf)
          · obtain ⟨hs9, hf⟩ := gd_some hf
            refine X_aaldS (pc := 49) (by decide) (sh_77 hT) (vp_in_lit (N := 8) c6 (by decide)) hr8 dX11_strike_49 ?_
            refine X_goto (pc := 50) 54 dX11_strike_50 (by decide) ?_
            exact X_lvs [0, 1, 2] rfl (x_H_strike_L54_2 hT hs9 hf)
      · replace hf := (if_neg c4).symm.trans hf
        refine X_if_eq_f (pc := 26) 32 dX11_strike_26 (by decide) c4 ?_
        refine X_bipush (pc := 29) (-2 : Int32) dX11_strike_29 (by decide) ?_
        cases hf
        exact X_ireturn (pc := 31) rfl dX11_strike_31
theorem u_H_strike {S : List xSh} {Rf : Nat → Nat → Option Nat} {a0 : Int32} {a1 : Int32} {I : Nat → Nat → Int32} {L : Nat → Nat → Int64} {q : (Int32 × xH)} (hf : f_H_strike S Rf a0 a1 I L = some q) : FR S [1006] [] I q.2.2.1 L q.2.2.2.1 := by
  replace hf := (f_H_strike.eq_1 _ _ _ _ _ _).symm.trans hf
  by_cases c1 : (f_Ge_hasArbor a0 I L) = (0 : Int32)
  · replace hf := (if_pos c1).symm.trans hf
    cases hf
    exact FR.rf
  · replace hf := (if_neg c1).symm.trans hf
    obtain ⟨x2, ex2, hf⟩ := bnd_e hf
    by_cases c3 : x2 = (0 : Int32)
    · replace hf := (if_pos c3).symm.trans hf
      cases hf
      exact FR.rf
    · replace hf := (if_neg c3).symm.trans hf
      by_cases c4 : (I 0 8) = (0 : Int32)
      · replace hf := (if_pos c4).symm.trans hf
        by_cases c5 : (8 : Int32) ≤ (I 0 6)
        · replace hf := (if_pos c5).symm.trans hf
          exact FR.tr FR.rf (u_H_strike_L54 hf) (by decide) (by decide)
        · replace hf := (if_neg c5).symm.trans hf
          obtain ⟨c6, hf⟩ := gd_some hf
          rcases oc_cases hf with ⟨hr8, hf⟩ | ⟨w7, hr8, hf⟩
          · exact FR.tr FR.rf (u_H_strike_L54 hf) (by decide) (by decide)
          · obtain ⟨hs9, hf⟩ := gd_some hf
            exact FR.tr FR.rf (u_H_strike_L54_2 hs9 hf) (by decide) (by decide)
      · replace hf := (if_neg c4).symm.trans hf
        cases hf
        exact FR.rf
theorem t_H_strike {S : List xSh} {Rf : Nat → Nat → Option Nat} {a0 : Int32} {a1 : Int32} {I : Nat → Nat → Int32} {L : Nat → Nat → Int64} {q : (Int32 × xH)} (hf : f_H_strike S Rf a0 a1 I L = some q) : KP S Rf q.2.1 q.2.2.2.2 := by
  replace hf := (f_H_strike.eq_1 _ _ _ _ _ _).symm.trans hf
  by_cases c1 : (f_Ge_hasArbor a0 I L) = (0 : Int32)
  · replace hf := (if_pos c1).symm.trans hf
    cases hf
    exact KP.rf
  · replace hf := (if_neg c1).symm.trans hf
    obtain ⟨x2, ex2, hf⟩ := bnd_e hf
    by_cases c3 : x2 = (0 : Int32)
    · replace hf := (if_pos c3).symm.trans hf
      cases hf
      exact KP.rf
    · replace hf := (if_neg c3).symm.trans hf
      by_cases c4 : (I 0 8) = (0 : Int32)
      · replace hf := (if_pos c4).symm.trans hf
        by_cases c5 : (8 : Int32) ≤ (I 0 6)
        · replace hf := (if_pos c5).symm.trans hf
          exact KP.tr KP.rf (t_H_strike_L54 hf)
        · replace hf := (if_neg c5).symm.trans hf
          obtain ⟨c6, hf⟩ := gd_some hf
          rcases oc_cases hf with ⟨hr8, hf⟩ | ⟨w7, hr8, hf⟩
          · exact KP.tr KP.rf (t_H_strike_L54 hf)
          · obtain ⟨hs9, hf⟩ := gd_some hf
            exact KP.tr KP.rf (t_H_strike_L54_2 hf)
      · replace hf := (if_neg c4).symm.trans hf
        cases hf
        exact KP.rf
theorem dX3_setCount_0 : decode cX3_setCount 0 = .ok (.aload_n 0, 1) := by decide +kernel
theorem dX3_setCount_1 : decode cX3_setCount 1 = .ok (.iload_n 1, 1) := by decide +kernel
theorem dX3_setCount_2 : decode cX3_setCount 2 = .ok (.putfield 27, 3) := by decide +kernel
theorem dX3_setCount_5 : decode cX3_setCount 5 = .ok (.aload_n 0, 1) := by decide +kernel
theorem dX3_setCount_6 : decode cX3_setCount 6 = .ok (.getfield 19, 3) := by decide +kernel
theorem dX3_setCount_9 : decode cX3_setCount 9 = .ok (.ifCond .ne 8, 3) := by decide +kernel
theorem dX3_setCount_12 : decode cX3_setCount 12 = .ok (.aload_n 0, 1) := by decide +kernel
theorem dX3_setCount_13 : decode cX3_setCount 13 = .ok (.iload_n 1, 1) := by decide +kernel
theorem dX3_setCount_14 : decode cX3_setCount 14 = .ok (.putfield 30, 3) := by decide +kernel
theorem dX3_setCount_17 : decode cX3_setCount 17 = .ok (.return_, 1) := by decide +kernel
def f_Cr_setCount (w0 : Nat) (a0 : Int32) (I : Nat → Nat → Int32) (L : Nat → Nat → Int64) : Option ((Nat → Nat → Int32) × (Nat → Nat → Int64)) := (if ((uI I w0 2 a0) w0 4) = (0 : Int32) then (some ((uI (uI I w0 2 a0) w0 3 a0), L)) else (some ((uI I w0 2 a0), L)))
set_option maxRecDepth 100000 in
set_option maxHeartbeats 4000000 in
theorem c_Cr_setCount {G : xG} {S : List xSh} {Rf : Nat → Nat → Option Nat} (hT : xTH S Rf) {w0 : Nat} {a0 : Int32} (hw0 : S[w0]? = some (.inl 3)) {I : Nat → Nat → Int32} {L : Nat → Nat → Int64} {q : ((Nat → Nat → Int32) × (Nat → Nat → Int64))} (hf : f_Cr_setCount w0 a0 I L = some q) : CT G 1 m_Cr_setCount [.ref (xP G w0), .int a0] (S, I, L, Rf) (none, (S, q.1, q.2, Rf)) := by
  refine CT.of (by decide +kernel) (Nat.le_of_ble_eq_true rfl) ?_
  show X G 1 m_Cr_setCount 0 [(0, .ref (xP G w0)), (1, .int a0)] [] (S, I, L, Rf) (none, (S, q.1, q.2, Rf))
  replace hf := (f_Cr_setCount.eq_1 _ _ _ _).symm.trans hf
  refine X_aload_n (pc := 0) (i := 0) 0 dX3_setCount_0 rfl rfl ?_
  refine X_iload_n (pc := 1) (i := 1) 1 dX3_setCount_1 rfl rfl ?_
  refine X_puti (pc := 2) (a := w0) (ci := 3) (j := 2) 2 rfl false hw0 (by decide) k_446 rfl (fun h => by cases h) rfl dX3_setCount_2 ?_
  refine X_aload_n (pc := 5) (i := 0) 0 dX3_setCount_5 rfl rfl ?_
  refine X_get (pc := 6) (a := w0) (ci := 3) (j := 4) (.int ((uI I w0 2 a0) w0 4)) hw0 (by decide) k_450 rfl dX3_setCount_6 ?_
  by_cases c1 : ((uI I w0 2 a0) w0 4) = (0 : Int32)
  · replace hf := (if_pos c1).symm.trans hf
    refine X_if_ne_f (pc := 9) 17 dX3_setCount_9 (by decide) c1 ?_
    refine X_aload_n (pc := 12) (i := 0) 0 dX3_setCount_12 rfl rfl ?_
    refine X_iload_n (pc := 13) (i := 1) 1 dX3_setCount_13 rfl rfl ?_
    refine X_puti (pc := 14) (a := w0) (ci := 3) (j := 3) 3 rfl false hw0 (by decide) k_448 rfl (fun h => by cases h) rfl dX3_setCount_14 ?_
    cases hf
    exact X_return (pc := 17) rfl dX3_setCount_17
  · replace hf := (if_neg c1).symm.trans hf
    refine X_if_ne_t (pc := 9) 17 dX3_setCount_9 (by decide) c1 ?_
    cases hf
    exact X_return (pc := 17) rfl dX3_setCount_17
theorem u_Cr_setCount {S : List xSh} {w0 : Nat} {a0 : Int32} (hw0 : S[w0]? = some (.inl 3)) {I : Nat → Nat → Int32} {L : Nat → Nat → Int64} {q : ((Nat → Nat → Int32) × (Nat → Nat → Int64))} (hf : f_Cr_setCount w0 a0 I L = some q) : FR S [] [] I q.1 L q.2 := by
  replace hf := (f_Cr_setCount.eq_1 _ _ _ _).symm.trans hf
  by_cases c1 : ((uI I w0 2 a0) w0 4) = (0 : Int32)
  · replace hf := (if_pos c1).symm.trans hf
    cases hf
    exact (FR.dy (FR.dy FR.rf hw0 (by decide)) hw0 (by decide))
  · replace hf := (if_neg c1).symm.trans hf
    cases hf
    exact (FR.dy FR.rf hw0 (by decide))
theorem dX3_restart_0 : decode cX3_restart 0 = .ok (.aload_n 0, 1) := by decide +kernel
theorem dX3_restart_1 : decode cX3_restart 1 = .ok (.iconst 0, 1) := by decide +kernel
theorem dX3_restart_2 : decode cX3_restart 2 = .ok (.putfield 16, 3) := by decide +kernel
theorem dX3_restart_5 : decode cX3_restart 5 = .ok (.aload_n 0, 1) := by decide +kernel
theorem dX3_restart_6 : decode cX3_restart 6 = .ok (.iconst 0, 1) := by decide +kernel
theorem dX3_restart_7 : decode cX3_restart 7 = .ok (.putfield 19, 3) := by decide +kernel
theorem dX3_restart_10 : decode cX3_restart 10 = .ok (.aload_n 0, 1) := by decide +kernel
theorem dX3_restart_11 : decode cX3_restart 11 = .ok (.iconst 0, 1) := by decide +kernel
theorem dX3_restart_12 : decode cX3_restart 12 = .ok (.invokevirtual 23, 3) := by decide +kernel
theorem dX3_restart_15 : decode cX3_restart 15 = .ok (.return_, 1) := by decide +kernel
def f_Cr_restart (w0 : Nat) (I : Nat → Nat → Int32) (L : Nat → Nat → Int64) : Option ((Nat → Nat → Int32) × (Nat → Nat → Int64)) := ((f_Cr_setCount w0 (0 : Int32) (uI (uI I w0 1 (0 : Int32)) w0 4 (0 : Int32)) L).bind fun q1 => (some (q1.1, q1.2)))
set_option maxRecDepth 100000 in
set_option maxHeartbeats 4000000 in
theorem c_Cr_restart {G : xG} {S : List xSh} {Rf : Nat → Nat → Option Nat} (hT : xTH S Rf) {w0 : Nat} (hw0 : S[w0]? = some (.inl 3)) {I : Nat → Nat → Int32} {L : Nat → Nat → Int64} {q : ((Nat → Nat → Int32) × (Nat → Nat → Int64))} (hf : f_Cr_restart w0 I L = some q) : CT G 2 m_Cr_restart [.ref (xP G w0)] (S, I, L, Rf) (none, (S, q.1, q.2, Rf)) := by
  refine CT.of (by decide +kernel) (Nat.le_of_ble_eq_true rfl) ?_
  show X G 2 m_Cr_restart 0 [(0, .ref (xP G w0))] [] (S, I, L, Rf) (none, (S, q.1, q.2, Rf))
  replace hf := (f_Cr_restart.eq_1 _ _ _).symm.trans hf
  refine X_aload_n (pc := 0) (i := 0) 0 dX3_restart_0 rfl rfl ?_
  refine X_iconst (pc := 1) (0 : Int32) dX3_restart_1 (by decide) ?_
  refine X_puti (pc := 2) (a := w0) (ci := 3) (j := 1) 1 rfl false hw0 (by decide) k_444 rfl (fun h => by cases h) rfl dX3_restart_2 ?_
  refine X_aload_n (pc := 5) (i := 0) 0 dX3_restart_5 rfl rfl ?_
  refine X_iconst (pc := 6) (0 : Int32) dX3_restart_6 (by decide) ?_
  refine X_putz (pc := 7) (a := w0) (ci := 3) (j := 4) 4 rfl false hw0 (by decide) k_450 rfl (fun h => by cases h) rfl (by decide) dX3_restart_7 ?_
  refine X_aload_n (pc := 10) (i := 0) 0 dX3_restart_10 rfl rfl ?_
  refine X_iconst (pc := 11) (0 : Int32) dX3_restart_11 (by decide) ?_
  obtain ⟨q1, c2, hf⟩ := bd_some hf
  refine X_invV_v (pc := 12) (c_Cr_setCount hT hw0 c2) ok_Cr_setCount (ci := 3) hw0 k_702 k_704 k_10 nd_13 (by decide) rfl (Nat.le_of_ble_eq_true rfl) dX3_restart_12 ?_
  cases hf
  exact X_return (pc := 15) rfl dX3_restart_15
theorem u_Cr_restart {S : List xSh} {w0 : Nat} (hw0 : S[w0]? = some (.inl 3)) {I : Nat → Nat → Int32} {L : Nat → Nat → Int64} {q : ((Nat → Nat → Int32) × (Nat → Nat → Int64))} (hf : f_Cr_restart w0 I L = some q) : FR S [] [] I q.1 L q.2 := by
  replace hf := (f_Cr_restart.eq_1 _ _ _).symm.trans hf
  obtain ⟨q1, c2, hf⟩ := bd_some hf
  cases hf
  exact (FR.tr (FR.dy (FR.dy FR.rf hw0 (by decide)) hw0 (by decide)) (u_Cr_setCount hw0 (q := q1) c2) (by decide) (by decide))
theorem dX3_begin_0 : decode cX3_begin 0 = .ok (.aload_n 0, 1) := by decide +kernel
theorem dX3_begin_1 : decode cX3_begin 1 = .ok (.iload_n 1, 1) := by decide +kernel
theorem dX3_begin_2 : decode cX3_begin 2 = .ok (.putfield 7, 3) := by decide +kernel
theorem dX3_begin_5 : decode cX3_begin 5 = .ok (.aload_n 0, 1) := by decide +kernel
theorem dX3_begin_6 : decode cX3_begin 6 = .ok (.invokevirtual 13, 3) := by decide +kernel
theorem dX3_begin_9 : decode cX3_begin 9 = .ok (.return_, 1) := by decide +kernel
def f_Cr_begin (w0 : Nat) (a0 : Int32) (I : Nat → Nat → Int32) (L : Nat → Nat → Int64) : Option ((Nat → Nat → Int32) × (Nat → Nat → Int64)) := ((f_Cr_restart w0 (uI I w0 0 a0) L).bind fun q1 => (some (q1.1, q1.2)))
set_option maxRecDepth 100000 in
set_option maxHeartbeats 4000000 in
theorem c_Cr_begin {G : xG} {S : List xSh} {Rf : Nat → Nat → Option Nat} (hT : xTH S Rf) {w0 : Nat} {a0 : Int32} (hw0 : S[w0]? = some (.inl 3)) {I : Nat → Nat → Int32} {L : Nat → Nat → Int64} {q : ((Nat → Nat → Int32) × (Nat → Nat → Int64))} (hf : f_Cr_begin w0 a0 I L = some q) : CT G 3 m_Cr_begin [.ref (xP G w0), .int a0] (S, I, L, Rf) (none, (S, q.1, q.2, Rf)) := by
  refine CT.of (by decide +kernel) (Nat.le_of_ble_eq_true rfl) ?_
  show X G 3 m_Cr_begin 0 [(0, .ref (xP G w0)), (1, .int a0)] [] (S, I, L, Rf) (none, (S, q.1, q.2, Rf))
  replace hf := (f_Cr_begin.eq_1 _ _ _ _).symm.trans hf
  refine X_aload_n (pc := 0) (i := 0) 0 dX3_begin_0 rfl rfl ?_
  refine X_iload_n (pc := 1) (i := 1) 1 dX3_begin_1 rfl rfl ?_
  refine X_puti (pc := 2) (a := w0) (ci := 3) (j := 0) 0 rfl false hw0 (by decide) k_443 rfl (fun h => by cases h) rfl dX3_begin_2 ?_
  refine X_aload_n (pc := 5) (i := 0) 0 dX3_begin_5 rfl rfl ?_
  obtain ⟨q1, c2, hf⟩ := bd_some hf
  refine X_invV_v (pc := 6) (c_Cr_restart hT hw0 c2) ok_Cr_restart (ci := 3) hw0 k_698 k_699 k_700 nd_1 (by decide) rfl (Nat.le_of_ble_eq_true rfl) dX3_begin_6 ?_
  cases hf
  exact X_return (pc := 9) rfl dX3_begin_9
theorem u_Cr_begin {S : List xSh} {w0 : Nat} {a0 : Int32} (hw0 : S[w0]? = some (.inl 3)) {I : Nat → Nat → Int32} {L : Nat → Nat → Int64} {q : ((Nat → Nat → Int32) × (Nat → Nat → Int64))} (hf : f_Cr_begin w0 a0 I L = some q) : FR S [] [] I q.1 L q.2 := by
  replace hf := (f_Cr_begin.eq_1 _ _ _ _).symm.trans hf
  obtain ⟨q1, c2, hf⟩ := bd_some hf
  cases hf
  exact (FR.tr (FR.dy FR.rf hw0 (by decide)) (u_Cr_restart hw0 (q := q1) c2) (by decide) (by decide))
theorem dX11_chronograph_0 : decode cX11_chronograph 0 = .ok (.iload_n 1, 1) := by decide +kernel
theorem dX11_chronograph_1 : decode cX11_chronograph 1 = .ok (.iconst 0, 1) := by decide +kernel
theorem dX11_chronograph_2 : decode cX11_chronograph 2 = .ok (.iconst 2, 1) := by decide +kernel
theorem dX11_chronograph_3 : decode cX11_chronograph 3 = .ok (.invokestatic 113, 3) := by decide +kernel
theorem dX11_chronograph_6 : decode cX11_chronograph 6 = .ok (.ifCond .ne 5, 3) := by decide +kernel
theorem dX11_chronograph_9 : decode cX11_chronograph 9 = .ok (.iconst (-1), 1) := by decide +kernel
theorem dX11_chronograph_10 : decode cX11_chronograph 10 = .ok (.ireturn, 1) := by decide +kernel
theorem dX11_chronograph_11 : decode cX11_chronograph 11 = .ok (.aload_n 0, 1) := by decide +kernel
theorem dX11_chronograph_12 : decode cX11_chronograph 12 = .ok (.getfield 99, 3) := by decide +kernel
theorem dX11_chronograph_15 : decode cX11_chronograph 15 = .ok (.ifCond .eq 6, 3) := by decide +kernel
theorem dX11_chronograph_18 : decode cX11_chronograph 18 = .ok (.bipush (-2), 2) := by decide +kernel
theorem dX11_chronograph_20 : decode cX11_chronograph 20 = .ok (.ireturn, 1) := by decide +kernel
theorem dX11_chronograph_21 : decode cX11_chronograph 21 = .ok (.aload_n 0, 1) := by decide +kernel
theorem dX11_chronograph_22 : decode cX11_chronograph 22 = .ok (.getfield 154, 3) := by decide +kernel
theorem dX11_chronograph_25 : decode cX11_chronograph 25 = .ok (.iconst 4, 1) := by decide +kernel
theorem dX11_chronograph_26 : decode cX11_chronograph 26 = .ok (.if_icmp .ge 15, 3) := by decide +kernel
theorem dX11_chronograph_29 : decode cX11_chronograph 29 = .ok (.aload_n 0, 1) := by decide +kernel
theorem dX11_chronograph_30 : decode cX11_chronograph 30 = .ok (.getfield 47, 3) := by decide +kernel
theorem dX11_chronograph_33 : decode cX11_chronograph 33 = .ok (.aload_n 0, 1) := by decide +kernel
theorem dX11_chronograph_34 : decode cX11_chronograph 34 = .ok (.getfield 154, 3) := by decide +kernel
theorem dX11_chronograph_37 : decode cX11_chronograph 37 = .ok (.aaload, 1) := by decide +kernel
theorem dX11_chronograph_38 : decode cX11_chronograph 38 = .ok (.goto 4, 3) := by decide +kernel
theorem dX11_chronograph_41 : decode cX11_chronograph 41 = .ok (.aconst_null, 1) := by decide +kernel
theorem dX11_chronograph_42 : decode cX11_chronograph 42 = .ok (.astore_n 2, 1) := by decide +kernel
theorem dX11_chronograph_43 : decode cX11_chronograph 43 = .ok (.aload_n 2, 1) := by decide +kernel
theorem dX11_chronograph_44 : decode cX11_chronograph 44 = .ok (.ifnonnull 6, 3) := by decide +kernel
theorem dX11_chronograph_47 : decode cX11_chronograph 47 = .ok (.bipush (-3), 2) := by decide +kernel
theorem dX11_chronograph_49 : decode cX11_chronograph 49 = .ok (.ireturn, 1) := by decide +kernel
theorem dX11_chronograph_50 : decode cX11_chronograph 50 = .ok (.aload_n 2, 1) := by decide +kernel
theorem dX11_chronograph_51 : decode cX11_chronograph 51 = .ok (.iload_n 1, 1) := by decide +kernel
theorem dX11_chronograph_52 : decode cX11_chronograph 52 = .ok (.invokevirtual 157, 3) := by decide +kernel
theorem dX11_chronograph_55 : decode cX11_chronograph 55 = .ok (.aload_n 0, 1) := by decide +kernel
theorem dX11_chronograph_56 : decode cX11_chronograph 56 = .ok (.dup, 1) := by decide +kernel
theorem dX11_chronograph_57 : decode cX11_chronograph 57 = .ok (.getfield 154, 3) := by decide +kernel
theorem dX11_chronograph_60 : decode cX11_chronograph 60 = .ok (.dup_x1, 1) := by decide +kernel
theorem dX11_chronograph_61 : decode cX11_chronograph 61 = .ok (.iconst 1, 1) := by decide +kernel
theorem dX11_chronograph_62 : decode cX11_chronograph 62 = .ok (.iadd, 1) := by decide +kernel
theorem dX11_chronograph_63 : decode cX11_chronograph 63 = .ok (.putfield 154, 3) := by decide +kernel
theorem dX11_chronograph_66 : decode cX11_chronograph 66 = .ok (.ireturn, 1) := by decide +kernel
def f_H_chronograph_L42 (S : List xSh) (Rf : Nat → Nat → Option Nat) (l1 : Int32) (I : (Nat → Nat → Int32)) (L : (Nat → Nat → Int64)) : Option (Int32 × (Nat → Nat → Int32) × (Nat → Nat → Int64)) := (some ((-3 : Int32), I, L))
set_option maxRecDepth 100000 in
set_option maxHeartbeats 4000000 in
theorem x_H_chronograph_L42 {G : xG} {S : List xSh} {Rf : Nat → Nat → Option Nat} (hT : xTH S Rf) {l1 : Int32} {I : Nat → Nat → Int32} {L : Nat → Nat → Int64} {q : (Int32 × (Nat → Nat → Int32) × (Nat → Nat → Int64))} (hf : f_H_chronograph_L42 S Rf l1 I L = some q) : X G 4 m_H_chronograph 42 [(0, .ref (xP G 0)), (1, .int l1)] [.null] (S, I, L, Rf) (some (.int q.1), (S, q.2.1, q.2.2, Rf)) := by
  replace hf := (f_H_chronograph_L42.eq_1 _ _ _ _ _).symm.trans hf
  refine X_astore_nN (pc := 42) (i := 2) [(2, .null), (0, .ref (xP G 0)), (1, .int l1)] dX11_chronograph_42 rfl (by decide) rfl ?_
  refine X_aload_nN (pc := 43) (i := 2) 0 dX11_chronograph_43 rfl rfl ?_
  refine X_ifnonnull_f (pc := 44) dX11_chronograph_44 ?_
  refine X_bipush (pc := 47) (-3 : Int32) dX11_chronograph_47 (by decide) ?_
  cases hf
  exact X_ireturn (pc := 49) rfl dX11_chronograph_49
theorem u_H_chronograph_L42 {S : List xSh} {Rf : Nat → Nat → Option Nat} {l1 : Int32} {I : Nat → Nat → Int32} {L : Nat → Nat → Int64} {q : (Int32 × (Nat → Nat → Int32) × (Nat → Nat → Int64))} (hf : f_H_chronograph_L42 S Rf l1 I L = some q) : FR S [1007] [] I q.2.1 L q.2.2 := by
  replace hf := (f_H_chronograph_L42.eq_1 _ _ _ _ _).symm.trans hf
  cases hf
  exact FR.rf
def f_H_chronograph_L42_2 (S : List xSh) (Rf : Nat → Nat → Option Nat) (l1 : Int32) (s0 : Nat) (I : (Nat → Nat → Int32)) (L : (Nat → Nat → Int64)) : Option (Int32 × (Nat → Nat → Int32) × (Nat → Nat → Int64)) := ((f_Cr_begin s0 l1 I L).bind fun q9 => (bnd ((q9.1 0 7) + (1 : Int32)) fun x11 => (some ((q9.1 0 7), (uI q9.1 0 7 x11), q9.2))))
set_option maxRecDepth 100000 in
set_option maxHeartbeats 4000000 in
theorem x_H_chronograph_L42_2 {G : xG} {S : List xSh} {Rf : Nat → Nat → Option Nat} (hT : xTH S Rf) {l1 : Int32} {s0 : Nat} {I : Nat → Nat → Int32} {L : Nat → Nat → Int64} {q : (Int32 × (Nat → Nat → Int32) × (Nat → Nat → Int64))} (hs0 : S[s0]? = some (.inl 3)) (hf : f_H_chronograph_L42_2 S Rf l1 s0 I L = some q) : X G 4 m_H_chronograph 42 [(0, .ref (xP G 0)), (1, .int l1)] [.ref (xP G s0)] (S, I, L, Rf) (some (.int q.1), (S, q.2.1, q.2.2, Rf)) := by
  replace hf := (f_H_chronograph_L42_2.eq_1 _ _ _ _ _ _).symm.trans hf
  refine X_astore_n (pc := 42) (i := 2) [(2, .ref (xP G s0)), (0, .ref (xP G 0)), (1, .int l1)] dX11_chronograph_42 rfl (by decide) rfl ?_
  refine X_aload_n (pc := 43) (i := 2) 0 dX11_chronograph_43 rfl rfl ?_
  refine X_ifnonnull_t (pc := 44) 50 dX11_chronograph_44 (by decide) ?_
  refine X_aload_n (pc := 50) (i := 2) 0 dX11_chronograph_50 rfl rfl ?_
  refine X_iload_n (pc := 51) (i := 1) 2 dX11_chronograph_51 rfl rfl ?_
  obtain ⟨q9, c10, hf⟩ := bd_some hf
  refine X_invV_v (pc := 52) (c_Cr_begin hT hs0 c10) ok_Cr_begin (ci := 3) hs0 k_694 k_695 k_696 nd_13 (by decide) rfl (Nat.le_of_ble_eq_true rfl) dX11_chronograph_52 ?_
  refine X_aload_n (pc := 55) (i := 0) 1 dX11_chronograph_55 rfl rfl ?_
  refine X_dup (pc := 56) dX11_chronograph_56 rfl ?_
  refine X_get (pc := 57) (a := 0) (ci := 10) (j := 10) (.int (q9.1 0 7)) (sh_0 hT) (by decide) k_504 rfl dX11_chronograph_57 ?_
  refine X_dup_x1 (pc := 60) dX11_chronograph_60 rfl rfl ?_
  refine X_iconst (pc := 61) (1 : Int32) dX11_chronograph_61 (by decide) ?_
  refine X_iadd (pc := 62) dX11_chronograph_62 ?_
  obtain ⟨x11, ex11, hf⟩ := bnd_e hf
  refine X_tope ex11 ?_
  refine X_puti (pc := 63) (a := 0) (ci := 10) (j := 10) 7 rfl false (sh_0 hT) (by decide) k_504 rfl (fun h => by cases h) rfl dX11_chronograph_63 ?_
  cases hf
  exact X_ireturn (pc := 66) rfl dX11_chronograph_66
theorem u_H_chronograph_L42_2 {S : List xSh} {Rf : Nat → Nat → Option Nat} {l1 : Int32} {s0 : Nat} {I : Nat → Nat → Int32} {L : Nat → Nat → Int64} {q : (Int32 × (Nat → Nat → Int32) × (Nat → Nat → Int64))} (hs0 : S[s0]? = some (.inl 3)) (hf : f_H_chronograph_L42_2 S Rf l1 s0 I L = some q) : FR S [1007] [] I q.2.1 L q.2.2 := by
  replace hf := (f_H_chronograph_L42_2.eq_1 _ _ _ _ _ _).symm.trans hf
  obtain ⟨q9, c10, hf⟩ := bd_some hf
  obtain ⟨x11, ex11, hf⟩ := bnd_e hf
  cases hf
  exact (FR.fi (FR.tr FR.rf (u_Cr_begin hs0 (q := q9) c10) (by decide) (by decide)) (by decide))
def f_H_chronograph (S : List xSh) (Rf : Nat → Nat → Option Nat) (a0 : Int32) (I : Nat → Nat → Int32) (L : Nat → Nat → Int64) : Option (Int32 × (Nat → Nat → Int32) × (Nat → Nat → Int64)) := (bnd (f_H_isWithin a0 (0 : Int32) (2 : Int32)) fun x1 => (if x1 = (0 : Int32) then (some ((-1 : Int32), I, L)) else (if (I 0 8) = (0 : Int32) then (if (4 : Int32) ≤ (I 0 7) then (f_H_chronograph_L42 S Rf a0 I L) else (if (0 ≤ (I 0 7) ∧ (I 0 7) < (4 : Int32)) then (oc (Rf 12 ((I 0 7).toNatClampNeg)) (f_H_chronograph_L42 S Rf a0 I L) fun w6 => (if S[w6]? = some (.inl 3) then (f_H_chronograph_L42_2 S Rf a0 w6 I L) else none)) else none)) else (some ((-2 : Int32), I, L)))))
set_option maxRecDepth 100000 in
set_option maxHeartbeats 4000000 in
theorem c_H_chronograph {G : xG} {S : List xSh} {Rf : Nat → Nat → Option Nat} (hT : xTH S Rf) {a0 : Int32} {I : Nat → Nat → Int32} {L : Nat → Nat → Int64} {q : (Int32 × (Nat → Nat → Int32) × (Nat → Nat → Int64))} (hf : f_H_chronograph S Rf a0 I L = some q) : CT G 4 m_H_chronograph [.ref (xP G 0), .int a0] (S, I, L, Rf) (some (.int q.1), (S, q.2.1, q.2.2, Rf)) := by
  refine CT.of (by decide +kernel) (Nat.le_of_ble_eq_true rfl) ?_
  show X G 4 m_H_chronograph 0 [(0, .ref (xP G 0)), (1, .int a0)] [] (S, I, L, Rf) (some (.int q.1), (S, q.2.1, q.2.2, Rf))
  replace hf := (f_H_chronograph.eq_1 _ _ _ _ _).symm.trans hf
  refine X_iload_n (pc := 0) (i := 1) 1 dX11_chronograph_0 rfl rfl ?_
  refine X_iconst (pc := 1) (0 : Int32) dX11_chronograph_1 (by decide) ?_
  refine X_iconst (pc := 2) (2 : Int32) dX11_chronograph_2 (by decide) ?_
  refine X_invS_i (pc := 3) (c_H_isWithin hT rfl) ok_H_isWithin k_563 k_564 nd_6 (by decide) rfl (Nat.le_of_ble_eq_true rfl) dX11_chronograph_3 ?_
  obtain ⟨x1, ex1, hf⟩ := bnd_e hf
  refine X_tope ex1 ?_
  by_cases c2 : x1 = (0 : Int32)
  · replace hf := (if_pos c2).symm.trans hf
    refine X_if_ne_f (pc := 6) 11 dX11_chronograph_6 (by decide) c2 ?_
    refine X_iconst (pc := 9) (-1 : Int32) dX11_chronograph_9 (by decide) ?_
    cases hf
    exact X_ireturn (pc := 10) rfl dX11_chronograph_10
  · replace hf := (if_neg c2).symm.trans hf
    refine X_if_ne_t (pc := 6) 11 dX11_chronograph_6 (by decide) c2 ?_
    refine X_aload_n (pc := 11) (i := 0) 0 dX11_chronograph_11 rfl rfl ?_
    refine X_get (pc := 12) (a := 0) (ci := 10) (j := 11) (.int (I 0 8)) (sh_0 hT) (by decide) k_505 rfl dX11_chronograph_12 ?_
    by_cases c3 : (I 0 8) = (0 : Int32)
    · replace hf := (if_pos c3).symm.trans hf
      refine X_if_eq_t (pc := 15) 21 dX11_chronograph_15 (by decide) c3 ?_
      refine X_aload_n (pc := 21) (i := 0) 0 dX11_chronograph_21 rfl rfl ?_
      refine X_get (pc := 22) (a := 0) (ci := 10) (j := 10) (.int (I 0 7)) (sh_0 hT) (by decide) k_504 rfl dX11_chronograph_22 ?_
      refine X_iconst (pc := 25) (4 : Int32) dX11_chronograph_25 (by decide) ?_
      by_cases c4 : (4 : Int32) ≤ (I 0 7)
      · replace hf := (if_pos c4).symm.trans hf
        refine X_icmp_ge_t (pc := 26) 41 dX11_chronograph_26 (by decide) c4 ?_
        refine X_null (pc := 41) dX11_chronograph_41 ?_
        exact X_lvs [0, 1] rfl (x_H_chronograph_L42 hT hf)
      · replace hf := (if_neg c4).symm.trans hf
        refine X_icmp_ge_f (pc := 26) 41 dX11_chronograph_26 (by decide) c4 ?_
        refine X_aload_n (pc := 29) (i := 0) 0 dX11_chronograph_29 rfl rfl ?_
        refine X_getr (pc := 30) (a := 0) (ci := 10) (j := 6) (c := 12) (sh_0 hT) (by decide) k_500 (rf_0_3 hT) (fun _ h => h) dX11_chronograph_30 ?_
        refine X_aload_n (pc := 33) (i := 0) 0 dX11_chronograph_33 rfl rfl ?_
        refine X_get (pc := 34) (a := 0) (ci := 10) (j := 10) (.int (I 0 7)) (sh_0 hT) (by decide) k_504 rfl dX11_chronograph_34 ?_
        obtain ⟨c5, hf⟩ := gd_some hf
        rcases oc_cases hf with ⟨hr7, hf⟩ | ⟨w6, hr7, hf⟩
        · refine X_aaldN (pc := 37) (by decide) (sh_12 hT) (vp_in_lit (N := 4) c5 (by decide)) hr7 dX11_chronograph_37 ?_
          refine X_goto (pc := 38) 42 dX11_chronograph_38 (by decide) ?_
          exact X_lvs [0, 1] rfl (x_H_chronograph_L42 hT hf)
        · obtain ⟨hs8, hf⟩ := gd_some hf
          refine X_aaldS (pc := 37) (by decide) (sh_12 hT) (vp_in_lit (N := 4) c5 (by decide)) hr7 dX11_chronograph_37 ?_
          refine X_goto (pc := 38) 42 dX11_chronograph_38 (by decide) ?_
          exact X_lvs [0, 1] rfl (x_H_chronograph_L42_2 hT hs8 hf)
    · replace hf := (if_neg c3).symm.trans hf
      refine X_if_eq_f (pc := 15) 21 dX11_chronograph_15 (by decide) c3 ?_
      refine X_bipush (pc := 18) (-2 : Int32) dX11_chronograph_18 (by decide) ?_
      cases hf
      exact X_ireturn (pc := 20) rfl dX11_chronograph_20
theorem u_H_chronograph {S : List xSh} {Rf : Nat → Nat → Option Nat} {a0 : Int32} {I : Nat → Nat → Int32} {L : Nat → Nat → Int64} {q : (Int32 × (Nat → Nat → Int32) × (Nat → Nat → Int64))} (hf : f_H_chronograph S Rf a0 I L = some q) : FR S [1007] [] I q.2.1 L q.2.2 := by
  replace hf := (f_H_chronograph.eq_1 _ _ _ _ _).symm.trans hf
  obtain ⟨x1, ex1, hf⟩ := bnd_e hf
  by_cases c2 : x1 = (0 : Int32)
  · replace hf := (if_pos c2).symm.trans hf
    cases hf
    exact FR.rf
  · replace hf := (if_neg c2).symm.trans hf
    by_cases c3 : (I 0 8) = (0 : Int32)
    · replace hf := (if_pos c3).symm.trans hf
      by_cases c4 : (4 : Int32) ≤ (I 0 7)
      · replace hf := (if_pos c4).symm.trans hf
        exact FR.tr FR.rf (u_H_chronograph_L42 hf) (by decide) (by decide)
      · replace hf := (if_neg c4).symm.trans hf
        obtain ⟨c5, hf⟩ := gd_some hf
        rcases oc_cases hf with ⟨hr7, hf⟩ | ⟨w6, hr7, hf⟩
        · exact FR.tr FR.rf (u_H_chronograph_L42 hf) (by decide) (by decide)
        · obtain ⟨hs8, hf⟩ := gd_some hf
          exact FR.tr FR.rf (u_H_chronograph_L42_2 hs8 hf) (by decide) (by decide)
    · replace hf := (if_neg c3).symm.trans hf
      cases hf
      exact FR.rf
theorem dX6_isKnown_0 : decode cX6_isKnown 0 = .ok (.aload_n 0, 1) := by decide +kernel
theorem dX6_isKnown_1 : decode cX6_isKnown 1 = .ok (.iload_n 1, 1) := by decide +kernel
theorem dX6_isKnown_2 : decode cX6_isKnown 2 = .ok (.invokevirtual 48, 3) := by decide +kernel
theorem dX6_isKnown_5 : decode cX6_isKnown 5 = .ok (.ifCond .eq 18, 3) := by decide +kernel
theorem dX6_isKnown_8 : decode cX6_isKnown 8 = .ok (.aload_n 0, 1) := by decide +kernel
theorem dX6_isKnown_9 : decode cX6_isKnown 9 = .ok (.getfield 15, 3) := by decide +kernel
theorem dX6_isKnown_12 : decode cX6_isKnown 12 = .ok (.iload_n 1, 1) := by decide +kernel
theorem dX6_isKnown_13 : decode cX6_isKnown 13 = .ok (.laload, 1) := by decide +kernel
theorem dX6_isKnown_14 : decode cX6_isKnown 14 = .ok (.lconst 0, 1) := by decide +kernel
theorem dX6_isKnown_15 : decode cX6_isKnown 15 = .ok (.lcmp, 1) := by decide +kernel
theorem dX6_isKnown_16 : decode cX6_isKnown 16 = .ok (.ifCond .le 7, 3) := by decide +kernel
theorem dX6_isKnown_19 : decode cX6_isKnown 19 = .ok (.iconst 1, 1) := by decide +kernel
theorem dX6_isKnown_20 : decode cX6_isKnown 20 = .ok (.goto 4, 3) := by decide +kernel
theorem dX6_isKnown_23 : decode cX6_isKnown 23 = .ok (.iconst 0, 1) := by decide +kernel
theorem dX6_isKnown_24 : decode cX6_isKnown 24 = .ok (.ireturn, 1) := by decide +kernel
def f_Ge_isKnown (a0 : Int32) (I : Nat → Nat → Int32) (L : Nat → Nat → Int64) : Option Int32 := (if (f_Ge_hasArbor a0 I L) = (0 : Int32) then (some (0 : Int32)) else (if (0 ≤ a0 ∧ a0 < (24 : Int32)) then (if (L 4 (a0.toNatClampNeg)) ≤ (0 : Int64) then (some (0 : Int32)) else (some (1 : Int32))) else none))
set_option maxRecDepth 100000 in
set_option maxHeartbeats 4000000 in
theorem c_Ge_isKnown {G : xG} {S : List xSh} {Rf : Nat → Nat → Option Nat} (hT : xTH S Rf) {a0 : Int32} {I : Nat → Nat → Int32} {L : Nat → Nat → Int64} {q : Int32} (hf : f_Ge_isKnown a0 I L = some q) : CT G 2 m_Ge_isKnown [.ref (xP G 2), .int a0] (S, I, L, Rf) (some (.int q), (S, I, L, Rf)) := by
  refine CT.of (by decide +kernel) (Nat.le_of_ble_eq_true rfl) ?_
  show X G 2 m_Ge_isKnown 0 [(0, .ref (xP G 2)), (1, .int a0)] [] (S, I, L, Rf) (some (.int q), (S, I, L, Rf))
  replace hf := (f_Ge_isKnown.eq_1 _ _ _).symm.trans hf
  refine X_aload_n (pc := 0) (i := 0) 0 dX6_isKnown_0 rfl rfl ?_
  refine X_iload_n (pc := 1) (i := 1) 1 dX6_isKnown_1 rfl rfl ?_
  refine X_invV_i (pc := 2) (c_Ge_hasArbor hT rfl) ok_Ge_hasArbor (ci := 6) (sh_2 hT) k_578 k_560 k_561 nd_5 (by decide) rfl (Nat.le_of_ble_eq_true rfl) dX6_isKnown_2 ?_
  by_cases c1 : (f_Ge_hasArbor a0 I L) = (0 : Int32)
  · replace hf := (if_pos c1).symm.trans hf
    refine X_if_eq_t (pc := 5) 23 dX6_isKnown_5 (by decide) c1 ?_
    refine X_iconst (pc := 23) (0 : Int32) dX6_isKnown_23 (by decide) ?_
    cases hf
    exact X_zreturn (pc := 24) rfl (nar_b (by decide)) dX6_isKnown_24
  · replace hf := (if_neg c1).symm.trans hf
    refine X_if_eq_f (pc := 5) 23 dX6_isKnown_5 (by decide) c1 ?_
    refine X_aload_n (pc := 8) (i := 0) 0 dX6_isKnown_8 rfl rfl ?_
    refine X_getr (pc := 9) (a := 2) (ci := 6) (j := 6) (c := 4) (sh_2 hT) (by decide) k_118 (rf_2_6 hT) (fun _ h => h) dX6_isKnown_9 ?_
    refine X_iload_n (pc := 12) (i := 1) 1 dX6_isKnown_12 rfl rfl ?_
    obtain ⟨c2, hf⟩ := gd_some hf
    refine X_laldj (pc := 13) (j := a0.toNatClampNeg) (L 4 (a0.toNatClampNeg)) (sh_4 hT) (vp_in_lit (N := 24) c2 (by decide)) rfl rfl dX6_isKnown_13 ?_
    refine X_lconst (pc := 14) (0 : Int64) dX6_isKnown_14 (by decide) ?_
    refine X_lcmp (pc := 15) dX6_isKnown_15 ?_
    by_cases c3 : (L 4 (a0.toNatClampNeg)) ≤ (0 : Int64)
    · replace hf := (if_pos c3).symm.trans hf
      refine X_if_le_t (pc := 16) 23 dX6_isKnown_16 (by decide) ((lg_cmp_le _ _).mpr c3) ?_
      refine X_iconst (pc := 23) (0 : Int32) dX6_isKnown_23 (by decide) ?_
      cases hf
      exact X_zreturn (pc := 24) rfl (nar_b (by decide)) dX6_isKnown_24
    · replace hf := (if_neg c3).symm.trans hf
      refine X_if_le_f (pc := 16) 23 dX6_isKnown_16 (by decide) (fun h => c3 ((lg_cmp_le _ _).mp h)) ?_
      refine X_iconst (pc := 19) (1 : Int32) dX6_isKnown_19 (by decide) ?_
      refine X_goto (pc := 20) 24 dX6_isKnown_20 (by decide) ?_
      cases hf
      exact X_zreturn (pc := 24) rfl (nar_b (by decide)) dX6_isKnown_24
theorem dX6_countKnown_0 : decode cX6_countKnown 0 = .ok (.iconst 0, 1) := by decide +kernel
theorem dX6_countKnown_1 : decode cX6_countKnown 1 = .ok (.istore_n 1, 1) := by decide +kernel
theorem dX6_countKnown_2 : decode cX6_countKnown 2 = .ok (.iconst 0, 1) := by decide +kernel
theorem dX6_countKnown_3 : decode cX6_countKnown 3 = .ok (.istore_n 2, 1) := by decide +kernel
theorem dX6_countKnown_4 : decode cX6_countKnown 4 = .ok (.iload_n 2, 1) := by decide +kernel
theorem dX6_countKnown_5 : decode cX6_countKnown 5 = .ok (.aload_n 0, 1) := by decide +kernel
theorem dX6_countKnown_6 : decode cX6_countKnown 6 = .ok (.getfield 28, 3) := by decide +kernel
theorem dX6_countKnown_9 : decode cX6_countKnown 9 = .ok (.if_icmp .ge 20, 3) := by decide +kernel
theorem dX6_countKnown_12 : decode cX6_countKnown 12 = .ok (.aload_n 0, 1) := by decide +kernel
theorem dX6_countKnown_13 : decode cX6_countKnown 13 = .ok (.iload_n 2, 1) := by decide +kernel
theorem dX6_countKnown_14 : decode cX6_countKnown 14 = .ok (.invokevirtual 59, 3) := by decide +kernel
theorem dX6_countKnown_17 : decode cX6_countKnown 17 = .ok (.ifCond .eq 6, 3) := by decide +kernel
theorem dX6_countKnown_20 : decode cX6_countKnown 20 = .ok (.iinc 1 1, 3) := by decide +kernel
theorem dX6_countKnown_23 : decode cX6_countKnown 23 = .ok (.iinc 2 1, 3) := by decide +kernel
theorem dX6_countKnown_26 : decode cX6_countKnown 26 = .ok (.goto (-22), 3) := by decide +kernel
theorem dX6_countKnown_29 : decode cX6_countKnown 29 = .ok (.iload_n 1, 1) := by decide +kernel
theorem dX6_countKnown_30 : decode cX6_countKnown 30 = .ok (.ireturn, 1) := by decide +kernel
def f_Ge_countKnown_L4 : Nat → Int32 → Int32 → (Nat → Nat → Int32) → (Nat → Nat → Int64) → Option Int32
  | 0, _, _, _, _ => none
  | n + 1, l1, l2, I, L => (if (I 2 0) ≤ l2 then (some l1) else ((f_Ge_isKnown l2 I L).bind fun q2 => (if q2 = (0 : Int32) then (f_Ge_countKnown_L4 n l1 (l2 + (1 : Int32)) I L) else (f_Ge_countKnown_L4 n (l1 + (1 : Int32)) (l2 + (1 : Int32)) I L))))
set_option maxRecDepth 100000 in
set_option maxHeartbeats 4000000 in
theorem x_Ge_countKnown_L4 {G : xG} {S : List xSh} {Rf : Nat → Nat → Option Nat} (hT : xTH S Rf) : ∀ (n : Nat) {l1 : Int32} {l2 : Int32} {I : Nat → Nat → Int32} {L : Nat → Nat → Int64} {q : Int32}, f_Ge_countKnown_L4 n l1 l2 I L = some q → X G 3 m_Ge_countKnown 4 [(0, .ref (xP G 2)), (1, .int l1), (2, .int l2)] [] (S, I, L, Rf) (some (.int q), (S, I, L, Rf)) := by
  intro n
  induction n with
  | zero =>
    intro l1 l2 I L q hf
    exact absurd (show none = some q from hf) (by simp)
  | succ n ih =>
    intro l1 l2 I L q hf
    replace hf := (f_Ge_countKnown_L4.eq_2 _ _ _ _ _).symm.trans hf
    refine X_iload_n (pc := 4) (i := 2) 2 dX6_countKnown_4 rfl rfl ?_
    refine X_aload_n (pc := 5) (i := 0) 0 dX6_countKnown_5 rfl rfl ?_
    refine X_get (pc := 6) (a := 2) (ci := 6) (j := 0) (.int (I 2 0)) (sh_2 hT) (by decide) k_107 rfl dX6_countKnown_6 ?_
    by_cases c1 : (I 2 0) ≤ l2
    · replace hf := (if_pos c1).symm.trans hf
      refine X_icmp_ge_t (pc := 9) 29 dX6_countKnown_9 (by decide) c1 ?_
      refine X_iload_n (pc := 29) (i := 1) 1 dX6_countKnown_29 rfl rfl ?_
      cases hf
      exact X_ireturn (pc := 30) rfl dX6_countKnown_30
    · replace hf := (if_neg c1).symm.trans hf
      refine X_icmp_ge_f (pc := 9) 29 dX6_countKnown_9 (by decide) c1 ?_
      refine X_aload_n (pc := 12) (i := 0) 0 dX6_countKnown_12 rfl rfl ?_
      refine X_iload_n (pc := 13) (i := 2) 2 dX6_countKnown_13 rfl rfl ?_
      obtain ⟨q2, c3, hf⟩ := bd_some hf
      refine X_invV_i (pc := 14) (c_Ge_isKnown hT c3) ok_Ge_isKnown (ci := 6) (sh_2 hT) k_714 k_715 k_716 nd_5 (by decide) rfl (Nat.le_of_ble_eq_true rfl) dX6_countKnown_14 ?_
      by_cases c4 : q2 = (0 : Int32)
      · replace hf := (if_pos c4).symm.trans hf
        refine X_if_eq_t (pc := 17) 23 dX6_countKnown_17 (by decide) c4 ?_
        refine X_iinc (pc := 23) (i := 2) (q := 2) (v := (l2 + (1 : Int32))) [(2, .int (l2 + (1 : Int32))), (0, .ref (xP G 2)), (1, .int l1)] dX6_countKnown_23 rfl rfl (by decide) rfl ?_
        refine X_goto (pc := 26) 4 dX6_countKnown_26 (by decide) ?_
        exact X_lvs [1, 2, 0] rfl (ih hf)
      · replace hf := (if_neg c4).symm.trans hf
        refine X_if_eq_f (pc := 17) 23 dX6_countKnown_17 (by decide) c4 ?_
        refine X_iinc (pc := 20) (i := 1) (q := 1) (v := (l1 + (1 : Int32))) [(1, .int (l1 + (1 : Int32))), (0, .ref (xP G 2)), (2, .int l2)] dX6_countKnown_20 rfl rfl (by decide) rfl ?_
        refine X_iinc (pc := 23) (i := 2) (q := 2) (v := (l2 + (1 : Int32))) [(2, .int (l2 + (1 : Int32))), (1, .int (l1 + (1 : Int32))), (0, .ref (xP G 2))] dX6_countKnown_23 rfl rfl (by decide) rfl ?_
        refine X_goto (pc := 26) 4 dX6_countKnown_26 (by decide) ?_
        exact X_lvs [2, 1, 0] rfl (ih hf)
def f_Ge_countKnown (I : Nat → Nat → Int32) (L : Nat → Nat → Int64) : Option Int32 := (f_Ge_countKnown_L4 xF (0 : Int32) (0 : Int32) I L)
set_option maxRecDepth 100000 in
set_option maxHeartbeats 4000000 in
theorem c_Ge_countKnown {G : xG} {S : List xSh} {Rf : Nat → Nat → Option Nat} (hT : xTH S Rf) {I : Nat → Nat → Int32} {L : Nat → Nat → Int64} {q : Int32} (hf : f_Ge_countKnown I L = some q) : CT G 3 m_Ge_countKnown [.ref (xP G 2)] (S, I, L, Rf) (some (.int q), (S, I, L, Rf)) := by
  refine CT.of (by decide +kernel) (Nat.le_of_ble_eq_true rfl) ?_
  show X G 3 m_Ge_countKnown 0 [(0, .ref (xP G 2))] [] (S, I, L, Rf) (some (.int q), (S, I, L, Rf))
  replace hf := (f_Ge_countKnown.eq_1 _ _).symm.trans hf
  refine X_iconst (pc := 0) (0 : Int32) dX6_countKnown_0 (by decide) ?_
  refine X_istore_n (pc := 1) (i := 1) [(1, .int (0 : Int32)), (0, .ref (xP G 2))] dX6_countKnown_1 rfl (by decide) rfl ?_
  refine X_iconst (pc := 2) (0 : Int32) dX6_countKnown_2 (by decide) ?_
  refine X_istore_n (pc := 3) (i := 2) [(2, .int (0 : Int32)), (1, .int (0 : Int32)), (0, .ref (xP G 2))] dX6_countKnown_3 rfl (by decide) rfl ?_
  exact X_lvs [2, 1, 0] rfl (x_Ge_countKnown_L4 hT xF hf)
theorem dX11_go_0 : decode cX11_go 0 = .ok (.aload_n 0, 1) := by decide +kernel
theorem dX11_go_1 : decode cX11_go 1 = .ok (.getfield 99, 3) := by decide +kernel
theorem dX11_go_4 : decode cX11_go 4 = .ok (.ifCond .ne 24, 3) := by decide +kernel
theorem dX11_go_7 : decode cX11_go 7 = .ok (.aload_n 0, 1) := by decide +kernel
theorem dX11_go_8 : decode cX11_go 8 = .ok (.getfield 20, 3) := by decide +kernel
theorem dX11_go_11 : decode cX11_go 11 = .ok (.getfield 158, 3) := by decide +kernel
theorem dX11_go_14 : decode cX11_go 14 = .ok (.iconst (-1), 1) := by decide +kernel
theorem dX11_go_15 : decode cX11_go 15 = .ok (.if_icmp .eq 13, 3) := by decide +kernel
theorem dX11_go_18 : decode cX11_go 18 = .ok (.aload_n 0, 1) := by decide +kernel
theorem dX11_go_19 : decode cX11_go 19 = .ok (.getfield 20, 3) := by decide +kernel
theorem dX11_go_22 : decode cX11_go 22 = .ok (.getfield 161, 3) := by decide +kernel
theorem dX11_go_25 : decode cX11_go 25 = .ok (.ifCond .eq 6, 3) := by decide +kernel
theorem dX11_go_28 : decode cX11_go 28 = .ok (.bipush (-2), 2) := by decide +kernel
theorem dX11_go_30 : decode cX11_go 30 = .ok (.ireturn, 1) := by decide +kernel
theorem dX11_go_31 : decode cX11_go 31 = .ok (.aload_n 0, 1) := by decide +kernel
theorem dX11_go_32 : decode cX11_go 32 = .ok (.iconst 1, 1) := by decide +kernel
theorem dX11_go_33 : decode cX11_go 33 = .ok (.putfield 99, 3) := by decide +kernel
theorem dX11_go_36 : decode cX11_go 36 = .ok (.aload_n 0, 1) := by decide +kernel
theorem dX11_go_37 : decode cX11_go 37 = .ok (.getfield 20, 3) := by decide +kernel
theorem dX11_go_40 : decode cX11_go 40 = .ok (.invokevirtual 164, 3) := by decide +kernel
theorem dX11_go_43 : decode cX11_go 43 = .ok (.ireturn, 1) := by decide +kernel
def f_H_go (I : Nat → Nat → Int32) (L : Nat → Nat → Int64) : Option (Int32 × (Nat → Nat → Int32) × (Nat → Nat → Int64)) := (if (I 0 8) = (0 : Int32) then (if (I 2 2) = (-1 : Int32) then (some ((-2 : Int32), I, L)) else (if (I 2 4) = (0 : Int32) then ((f_Ge_countKnown (uI I 0 8 (1 : Int32)) L).bind fun q4 => (some (q4, (uI I 0 8 (1 : Int32)), L))) else (some ((-2 : Int32), I, L)))) else (some ((-2 : Int32), I, L)))
set_option maxRecDepth 100000 in
set_option maxHeartbeats 4000000 in
theorem c_H_go {G : xG} {S : List xSh} {Rf : Nat → Nat → Option Nat} (hT : xTH S Rf) {I : Nat → Nat → Int32} {L : Nat → Nat → Int64} {q : (Int32 × (Nat → Nat → Int32) × (Nat → Nat → Int64))} (hf : f_H_go I L = some q) : CT G 4 m_H_go [.ref (xP G 0)] (S, I, L, Rf) (some (.int q.1), (S, q.2.1, q.2.2, Rf)) := by
  refine CT.of (by decide +kernel) (Nat.le_of_ble_eq_true rfl) ?_
  show X G 4 m_H_go 0 [(0, .ref (xP G 0))] [] (S, I, L, Rf) (some (.int q.1), (S, q.2.1, q.2.2, Rf))
  replace hf := (f_H_go.eq_1 _ _).symm.trans hf
  refine X_aload_n (pc := 0) (i := 0) 0 dX11_go_0 rfl rfl ?_
  refine X_get (pc := 1) (a := 0) (ci := 10) (j := 11) (.int (I 0 8)) (sh_0 hT) (by decide) k_505 rfl dX11_go_1 ?_
  by_cases c1 : (I 0 8) = (0 : Int32)
  · replace hf := (if_pos c1).symm.trans hf
    refine X_if_ne_f (pc := 4) 28 dX11_go_4 (by decide) c1 ?_
    refine X_aload_n (pc := 7) (i := 0) 0 dX11_go_7 rfl rfl ?_
    refine X_getr (pc := 8) (a := 0) (ci := 10) (j := 1) (c := 2) (sh_0 hT) (by decide) k_495 (rf_0_1 hT) (fun _ h => h) dX11_go_8 ?_
    refine X_get (pc := 11) (a := 2) (ci := 6) (j := 2) (.int (I 2 2)) (sh_2 hT) (by decide) k_112 rfl dX11_go_11 ?_
    refine X_iconst (pc := 14) (-1 : Int32) dX11_go_14 (by decide) ?_
    by_cases c2 : (I 2 2) = (-1 : Int32)
    · replace hf := (if_pos c2).symm.trans hf
      refine X_icmp_eq_t (pc := 15) 28 dX11_go_15 (by decide) c2 ?_
      refine X_bipush (pc := 28) (-2 : Int32) dX11_go_28 (by decide) ?_
      cases hf
      exact X_ireturn (pc := 30) rfl dX11_go_30
    · replace hf := (if_neg c2).symm.trans hf
      refine X_icmp_eq_f (pc := 15) 28 dX11_go_15 (by decide) c2 ?_
      refine X_aload_n (pc := 18) (i := 0) 0 dX11_go_18 rfl rfl ?_
      refine X_getr (pc := 19) (a := 0) (ci := 10) (j := 1) (c := 2) (sh_0 hT) (by decide) k_495 (rf_0_1 hT) (fun _ h => h) dX11_go_19 ?_
      refine X_get (pc := 22) (a := 2) (ci := 6) (j := 4) (.int (I 2 4)) (sh_2 hT) (by decide) k_115 rfl dX11_go_22 ?_
      by_cases c3 : (I 2 4) = (0 : Int32)
      · replace hf := (if_pos c3).symm.trans hf
        refine X_if_eq_t (pc := 25) 31 dX11_go_25 (by decide) c3 ?_
        refine X_aload_n (pc := 31) (i := 0) 0 dX11_go_31 rfl rfl ?_
        refine X_iconst (pc := 32) (1 : Int32) dX11_go_32 (by decide) ?_
        refine X_putz (pc := 33) (a := 0) (ci := 10) (j := 11) 8 rfl false (sh_0 hT) (by decide) k_505 rfl (fun h => by cases h) rfl (by decide) dX11_go_33 ?_
        refine X_aload_n (pc := 36) (i := 0) 0 dX11_go_36 rfl rfl ?_
        refine X_getr (pc := 37) (a := 0) (ci := 10) (j := 1) (c := 2) (sh_0 hT) (by decide) k_495 (rf_0_1 hT) (fun _ h => h) dX11_go_37 ?_
        obtain ⟨q4, c5, hf⟩ := bd_some hf
        refine X_invV_i (pc := 40) (c_Ge_countKnown hT c5) ok_Ge_countKnown (ci := 6) (sh_2 hT) k_710 k_711 k_712 nd_4 (by decide) rfl (Nat.le_of_ble_eq_true rfl) dX11_go_40 ?_
        cases hf
        exact X_ireturn (pc := 43) rfl dX11_go_43
      · replace hf := (if_neg c3).symm.trans hf
        refine X_if_eq_f (pc := 25) 31 dX11_go_25 (by decide) c3 ?_
        refine X_bipush (pc := 28) (-2 : Int32) dX11_go_28 (by decide) ?_
        cases hf
        exact X_ireturn (pc := 30) rfl dX11_go_30
  · replace hf := (if_neg c1).symm.trans hf
    refine X_if_ne_t (pc := 4) 28 dX11_go_4 (by decide) c1 ?_
    refine X_bipush (pc := 28) (-2 : Int32) dX11_go_28 (by decide) ?_
    cases hf
    exact X_ireturn (pc := 30) rfl dX11_go_30
theorem u_H_go {S : List xSh} {I : Nat → Nat → Int32} {L : Nat → Nat → Int64} {q : (Int32 × (Nat → Nat → Int32) × (Nat → Nat → Int64))} (hf : f_H_go I L = some q) : FR S [1008] [] I q.2.1 L q.2.2 := by
  replace hf := (f_H_go.eq_1 _ _).symm.trans hf
  by_cases c1 : (I 0 8) = (0 : Int32)
  · replace hf := (if_pos c1).symm.trans hf
    by_cases c2 : (I 2 2) = (-1 : Int32)
    · replace hf := (if_pos c2).symm.trans hf
      cases hf
      exact FR.rf
    · replace hf := (if_neg c2).symm.trans hf
      by_cases c3 : (I 2 4) = (0 : Int32)
      · replace hf := (if_pos c3).symm.trans hf
        obtain ⟨q4, c5, hf⟩ := bd_some hf
        cases hf
        exact (FR.fi FR.rf (by decide))
      · replace hf := (if_neg c3).symm.trans hf
        cases hf
        exact FR.rf
  · replace hf := (if_neg c1).symm.trans hf
    cases hf
    exact FR.rf
theorem dX7_open_0 : decode cX7_open 0 = .ok (.aload_n 0, 1) := by decide +kernel
theorem dX7_open_1 : decode cX7_open 1 = .ok (.dup, 1) := by decide +kernel
theorem dX7_open_2 : decode cX7_open 2 = .ok (.getfield 22, 3) := by decide +kernel
theorem dX7_open_5 : decode cX7_open 5 = .ok (.iconst 1, 1) := by decide +kernel
theorem dX7_open_6 : decode cX7_open 6 = .ok (.iadd, 1) := by decide +kernel
theorem dX7_open_7 : decode cX7_open 7 = .ok (.putfield 22, 3) := by decide +kernel
theorem dX7_open_10 : decode cX7_open 10 = .ok (.aload_n 0, 1) := by decide +kernel
theorem dX7_open_11 : decode cX7_open 11 = .ok (.getfield 22, 3) := by decide +kernel
theorem dX7_open_14 : decode cX7_open 14 = .ok (.aload_n 0, 1) := by decide +kernel
theorem dX7_open_15 : decode cX7_open 15 = .ok (.getfield 15, 3) := by decide +kernel
theorem dX7_open_18 : decode cX7_open 18 = .ok (.if_icmp .gt 12, 3) := by decide +kernel
theorem dX7_open_21 : decode cX7_open 21 = .ok (.aload_n 0, 1) := by decide +kernel
theorem dX7_open_22 : decode cX7_open 22 = .ok (.getfield 22, 3) := by decide +kernel
theorem dX7_open_25 : decode cX7_open 25 = .ok (.iconst 1, 1) := by decide +kernel
theorem dX7_open_26 : decode cX7_open 26 = .ok (.isub, 1) := by decide +kernel
theorem dX7_open_27 : decode cX7_open 27 = .ok (.goto 4, 3) := by decide +kernel
theorem dX7_open_30 : decode cX7_open 30 = .ok (.iconst (-1), 1) := by decide +kernel
theorem dX7_open_31 : decode cX7_open 31 = .ok (.ireturn, 1) := by decide +kernel
def f_Ro_open_15 (I : Nat → Nat → Int32) (L : Nat → Nat → Int64) : Option (Int32 × (Nat → Nat → Int32) × (Nat → Nat → Int64)) := (bnd ((I 15 3) + (1 : Int32)) fun x1 => (if (I 15 1) < x1 then (some ((-1 : Int32), (uI I 15 3 x1), L)) else (some ((x1 - (1 : Int32)), (uI I 15 3 x1), L))))
set_option maxRecDepth 100000 in
set_option maxHeartbeats 4000000 in
theorem c_Ro_open_15 {G : xG} {S : List xSh} {Rf : Nat → Nat → Option Nat} (hT : xTH S Rf) {I : Nat → Nat → Int32} {L : Nat → Nat → Int64} {q : (Int32 × (Nat → Nat → Int32) × (Nat → Nat → Int64))} (hf : f_Ro_open_15 I L = some q) : CT G 1 m_Ro_open [.ref (xP G 15)] (S, I, L, Rf) (some (.int q.1), (S, q.2.1, q.2.2, Rf)) := by
  refine CT.of (by decide +kernel) (Nat.le_of_ble_eq_true rfl) ?_
  show X G 1 m_Ro_open 0 [(0, .ref (xP G 15))] [] (S, I, L, Rf) (some (.int q.1), (S, q.2.1, q.2.2, Rf))
  replace hf := (f_Ro_open_15.eq_1 _ _).symm.trans hf
  refine X_aload_n (pc := 0) (i := 0) 0 dX7_open_0 rfl rfl ?_
  refine X_dup (pc := 1) dX7_open_1 rfl ?_
  refine X_get (pc := 2) (a := 15) (ci := 7) (j := 3) (.int (I 15 3)) (sh_15 hT) (by decide) k_161 rfl dX7_open_2 ?_
  refine X_iconst (pc := 5) (1 : Int32) dX7_open_5 (by decide) ?_
  refine X_iadd (pc := 6) dX7_open_6 ?_
  obtain ⟨x1, ex1, hf⟩ := bnd_e hf
  refine X_tope ex1 ?_
  refine X_puti (pc := 7) (a := 15) (ci := 7) (j := 3) 3 rfl false (sh_15 hT) (by decide) k_161 rfl (fun h => by cases h) rfl dX7_open_7 ?_
  refine X_aload_n (pc := 10) (i := 0) 0 dX7_open_10 rfl rfl ?_
  refine X_get (pc := 11) (a := 15) (ci := 7) (j := 3) (.int x1) (sh_15 hT) (by decide) k_161 rfl dX7_open_11 ?_
  refine X_aload_n (pc := 14) (i := 0) 0 dX7_open_14 rfl rfl ?_
  refine X_get (pc := 15) (a := 15) (ci := 7) (j := 1) (.int (I 15 1)) (sh_15 hT) (by decide) k_159 rfl dX7_open_15 ?_
  by_cases c2 : (I 15 1) < x1
  · replace hf := (if_pos c2).symm.trans hf
    refine X_icmp_gt_t (pc := 18) 30 dX7_open_18 (by decide) c2 ?_
    refine X_iconst (pc := 30) (-1 : Int32) dX7_open_30 (by decide) ?_
    cases hf
    exact X_ireturn (pc := 31) rfl dX7_open_31
  · replace hf := (if_neg c2).symm.trans hf
    refine X_icmp_gt_f (pc := 18) 30 dX7_open_18 (by decide) c2 ?_
    refine X_aload_n (pc := 21) (i := 0) 0 dX7_open_21 rfl rfl ?_
    refine X_get (pc := 22) (a := 15) (ci := 7) (j := 3) (.int x1) (sh_15 hT) (by decide) k_161 rfl dX7_open_22 ?_
    refine X_iconst (pc := 25) (1 : Int32) dX7_open_25 (by decide) ?_
    refine X_isub (pc := 26) dX7_open_26 ?_
    refine X_goto (pc := 27) 31 dX7_open_27 (by decide) ?_
    cases hf
    exact X_ireturn (pc := 31) rfl dX7_open_31
theorem u_Ro_open_15 {S : List xSh} {I : Nat → Nat → Int32} {L : Nat → Nat → Int64} {q : (Int32 × (Nat → Nat → Int32) × (Nat → Nat → Int64))} (hf : f_Ro_open_15 I L = some q) : FR S [2503] [] I q.2.1 L q.2.2 := by
  replace hf := (f_Ro_open_15.eq_1 _ _).symm.trans hf
  obtain ⟨x1, ex1, hf⟩ := bnd_e hf
  by_cases c2 : (I 15 1) < x1
  · replace hf := (if_pos c2).symm.trans hf
    cases hf
    exact (FR.fi FR.rf (by decide))
  · replace hf := (if_neg c2).symm.trans hf
    cases hf
    exact (FR.fi FR.rf (by decide))
theorem dX7_write_0 : decode cX7_write 0 = .ok (.iload_n 1, 1) := by decide +kernel
theorem dX7_write_1 : decode cX7_write 1 = .ok (.aload_n 0, 1) := by decide +kernel
theorem dX7_write_2 : decode cX7_write 2 = .ok (.getfield 9, 3) := by decide +kernel
theorem dX7_write_5 : decode cX7_write 5 = .ok (.imul, 1) := by decide +kernel
theorem dX7_write_6 : decode cX7_write 6 = .ok (.iload_n 2, 1) := by decide +kernel
theorem dX7_write_7 : decode cX7_write 7 = .ok (.iadd, 1) := by decide +kernel
theorem dX7_write_8 : decode cX7_write 8 = .ok (.istore 4, 2) := by decide +kernel
theorem dX7_write_10 : decode cX7_write 10 = .ok (.iload_n 1, 1) := by decide +kernel
theorem dX7_write_11 : decode cX7_write 11 = .ok (.ifCond .lt 33, 3) := by decide +kernel
theorem dX7_write_14 : decode cX7_write 14 = .ok (.iload_n 2, 1) := by decide +kernel
theorem dX7_write_15 : decode cX7_write 15 = .ok (.ifCond .lt 29, 3) := by decide +kernel
theorem dX7_write_18 : decode cX7_write 18 = .ok (.iload_n 2, 1) := by decide +kernel
theorem dX7_write_19 : decode cX7_write 19 = .ok (.aload_n 0, 1) := by decide +kernel
theorem dX7_write_20 : decode cX7_write 20 = .ok (.getfield 9, 3) := by decide +kernel
theorem dX7_write_23 : decode cX7_write 23 = .ok (.if_icmp .ge 21, 3) := by decide +kernel
theorem dX7_write_26 : decode cX7_write 26 = .ok (.iload 4, 2) := by decide +kernel
theorem dX7_write_28 : decode cX7_write 28 = .ok (.aload_n 0, 1) := by decide +kernel
theorem dX7_write_29 : decode cX7_write 29 = .ok (.getfield 18, 3) := by decide +kernel
theorem dX7_write_32 : decode cX7_write 32 = .ok (.arraylength, 1) := by decide +kernel
theorem dX7_write_33 : decode cX7_write 33 = .ok (.if_icmp .ge 11, 3) := by decide +kernel
theorem dX7_write_36 : decode cX7_write 36 = .ok (.aload_n 0, 1) := by decide +kernel
theorem dX7_write_37 : decode cX7_write 37 = .ok (.getfield 18, 3) := by decide +kernel
theorem dX7_write_40 : decode cX7_write 40 = .ok (.iload 4, 2) := by decide +kernel
theorem dX7_write_42 : decode cX7_write 42 = .ok (.iload_n 3, 1) := by decide +kernel
theorem dX7_write_43 : decode cX7_write 43 = .ok (.iastore, 1) := by decide +kernel
theorem dX7_write_44 : decode cX7_write 44 = .ok (.return_, 1) := by decide +kernel
def f_Ro_write_15 (a0 : Int32) (a1 : Int32) (a2 : Int32) (I : Nat → Nat → Int32) (L : Nat → Nat → Int64) : Option ((Nat → Nat → Int32) × (Nat → Nat → Int64)) := (bnd ((a0 * (I 15 0)) + a1) fun x1 => (if a0 < (0 : Int32) then (some (I, L)) else (if a1 < (0 : Int32) then (some (I, L)) else (if (I 15 0) ≤ a1 then (some (I, L)) else (if (8000 : Int32) ≤ x1 then (some (I, L)) else (if (0 ≤ x1 ∧ x1 < (8000 : Int32)) then (some ((uI I 16 (x1.toNatClampNeg) a2), L)) else none))))))
set_option maxRecDepth 100000 in
set_option maxHeartbeats 4000000 in
theorem c_Ro_write_15 {G : xG} {S : List xSh} {Rf : Nat → Nat → Option Nat} (hT : xTH S Rf) {a0 : Int32} {a1 : Int32} {a2 : Int32} {I : Nat → Nat → Int32} {L : Nat → Nat → Int64} {q : ((Nat → Nat → Int32) × (Nat → Nat → Int64))} (hf : f_Ro_write_15 a0 a1 a2 I L = some q) : CT G 1 m_Ro_write [.ref (xP G 15), .int a0, .int a1, .int a2] (S, I, L, Rf) (none, (S, q.1, q.2, Rf)) := by
  refine CT.of (by decide +kernel) (Nat.le_of_ble_eq_true rfl) ?_
  show X G 1 m_Ro_write 0 [(0, .ref (xP G 15)), (1, .int a0), (2, .int a1), (3, .int a2)] [] (S, I, L, Rf) (none, (S, q.1, q.2, Rf))
  replace hf := (f_Ro_write_15.eq_1 _ _ _ _ _).symm.trans hf
  refine X_iload_n (pc := 0) (i := 1) 1 dX7_write_0 rfl rfl ?_
  refine X_aload_n (pc := 1) (i := 0) 0 dX7_write_1 rfl rfl ?_
  refine X_get (pc := 2) (a := 15) (ci := 7) (j := 0) (.int (I 15 0)) (sh_15 hT) (by decide) k_158 rfl dX7_write_2 ?_
  refine X_imul (pc := 5) dX7_write_5 ?_
  refine X_iload_n (pc := 6) (i := 2) 2 dX7_write_6 rfl rfl ?_
  refine X_iadd (pc := 7) dX7_write_7 ?_
  obtain ⟨x1, ex1, hf⟩ := bnd_e hf
  refine X_tope ex1 ?_
  refine X_istore (pc := 8) [(4, .int x1), (0, .ref (xP G 15)), (1, .int a0), (2, .int a1), (3, .int a2)] dX7_write_8 (by decide) rfl ?_
  refine X_iload_n (pc := 10) (i := 1) 2 dX7_write_10 rfl rfl ?_
  by_cases c2 : a0 < (0 : Int32)
  · replace hf := (if_pos c2).symm.trans hf
    refine X_if_lt_t (pc := 11) 44 dX7_write_11 (by decide) c2 ?_
    cases hf
    exact X_return (pc := 44) rfl dX7_write_44
  · replace hf := (if_neg c2).symm.trans hf
    refine X_if_lt_f (pc := 11) 44 dX7_write_11 (by decide) c2 ?_
    refine X_iload_n (pc := 14) (i := 2) 3 dX7_write_14 rfl rfl ?_
    by_cases c3 : a1 < (0 : Int32)
    · replace hf := (if_pos c3).symm.trans hf
      refine X_if_lt_t (pc := 15) 44 dX7_write_15 (by decide) c3 ?_
      cases hf
      exact X_return (pc := 44) rfl dX7_write_44
    · replace hf := (if_neg c3).symm.trans hf
      refine X_if_lt_f (pc := 15) 44 dX7_write_15 (by decide) c3 ?_
      refine X_iload_n (pc := 18) (i := 2) 3 dX7_write_18 rfl rfl ?_
      refine X_aload_n (pc := 19) (i := 0) 1 dX7_write_19 rfl rfl ?_
      refine X_get (pc := 20) (a := 15) (ci := 7) (j := 0) (.int (I 15 0)) (sh_15 hT) (by decide) k_158 rfl dX7_write_20 ?_
      by_cases c4 : (I 15 0) ≤ a1
      · replace hf := (if_pos c4).symm.trans hf
        refine X_icmp_ge_t (pc := 23) 44 dX7_write_23 (by decide) c4 ?_
        cases hf
        exact X_return (pc := 44) rfl dX7_write_44
      · replace hf := (if_neg c4).symm.trans hf
        refine X_icmp_ge_f (pc := 23) 44 dX7_write_23 (by decide) c4 ?_
        refine X_iload (pc := 26) 0 dX7_write_26 rfl ?_
        refine X_aload_n (pc := 28) (i := 0) 1 dX7_write_28 rfl rfl ?_
        refine X_getr (pc := 29) (a := 15) (ci := 7) (j := 2) (c := 16) (sh_15 hT) (by decide) k_160 (rf_15_2 hT) (fun _ h => h) dX7_write_29 ?_
        refine X_alen (pc := 32) (8000 : Int32) (by decide) (sh_16 hT) (by decide) dX7_write_32 ?_
        by_cases c5 : (8000 : Int32) ≤ x1
        · replace hf := (if_pos c5).symm.trans hf
          refine X_icmp_ge_t (pc := 33) 44 dX7_write_33 (by decide) c5 ?_
          cases hf
          exact X_return (pc := 44) rfl dX7_write_44
        · replace hf := (if_neg c5).symm.trans hf
          refine X_icmp_ge_f (pc := 33) 44 dX7_write_33 (by decide) c5 ?_
          refine X_aload_n (pc := 36) (i := 0) 1 dX7_write_36 rfl rfl ?_
          refine X_getr (pc := 37) (a := 15) (ci := 7) (j := 2) (c := 16) (sh_15 hT) (by decide) k_160 (rf_15_2 hT) (fun _ h => h) dX7_write_37 ?_
          refine X_iload (pc := 40) 0 dX7_write_40 rfl ?_
          refine X_iload_n (pc := 42) (i := 3) 4 dX7_write_42 rfl rfl ?_
          obtain ⟨c6, hf⟩ := gd_some hf
          refine X_iastj (pc := 43) (j := (x1.toNatClampNeg)) (sh_16 hT) (vp_in_lit (N := 8000) c6 (by decide)) rfl dX7_write_43 ?_
          cases hf
          exact X_return (pc := 44) rfl dX7_write_44
theorem u_Ro_write_15 {S : List xSh} {a0 : Int32} {a1 : Int32} {a2 : Int32} {I : Nat → Nat → Int32} {L : Nat → Nat → Int64} {q : ((Nat → Nat → Int32) × (Nat → Nat → Int64))} (hf : f_Ro_write_15 a0 a1 a2 I L = some q) : FR S [16] [] I q.1 L q.2 := by
  replace hf := (f_Ro_write_15.eq_1 _ _ _ _ _).symm.trans hf
  obtain ⟨x1, ex1, hf⟩ := bnd_e hf
  by_cases c2 : a0 < (0 : Int32)
  · replace hf := (if_pos c2).symm.trans hf
    cases hf
    exact FR.rf
  · replace hf := (if_neg c2).symm.trans hf
    by_cases c3 : a1 < (0 : Int32)
    · replace hf := (if_pos c3).symm.trans hf
      cases hf
      exact FR.rf
    · replace hf := (if_neg c3).symm.trans hf
      by_cases c4 : (I 15 0) ≤ a1
      · replace hf := (if_pos c4).symm.trans hf
        cases hf
        exact FR.rf
      · replace hf := (if_neg c4).symm.trans hf
        by_cases c5 : (8000 : Int32) ≤ x1
        · replace hf := (if_pos c5).symm.trans hf
          cases hf
          exact FR.rf
        · replace hf := (if_neg c5).symm.trans hf
          obtain ⟨c6, hf⟩ := gd_some hf
          cases hf
          exact (FR.ai FR.rf (by decide))
theorem dX11_enter_0 : decode cX11_enter 0 = .ok (.aload_n 0, 1) := by decide +kernel
theorem dX11_enter_1 : decode cX11_enter 1 = .ok (.getfield 60, 3) := by decide +kernel
theorem dX11_enter_4 : decode cX11_enter 4 = .ok (.getfield 95, 3) := by decide +kernel
theorem dX11_enter_7 : decode cX11_enter 7 = .ok (.sipush 2000, 3) := by decide +kernel
theorem dX11_enter_10 : decode cX11_enter 10 = .ok (.if_icmp .lt 5, 3) := by decide +kernel
theorem dX11_enter_13 : decode cX11_enter 13 = .ok (.iconst 0, 1) := by decide +kernel
theorem dX11_enter_14 : decode cX11_enter 14 = .ok (.ireturn, 1) := by decide +kernel
theorem dX11_enter_15 : decode cX11_enter 15 = .ok (.aload_n 0, 1) := by decide +kernel
theorem dX11_enter_16 : decode cX11_enter 16 = .ok (.getfield 60, 3) := by decide +kernel
theorem dX11_enter_19 : decode cX11_enter 19 = .ok (.invokevirtual 392, 3) := by decide +kernel
theorem dX11_enter_22 : decode cX11_enter 22 = .ok (.istore 5, 2) := by decide +kernel
theorem dX11_enter_24 : decode cX11_enter 24 = .ok (.aload_n 0, 1) := by decide +kernel
theorem dX11_enter_25 : decode cX11_enter 25 = .ok (.getfield 60, 3) := by decide +kernel
theorem dX11_enter_28 : decode cX11_enter 28 = .ok (.iload 5, 2) := by decide +kernel
theorem dX11_enter_30 : decode cX11_enter 30 = .ok (.iconst 0, 1) := by decide +kernel
theorem dX11_enter_31 : decode cX11_enter 31 = .ok (.iload_n 1, 1) := by decide +kernel
theorem dX11_enter_32 : decode cX11_enter 32 = .ok (.invokevirtual 395, 3) := by decide +kernel
theorem dX11_enter_35 : decode cX11_enter 35 = .ok (.aload_n 0, 1) := by decide +kernel
theorem dX11_enter_36 : decode cX11_enter 36 = .ok (.getfield 60, 3) := by decide +kernel
theorem dX11_enter_39 : decode cX11_enter 39 = .ok (.iload 5, 2) := by decide +kernel
theorem dX11_enter_41 : decode cX11_enter 41 = .ok (.iconst 1, 1) := by decide +kernel
theorem dX11_enter_42 : decode cX11_enter 42 = .ok (.iload_n 2, 1) := by decide +kernel
theorem dX11_enter_43 : decode cX11_enter 43 = .ok (.invokevirtual 395, 3) := by decide +kernel
theorem dX11_enter_46 : decode cX11_enter 46 = .ok (.aload_n 0, 1) := by decide +kernel
theorem dX11_enter_47 : decode cX11_enter 47 = .ok (.getfield 60, 3) := by decide +kernel
theorem dX11_enter_50 : decode cX11_enter 50 = .ok (.iload 5, 2) := by decide +kernel
theorem dX11_enter_52 : decode cX11_enter 52 = .ok (.iconst 2, 1) := by decide +kernel
theorem dX11_enter_53 : decode cX11_enter 53 = .ok (.iload_n 3, 1) := by decide +kernel
theorem dX11_enter_54 : decode cX11_enter 54 = .ok (.invokevirtual 395, 3) := by decide +kernel
theorem dX11_enter_57 : decode cX11_enter 57 = .ok (.aload_n 0, 1) := by decide +kernel
theorem dX11_enter_58 : decode cX11_enter 58 = .ok (.getfield 60, 3) := by decide +kernel
theorem dX11_enter_61 : decode cX11_enter 61 = .ok (.iload 5, 2) := by decide +kernel
theorem dX11_enter_63 : decode cX11_enter 63 = .ok (.iconst 3, 1) := by decide +kernel
theorem dX11_enter_64 : decode cX11_enter 64 = .ok (.iload 4, 2) := by decide +kernel
theorem dX11_enter_66 : decode cX11_enter 66 = .ok (.invokevirtual 395, 3) := by decide +kernel
theorem dX11_enter_69 : decode cX11_enter 69 = .ok (.iconst 1, 1) := by decide +kernel
theorem dX11_enter_70 : decode cX11_enter 70 = .ok (.ireturn, 1) := by decide +kernel
def f_H_enter (a0 : Int32) (a1 : Int32) (a2 : Int32) (a3 : Int32) (I : Nat → Nat → Int32) (L : Nat → Nat → Int64) : Option (Int32 × (Nat → Nat → Int32) × (Nat → Nat → Int64)) := (if (I 15 3) < (2000 : Int32) then ((f_Ro_open_15 I L).bind fun q2 => ((f_Ro_write_15 q2.1 (0 : Int32) a0 q2.2.1 q2.2.2).bind fun q4 => ((f_Ro_write_15 q2.1 (1 : Int32) a1 q4.1 q4.2).bind fun q6 => ((f_Ro_write_15 q2.1 (2 : Int32) a2 q6.1 q6.2).bind fun q8 => ((f_Ro_write_15 q2.1 (3 : Int32) a3 q8.1 q8.2).bind fun q10 => (some ((1 : Int32), q10.1, q10.2))))))) else (some ((0 : Int32), I, L)))
set_option maxRecDepth 100000 in
set_option maxHeartbeats 4000000 in
theorem c_H_enter {G : xG} {S : List xSh} {Rf : Nat → Nat → Option Nat} (hT : xTH S Rf) {a0 : Int32} {a1 : Int32} {a2 : Int32} {a3 : Int32} {I : Nat → Nat → Int32} {L : Nat → Nat → Int64} {q : (Int32 × (Nat → Nat → Int32) × (Nat → Nat → Int64))} (hf : f_H_enter a0 a1 a2 a3 I L = some q) : CT G 2 m_H_enter [.ref (xP G 0), .int a0, .int a1, .int a2, .int a3] (S, I, L, Rf) (some (.int q.1), (S, q.2.1, q.2.2, Rf)) := by
  refine CT.of (by decide +kernel) (Nat.le_of_ble_eq_true rfl) ?_
  show X G 2 m_H_enter 0 [(0, .ref (xP G 0)), (1, .int a0), (2, .int a1), (3, .int a2), (4, .int a3)] [] (S, I, L, Rf) (some (.int q.1), (S, q.2.1, q.2.2, Rf))
  replace hf := (f_H_enter.eq_1 _ _ _ _ _ _).symm.trans hf
  refine X_aload_n (pc := 0) (i := 0) 0 dX11_enter_0 rfl rfl ?_
  refine X_getr (pc := 1) (a := 0) (ci := 10) (j := 8) (c := 15) (sh_0 hT) (by decide) k_502 (rf_0_5 hT) (fun _ h => h) dX11_enter_1 ?_
  refine X_get (pc := 4) (a := 15) (ci := 7) (j := 3) (.int (I 15 3)) (sh_15 hT) (by decide) k_162 rfl dX11_enter_4 ?_
  refine X_sipush (pc := 7) (2000 : Int32) dX11_enter_7 (by decide) ?_
  by_cases c1 : (I 15 3) < (2000 : Int32)
  · replace hf := (if_pos c1).symm.trans hf
    refine X_icmp_lt_t (pc := 10) 15 dX11_enter_10 (by decide) c1 ?_
    refine X_aload_n (pc := 15) (i := 0) 0 dX11_enter_15 rfl rfl ?_
    refine X_getr (pc := 16) (a := 0) (ci := 10) (j := 8) (c := 15) (sh_0 hT) (by decide) k_502 (rf_0_5 hT) (fun _ h => h) dX11_enter_16 ?_
    obtain ⟨q2, c3, hf⟩ := bd_some hf
    refine X_invV_i (pc := 19) (c_Ro_open_15 hT c3) ok_Ro_open (ci := 7) (sh_15 hT) k_727 k_728 k_729 nd_4 (by decide) rfl (Nat.le_of_ble_eq_true rfl) dX11_enter_19 ?_
    refine X_istore (pc := 22) [(5, .int q2.1), (0, .ref (xP G 0)), (1, .int a0), (2, .int a1), (3, .int a2), (4, .int a3)] dX11_enter_22 (by decide) rfl ?_
    refine X_aload_n (pc := 24) (i := 0) 1 dX11_enter_24 rfl rfl ?_
    refine X_getr (pc := 25) (a := 0) (ci := 10) (j := 8) (c := 15) (sh_0 hT) (by decide) k_502 (rf_0_5 hT) (fun _ h => h) dX11_enter_25 ?_
    refine X_iload (pc := 28) 0 dX11_enter_28 rfl ?_
    refine X_iconst (pc := 30) (0 : Int32) dX11_enter_30 (by decide) ?_
    refine X_iload_n (pc := 31) (i := 1) 2 dX11_enter_31 rfl rfl ?_
    obtain ⟨q4, c5, hf⟩ := bd_some hf
    refine X_invV_v (pc := 32) (c_Ro_write_15 hT c5) ok_Ro_write (ci := 7) (sh_15 hT) k_731 k_732 k_733 nd_7 (by decide) rfl (Nat.le_of_ble_eq_true rfl) dX11_enter_32 ?_
    refine X_aload_n (pc := 35) (i := 0) 1 dX11_enter_35 rfl rfl ?_
    refine X_getr (pc := 36) (a := 0) (ci := 10) (j := 8) (c := 15) (sh_0 hT) (by decide) k_502 (rf_0_5 hT) (fun _ h => h) dX11_enter_36 ?_
    refine X_iload (pc := 39) 0 dX11_enter_39 rfl ?_
    refine X_iconst (pc := 41) (1 : Int32) dX11_enter_41 (by decide) ?_
    refine X_iload_n (pc := 42) (i := 2) 3 dX11_enter_42 rfl rfl ?_
    obtain ⟨q6, c7, hf⟩ := bd_some hf
    refine X_invV_v (pc := 43) (c_Ro_write_15 hT c7) ok_Ro_write (ci := 7) (sh_15 hT) k_731 k_732 k_733 nd_7 (by decide) rfl (Nat.le_of_ble_eq_true rfl) dX11_enter_43 ?_
    refine X_aload_n (pc := 46) (i := 0) 1 dX11_enter_46 rfl rfl ?_
    refine X_getr (pc := 47) (a := 0) (ci := 10) (j := 8) (c := 15) (sh_0 hT) (by decide) k_502 (rf_0_5 hT) (fun _ h => h) dX11_enter_47 ?_
    refine X_iload (pc := 50) 0 dX11_enter_50 rfl ?_
    refine X_iconst (pc := 52) (2 : Int32) dX11_enter_52 (by decide) ?_
    refine X_iload_n (pc := 53) (i := 3) 4 dX11_enter_53 rfl rfl ?_
    obtain ⟨q8, c9, hf⟩ := bd_some hf
    refine X_invV_v (pc := 54) (c_Ro_write_15 hT c9) ok_Ro_write (ci := 7) (sh_15 hT) k_731 k_732 k_733 nd_7 (by decide) rfl (Nat.le_of_ble_eq_true rfl) dX11_enter_54 ?_
    refine X_aload_n (pc := 57) (i := 0) 1 dX11_enter_57 rfl rfl ?_
    refine X_getr (pc := 58) (a := 0) (ci := 10) (j := 8) (c := 15) (sh_0 hT) (by decide) k_502 (rf_0_5 hT) (fun _ h => h) dX11_enter_58 ?_
    refine X_iload (pc := 61) 0 dX11_enter_61 rfl ?_
    refine X_iconst (pc := 63) (3 : Int32) dX11_enter_63 (by decide) ?_
    refine X_iload (pc := 64) 5 dX11_enter_64 rfl ?_
    obtain ⟨q10, c11, hf⟩ := bd_some hf
    refine X_invV_v (pc := 66) (c_Ro_write_15 hT c11) ok_Ro_write (ci := 7) (sh_15 hT) k_731 k_732 k_733 nd_7 (by decide) rfl (Nat.le_of_ble_eq_true rfl) dX11_enter_66 ?_
    refine X_iconst (pc := 69) (1 : Int32) dX11_enter_69 (by decide) ?_
    cases hf
    exact X_zreturn (pc := 70) rfl (nar_b (by decide)) dX11_enter_70
  · replace hf := (if_neg c1).symm.trans hf
    refine X_icmp_lt_f (pc := 10) 15 dX11_enter_10 (by decide) c1 ?_
    refine X_iconst (pc := 13) (0 : Int32) dX11_enter_13 (by decide) ?_
    cases hf
    exact X_zreturn (pc := 14) rfl (nar_b (by decide)) dX11_enter_14
theorem u_H_enter {S : List xSh} {a0 : Int32} {a1 : Int32} {a2 : Int32} {a3 : Int32} {I : Nat → Nat → Int32} {L : Nat → Nat → Int64} {q : (Int32 × (Nat → Nat → Int32) × (Nat → Nat → Int64))} (hf : f_H_enter a0 a1 a2 a3 I L = some q) : FR S [16, 2503] [] I q.2.1 L q.2.2 := by
  replace hf := (f_H_enter.eq_1 _ _ _ _ _ _).symm.trans hf
  by_cases c1 : (I 15 3) < (2000 : Int32)
  · replace hf := (if_pos c1).symm.trans hf
    obtain ⟨q2, c3, hf⟩ := bd_some hf
    obtain ⟨q4, c5, hf⟩ := bd_some hf
    obtain ⟨q6, c7, hf⟩ := bd_some hf
    obtain ⟨q8, c9, hf⟩ := bd_some hf
    obtain ⟨q10, c11, hf⟩ := bd_some hf
    cases hf
    exact (FR.tr (FR.tr (FR.tr (FR.tr (FR.tr FR.rf (u_Ro_open_15 (q := q2) c3) (by decide) (by decide)) (u_Ro_write_15 (q := q4) c5) (by decide) (by decide)) (u_Ro_write_15 (q := q6) c7) (by decide) (by decide)) (u_Ro_write_15 (q := q8) c9) (by decide) (by decide)) (u_Ro_write_15 (q := q10) c11) (by decide) (by decide))
  · replace hf := (if_neg c1).symm.trans hf
    cases hf
    exact FR.rf
theorem dX5_held_0 : decode cX5_held 0 = .ok (.ldc2_w 134, 3) := by decide +kernel
theorem dX5_held_3 : decode cX5_held 3 = .ok (.ldc2_w 136, 3) := by decide +kernel
theorem dX5_held_6 : decode cX5_held 6 = .ok (.lload_n 0, 1) := by decide +kernel
theorem dX5_held_7 : decode cX5_held 7 = .ok (.invokestatic 95, 3) := by decide +kernel
theorem dX5_held_10 : decode cX5_held 10 = .ok (.invokestatic 138, 3) := by decide +kernel
theorem dX5_held_13 : decode cX5_held 13 = .ok (.l2i, 1) := by decide +kernel
theorem dX5_held_14 : decode cX5_held 14 = .ok (.ireturn, 1) := by decide +kernel
def f_Es_held (a0 : Int64) : Int32 := (bnd (Jmax (-1000000 : Int64) (Jmin (1000000 : Int64) a0)) fun x1 => (Int64.toInt32 x1))
set_option maxRecDepth 100000 in
set_option maxHeartbeats 4000000 in
theorem c_Es_held {G : xG} {S : List xSh} {Rf : Nat → Nat → Option Nat} (hT : xTH S Rf) {a0 : Int64} {I : Nat → Nat → Int32} {L : Nat → Nat → Int64} {q : Int32} (hf : f_Es_held a0 = q) : CT G 1 m_Es_held [.long a0] (S, I, L, Rf) (some (.int q), (S, I, L, Rf)) := by
  refine CT.of (by decide +kernel) (Nat.le_of_ble_eq_true rfl) ?_
  show X G 1 m_Es_held 0 [(0, .long a0)] [] (S, I, L, Rf) (some (.int q), (S, I, L, Rf))
  replace hf := (f_Es_held.eq_1 _).symm.trans hf
  refine X_ldc2 (pc := 0) (-1000000 : Int64) k_746 dX5_held_0 ?_
  refine X_ldc2 (pc := 3) (1000000 : Int64) k_747 dX5_held_3 ?_
  refine X_lload_n (pc := 6) (i := 0) 0 dX5_held_6 rfl rfl ?_
  refine X_Jmin (pc := 7) k_748 (by decide) (Nat.le_of_ble_eq_true rfl) dX5_held_7 ?_
  refine X_Jmax (pc := 10) k_751 (by decide) (Nat.le_of_ble_eq_true rfl) dX5_held_10 ?_
  obtain ⟨x1, ex1, hf⟩ := bnd_e hf
  refine X_tople ex1 ?_
  refine X_l2i (pc := 13) dX5_held_13 ?_
  subst hf
  exact X_ireturn (pc := 14) rfl dX5_held_14

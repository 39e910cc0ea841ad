theorem dX12_dial_0 : decode cX12_dial 0 = .ok (.aload_n 0, 1) := by decide +kernel
theorem dX12_dial_1 : decode cX12_dial 1 = .ok (.iload_n 1, 1) := by decide +kernel
theorem dX12_dial_2 : decode cX12_dial 2 = .ok (.invokevirtual 229, 3) := by decide +kernel
theorem dX12_dial_5 : decode cX12_dial 5 = .ok (.ifCond .eq 17, 3) := by decide +kernel
theorem dX12_dial_8 : decode cX12_dial 8 = .ok (.iload_n 2, 1) := by decide +kernel
theorem dX12_dial_9 : decode cX12_dial 9 = .ok (.i2l, 1) := by decide +kernel
theorem dX12_dial_10 : decode cX12_dial 10 = .ok (.ldc2_w 253, 3) := by decide +kernel
theorem dX12_dial_13 : decode cX12_dial 13 = .ok (.ldc2_w 243, 3) := by decide +kernel
theorem dX12_dial_16 : decode cX12_dial 16 = .ok (.invokestatic 140, 3) := by decide +kernel
theorem dX12_dial_19 : decode cX12_dial 19 = .ok (.ifCond .ne 7, 3) := by decide +kernel
theorem dX12_dial_22 : decode cX12_dial 22 = .ok (.iconst (-1), 1) := by decide +kernel
theorem dX12_dial_23 : decode cX12_dial 23 = .ok (.goto 12, 3) := by decide +kernel
theorem dX12_dial_26 : decode cX12_dial 26 = .ok (.aload_n 0, 1) := by decide +kernel
theorem dX12_dial_27 : decode cX12_dial 27 = .ok (.iconst 0, 1) := by decide +kernel
theorem dX12_dial_28 : decode cX12_dial 28 = .ok (.iload_n 1, 1) := by decide +kernel
theorem dX12_dial_29 : decode cX12_dial 29 = .ok (.iconst 0, 1) := by decide +kernel
theorem dX12_dial_30 : decode cX12_dial 30 = .ok (.iload_n 2, 1) := by decide +kernel
theorem dX12_dial_31 : decode cX12_dial 31 = .ok (.iconst 0, 1) := by decide +kernel
theorem dX12_dial_32 : decode cX12_dial 32 = .ok (.invokevirtual 255, 3) := by decide +kernel
theorem dX12_dial_35 : decode cX12_dial 35 = .ok (.ireturn, 1) := by decide +kernel
def f_Md_dial (a0 : Int32) (a1 : Int32) (I : Nat → Nat → Int32) (L : Nat → Nat → Int64) : Option (Int32 × (Nat → Nat → Int32) × (Nat → Nat → Int64)) := ((f_Md_isArbor a0 I L).bind fun q1 => (if q1 = (0 : Int32) then (some ((-1 : Int32), I, L)) else (bnd (f_Md_within (Int32.toInt64 a1) (2 : Int64) (1000 : Int64)) fun x4 => (if x4 = (0 : Int32) then (some ((-1 : Int32), I, L)) else ((f_Md_work (0 : Int32) a0 (0 : Int32) a1 (0 : Int32) I L).bind fun q6 => (some (q6.1, q6.2.1, q6.2.2)))))))
set_option maxRecDepth 100000 in
set_option maxHeartbeats 4000000 in
theorem c_Md_dial {G : xG} {S : List xSh} {Rf : Nat → Nat → Option Nat} (hT : xTM S Rf) {a0 : Int32} {a1 : Int32} {I : Nat → Nat → Int32} {L : Nat → Nat → Int64} {q : (Int32 × (Nat → Nat → Int32) × (Nat → Nat → Int64))} (hf : f_Md_dial a0 a1 I L = some q) : CT G 6 m_Md_dial [.ref (xP G 34), .int a0, .int a1] (S, I, L, Rf) (some (.int q.1), (S, q.2.1, q.2.2, Rf)) := by
  refine CT.of (by decide +kernel) (Nat.le_of_ble_eq_true rfl) ?_
  show X G 6 m_Md_dial 0 [(0, .ref (xP G 34)), (1, .int a0), (2, .int a1)] [] (S, I, L, Rf) (some (.int q.1), (S, q.2.1, q.2.2, Rf))
  replace hf := (f_Md_dial.eq_1 _ _ _ _).symm.trans hf
  refine X_aload_n (pc := 0) (i := 0) 0 dX12_dial_0 rfl rfl ?_
  refine X_iload_n (pc := 1) (i := 1) 1 dX12_dial_1 rfl rfl ?_
  obtain ⟨q1, c2, hf⟩ := bd_some hf
  refine X_invV_i (pc := 2) (c_Md_isArbor hT c2) ok_Md_isArbor (ci := 11) (sh_34 hT) k_1478 k_1480 k_43 nd_5 (by decide) rfl (Nat.le_of_ble_eq_true rfl) dX12_dial_2 ?_
  by_cases c3 : q1 = (0 : Int32)
  · replace hf := (if_pos c3).symm.trans hf
    refine X_if_eq_t (pc := 5) 22 dX12_dial_5 (by decide) c3 ?_
    refine X_iconst (pc := 22) (-1 : Int32) dX12_dial_22 (by decide) ?_
    refine X_goto (pc := 23) 35 dX12_dial_23 (by decide) ?_
    cases hf
    exact X_ireturn (pc := 35) rfl dX12_dial_35
  · replace hf := (if_neg c3).symm.trans hf
    refine X_if_eq_f (pc := 5) 22 dX12_dial_5 (by decide) c3 ?_
    refine X_iload_n (pc := 8) (i := 2) 2 dX12_dial_8 rfl rfl ?_
    refine X_i2l (pc := 9) dX12_dial_9 ?_
    refine X_ldc2 (pc := 10) (2 : Int64) k_1521 dX12_dial_10 ?_
    refine X_ldc2 (pc := 13) (1000 : Int64) k_1504 dX12_dial_13 ?_
    refine X_invS_i (pc := 16) (c_Md_within hT rfl) ok_Md_within k_1482 k_1483 nd_33 (by decide) rfl (Nat.le_of_ble_eq_true rfl) dX12_dial_16 ?_
    obtain ⟨x4, ex4, hf⟩ := bnd_e hf
    refine X_tope ex4 ?_
    by_cases c5 : x4 = (0 : Int32)
    · replace hf := (if_pos c5).symm.trans hf
      refine X_if_ne_f (pc := 19) 26 dX12_dial_19 (by decide) c5 ?_
      refine X_iconst (pc := 22) (-1 : Int32) dX12_dial_22 (by decide) ?_
      refine X_goto (pc := 23) 35 dX12_dial_23 (by decide) ?_
      cases hf
      exact X_ireturn (pc := 35) rfl dX12_dial_35
    · replace hf := (if_neg c5).symm.trans hf
      refine X_if_ne_t (pc := 19) 26 dX12_dial_19 (by decide) c5 ?_
      refine X_aload_n (pc := 26) (i := 0) 0 dX12_dial_26 rfl rfl ?_
      refine X_iconst (pc := 27) (0 : Int32) dX12_dial_27 (by decide) ?_
      refine X_iload_n (pc := 28) (i := 1) 1 dX12_dial_28 rfl rfl ?_
      refine X_iconst (pc := 29) (0 : Int32) dX12_dial_29 (by decide) ?_
      refine X_iload_n (pc := 30) (i := 2) 2 dX12_dial_30 rfl rfl ?_
      refine X_iconst (pc := 31) (0 : Int32) dX12_dial_31 (by decide) ?_
      obtain ⟨q6, c7, hf⟩ := bd_some hf
      refine X_invV_i (pc := 32) (c_Md_work hT c7) ok_Md_work (ci := 11) (sh_34 hT) k_1522 k_1524 k_45 nd_34 (by decide) rfl (Nat.le_of_ble_eq_true rfl) dX12_dial_32 ?_
      cases hf
      exact X_ireturn (pc := 35) rfl dX12_dial_35
theorem u_Md_dial {S : List xSh} {a0 : Int32} {a1 : Int32} {I : Nat → Nat → Int32} {L : Nat → Nat → Int64} {q : (Int32 × (Nat → Nat → Int32) × (Nat → Nat → Int64))} (hf : f_Md_dial a0 a1 I L = some q) : FR S [42, 43, 44, 45, 46, 48, 4416, 4445, 4446, 4447] [] I q.2.1 L q.2.2 := by
  replace hf := (f_Md_dial.eq_1 _ _ _ _).symm.trans hf
  obtain ⟨q1, c2, hf⟩ := bd_some hf
  by_cases c3 : q1 = (0 : Int32)
  · replace hf := (if_pos c3).symm.trans hf
    cases hf
    exact FR.rf
  · replace hf := (if_neg c3).symm.trans hf
    obtain ⟨x4, ex4, hf⟩ := bnd_e hf
    by_cases c5 : x4 = (0 : Int32)
    · replace hf := (if_pos c5).symm.trans hf
      cases hf
      exact FR.rf
    · replace hf := (if_neg c5).symm.trans hf
      obtain ⟨q6, c7, hf⟩ := bd_some hf
      cases hf
      exact (FR.tr FR.rf (u_Md_work (q := q6) c7) (by decide) (by decide))
theorem dX12_numberOf_0 : decode cX12_numberOf 0 = .ok (.iload_n 2, 1) := by decide +kernel
theorem dX12_numberOf_1 : decode cX12_numberOf 1 = .ok (.invokestatic 283, 3) := by decide +kernel
theorem dX12_numberOf_4 : decode cX12_numberOf 4 = .ok (.iload_n 0, 1) := by decide +kernel
theorem dX12_numberOf_5 : decode cX12_numberOf 5 = .ok (.iadd, 1) := by decide +kernel
theorem dX12_numberOf_6 : decode cX12_numberOf 6 = .ok (.iconst 1, 1) := by decide +kernel
theorem dX12_numberOf_7 : decode cX12_numberOf 7 = .ok (.isub, 1) := by decide +kernel
theorem dX12_numberOf_8 : decode cX12_numberOf 8 = .ok (.istore_n 3, 1) := by decide +kernel
theorem dX12_numberOf_9 : decode cX12_numberOf 9 = .ok (.iconst 1, 1) := by decide +kernel
theorem dX12_numberOf_10 : decode cX12_numberOf 10 = .ok (.istore 4, 2) := by decide +kernel
theorem dX12_numberOf_12 : decode cX12_numberOf 12 = .ok (.iload 4, 2) := by decide +kernel
theorem dX12_numberOf_14 : decode cX12_numberOf 14 = .ok (.iload_n 1, 1) := by decide +kernel
theorem dX12_numberOf_15 : decode cX12_numberOf 15 = .ok (.if_icmp .ge 18, 3) := by decide +kernel
theorem dX12_numberOf_18 : decode cX12_numberOf 18 = .ok (.iload_n 3, 1) := by decide +kernel
theorem dX12_numberOf_19 : decode cX12_numberOf 19 = .ok (.iload 4, 2) := by decide +kernel
theorem dX12_numberOf_21 : decode cX12_numberOf 21 = .ok (.iload_n 2, 1) := by decide +kernel
theorem dX12_numberOf_22 : decode cX12_numberOf 22 = .ok (.invokestatic 265, 3) := by decide +kernel
theorem dX12_numberOf_25 : decode cX12_numberOf 25 = .ok (.iadd, 1) := by decide +kernel
theorem dX12_numberOf_26 : decode cX12_numberOf 26 = .ok (.istore_n 3, 1) := by decide +kernel
theorem dX12_numberOf_27 : decode cX12_numberOf 27 = .ok (.iinc 4 1, 3) := by decide +kernel
theorem dX12_numberOf_30 : decode cX12_numberOf 30 = .ok (.goto (-18), 3) := by decide +kernel
theorem dX12_numberOf_33 : decode cX12_numberOf 33 = .ok (.iload_n 3, 1) := by decide +kernel
theorem dX12_numberOf_34 : decode cX12_numberOf 34 = .ok (.ireturn, 1) := by decide +kernel
def f_Md_numberOf_L12 : Nat → Int32 → Int32 → Int32 → Int32 → Option Int32
  | 0, _, _, _, _ => none
  | n + 1, l1, l2, l3, l4 => (if l1 ≤ l4 then (some l3) else (bnd (l3 + (f_Md_trueLength l4 l2)) fun x3 => (f_Md_numberOf_L12 n l1 l2 x3 (l4 + (1 : Int32)))))
set_option maxRecDepth 100000 in
set_option maxHeartbeats 4000000 in
theorem x_Md_numberOf_L12 {G : xG} {S : List xSh} {Rf : Nat → Nat → Option Nat} (hT : xTM S Rf) : ∀ (n : Nat) {l1 : Int32} {l2 : Int32} {l3 : Int32} {l4 : Int32} {I : Nat → Nat → Int32} {L : Nat → Nat → Int64} {q : Int32}, f_Md_numberOf_L12 n l1 l2 l3 l4 = some q → X G 3 m_Md_numberOf 12 [(1, .int l1), (2, .int l2), (3, .int l3), (4, .int l4)] [] (S, I, L, Rf) (some (.int q), (S, I, L, Rf)) := by
  intro n
  induction n with
  | zero =>
    intro l1 l2 l3 l4 I L q hf
    exact absurd (show none = some q from hf) (by simp)
  | succ n ih =>
    intro l1 l2 l3 l4 I L q hf
    replace hf := (f_Md_numberOf_L12.eq_2 _ _ _ _ _).symm.trans hf
    refine X_iload (pc := 12) 3 dX12_numberOf_12 rfl ?_
    refine X_iload_n (pc := 14) (i := 1) 0 dX12_numberOf_14 rfl rfl ?_
    by_cases c2 : l1 ≤ l4
    · replace hf := (if_pos c2).symm.trans hf
      refine X_icmp_ge_t (pc := 15) 33 dX12_numberOf_15 (by decide) c2 ?_
      refine X_iload_n (pc := 33) (i := 3) 2 dX12_numberOf_33 rfl rfl ?_
      cases hf
      exact X_ireturn (pc := 34) rfl dX12_numberOf_34
    · replace hf := (if_neg c2).symm.trans hf
      refine X_icmp_ge_f (pc := 15) 33 dX12_numberOf_15 (by decide) c2 ?_
      refine X_iload_n (pc := 18) (i := 3) 2 dX12_numberOf_18 rfl rfl ?_
      refine X_iload (pc := 19) 3 dX12_numberOf_19 rfl ?_
      refine X_iload_n (pc := 21) (i := 2) 1 dX12_numberOf_21 rfl rfl ?_
      refine X_invS_i (pc := 22) (c_Md_trueLength hT rfl) ok_Md_trueLength k_1222 k_1223 nd_21 (by decide) rfl (Nat.le_of_ble_eq_true rfl) dX12_numberOf_22 ?_
      refine X_iadd (pc := 25) dX12_numberOf_25 ?_
      obtain ⟨x3, ex3, hf⟩ := bnd_e hf
      refine X_tope ex3 ?_
      refine X_istore_n (pc := 26) (i := 3) [(3, .int x3), (1, .int l1), (2, .int l2), (4, .int l4)] dX12_numberOf_26 rfl (by decide) rfl ?_
      refine X_iinc (pc := 27) (i := 4) (q := 3) (v := (l4 + (1 : Int32))) [(4, .int (l4 + (1 : Int32))), (3, .int x3), (1, .int l1), (2, .int l2)] dX12_numberOf_27 rfl rfl (by decide) rfl ?_
      refine X_goto (pc := 30) 12 dX12_numberOf_30 (by decide) ?_
      exact X_lvs [2, 3, 1, 0] rfl (ih hf)
def f_Md_numberOf (a0 : Int32) (a1 : Int32) (a2 : Int32) : Option Int32 := (bnd (((f_Md_daysBefore a2) + a0) - (1 : Int32)) fun x1 => (f_Md_numberOf_L12 xF a1 a2 x1 (1 : Int32)))
set_option maxRecDepth 100000 in
set_option maxHeartbeats 4000000 in
theorem c_Md_numberOf {G : xG} {S : List xSh} {Rf : Nat → Nat → Option Nat} (hT : xTM S Rf) {a0 : Int32} {a1 : Int32} {a2 : Int32} {I : Nat → Nat → Int32} {L : Nat → Nat → Int64} {q : Int32} (hf : f_Md_numberOf a0 a1 a2 = some q) : CT G 3 m_Md_numberOf [.int a0, .int a1, .int a2] (S, I, L, Rf) (some (.int q), (S, I, L, Rf)) := by
  refine CT.of (by decide +kernel) (Nat.le_of_ble_eq_true rfl) ?_
  show X G 3 m_Md_numberOf 0 [(0, .int a0), (1, .int a1), (2, .int a2)] [] (S, I, L, Rf) (some (.int q), (S, I, L, Rf))
  replace hf := (f_Md_numberOf.eq_1 _ _ _).symm.trans hf
  refine X_iload_n (pc := 0) (i := 2) 2 dX12_numberOf_0 rfl rfl ?_
  refine X_invS_i (pc := 1) (c_Md_daysBefore hT rfl) ok_Md_daysBefore k_1219 k_1220 nd_8 (by decide) rfl (Nat.le_of_ble_eq_true rfl) dX12_numberOf_1 ?_
  refine X_iload_n (pc := 4) (i := 0) 0 dX12_numberOf_4 rfl rfl ?_
  refine X_iadd (pc := 5) dX12_numberOf_5 ?_
  refine X_iconst (pc := 6) (1 : Int32) dX12_numberOf_6 (by decide) ?_
  refine X_isub (pc := 7) dX12_numberOf_7 ?_
  obtain ⟨x1, ex1, hf⟩ := bnd_e hf
  refine X_tope ex1 ?_
  refine X_istore_n (pc := 8) (i := 3) [(3, .int x1), (0, .int a0), (1, .int a1), (2, .int a2)] dX12_numberOf_8 rfl (by decide) rfl ?_
  refine X_iconst (pc := 9) (1 : Int32) dX12_numberOf_9 (by decide) ?_
  refine X_istore (pc := 10) [(4, .int (1 : Int32)), (3, .int x1), (0, .int a0), (1, .int a1), (2, .int a2)] dX12_numberOf_10 (by decide) rfl ?_
  exact X_lvs [3, 4, 1, 0] rfl (x_Md_numberOf_L12 hT xF hf)
theorem dX12_calendar_0 : decode cX12_calendar 0 = .ok (.aload_n 0, 1) := by decide +kernel
theorem dX12_calendar_1 : decode cX12_calendar 1 = .ok (.iload_n 1, 1) := by decide +kernel
theorem dX12_calendar_2 : decode cX12_calendar 2 = .ok (.invokevirtual 229, 3) := by decide +kernel
theorem dX12_calendar_5 : decode cX12_calendar 5 = .ok (.ifCond .eq 58, 3) := by decide +kernel
theorem dX12_calendar_8 : decode cX12_calendar 8 = .ok (.iload_n 2, 1) := by decide +kernel
theorem dX12_calendar_9 : decode cX12_calendar 9 = .ok (.i2l, 1) := by decide +kernel
theorem dX12_calendar_10 : decode cX12_calendar 10 = .ok (.lconst 0, 1) := by decide +kernel
theorem dX12_calendar_11 : decode cX12_calendar 11 = .ok (.ldc2_w 259, 3) := by decide +kernel
theorem dX12_calendar_14 : decode cX12_calendar 14 = .ok (.invokestatic 140, 3) := by decide +kernel
theorem dX12_calendar_17 : decode cX12_calendar 17 = .ok (.ifCond .eq 46, 3) := by decide +kernel
theorem dX12_calendar_20 : decode cX12_calendar 20 = .ok (.iload 5, 2) := by decide +kernel
theorem dX12_calendar_22 : decode cX12_calendar 22 = .ok (.i2l, 1) := by decide +kernel
theorem dX12_calendar_23 : decode cX12_calendar 23 = .ok (.lconst 1, 1) := by decide +kernel
theorem dX12_calendar_24 : decode cX12_calendar 24 = .ok (.ldc2_w 261, 3) := by decide +kernel
theorem dX12_calendar_27 : decode cX12_calendar 27 = .ok (.invokestatic 140, 3) := by decide +kernel
theorem dX12_calendar_30 : decode cX12_calendar 30 = .ok (.ifCond .eq 33, 3) := by decide +kernel
theorem dX12_calendar_33 : decode cX12_calendar 33 = .ok (.iload 4, 2) := by decide +kernel
theorem dX12_calendar_35 : decode cX12_calendar 35 = .ok (.i2l, 1) := by decide +kernel
theorem dX12_calendar_36 : decode cX12_calendar 36 = .ok (.lconst 1, 1) := by decide +kernel
theorem dX12_calendar_37 : decode cX12_calendar 37 = .ok (.ldc2_w 263, 3) := by decide +kernel
theorem dX12_calendar_40 : decode cX12_calendar 40 = .ok (.invokestatic 140, 3) := by decide +kernel
theorem dX12_calendar_43 : decode cX12_calendar 43 = .ok (.ifCond .eq 20, 3) := by decide +kernel
theorem dX12_calendar_46 : decode cX12_calendar 46 = .ok (.iload_n 3, 1) := by decide +kernel
theorem dX12_calendar_47 : decode cX12_calendar 47 = .ok (.i2l, 1) := by decide +kernel
theorem dX12_calendar_48 : decode cX12_calendar 48 = .ok (.lconst 1, 1) := by decide +kernel
theorem dX12_calendar_49 : decode cX12_calendar 49 = .ok (.iload 4, 2) := by decide +kernel
theorem dX12_calendar_51 : decode cX12_calendar 51 = .ok (.iload 5, 2) := by decide +kernel
theorem dX12_calendar_53 : decode cX12_calendar 53 = .ok (.invokestatic 265, 3) := by decide +kernel
theorem dX12_calendar_56 : decode cX12_calendar 56 = .ok (.i2l, 1) := by decide +kernel
theorem dX12_calendar_57 : decode cX12_calendar 57 = .ok (.invokestatic 140, 3) := by decide +kernel
theorem dX12_calendar_60 : decode cX12_calendar 60 = .ok (.ifCond .ne 5, 3) := by decide +kernel
theorem dX12_calendar_63 : decode cX12_calendar 63 = .ok (.iconst (-1), 1) := by decide +kernel
theorem dX12_calendar_64 : decode cX12_calendar 64 = .ok (.ireturn, 1) := by decide +kernel
theorem dX12_calendar_65 : decode cX12_calendar 65 = .ok (.aload_n 0, 1) := by decide +kernel
theorem dX12_calendar_66 : decode cX12_calendar 66 = .ok (.iconst 1, 1) := by decide +kernel
theorem dX12_calendar_67 : decode cX12_calendar 67 = .ok (.iload_n 1, 1) := by decide +kernel
theorem dX12_calendar_68 : decode cX12_calendar 68 = .ok (.iload_n 2, 1) := by decide +kernel
theorem dX12_calendar_69 : decode cX12_calendar 69 = .ok (.iconst 0, 1) := by decide +kernel
theorem dX12_calendar_70 : decode cX12_calendar 70 = .ok (.iload_n 3, 1) := by decide +kernel
theorem dX12_calendar_71 : decode cX12_calendar 71 = .ok (.iload 4, 2) := by decide +kernel
theorem dX12_calendar_73 : decode cX12_calendar 73 = .ok (.iload 5, 2) := by decide +kernel
theorem dX12_calendar_75 : decode cX12_calendar 75 = .ok (.invokestatic 269, 3) := by decide +kernel
theorem dX12_calendar_78 : decode cX12_calendar 78 = .ok (.invokevirtual 255, 3) := by decide +kernel
theorem dX12_calendar_81 : decode cX12_calendar 81 = .ok (.ireturn, 1) := by decide +kernel
def f_Md_calendar (a0 : Int32) (a1 : Int32) (a2 : Int32) (a3 : Int32) (a4 : Int32) (I : Nat → Nat → Int32) (L : Nat → Nat → Int64) : Option (Int32 × (Nat → Nat → Int32) × (Nat → Nat → Int64)) := ((f_Md_isArbor a0 I L).bind fun q1 => (if q1 = (0 : Int32) then (some ((-1 : Int32), I, L)) else (bnd (f_Md_within (Int32.toInt64 a1) (0 : Int64) (3 : Int64)) fun x4 => (if x4 = (0 : Int32) then (some ((-1 : Int32), I, L)) else (bnd (f_Md_within (Int32.toInt64 a4) (1 : Int64) (9999 : Int64)) fun x6 => (if x6 = (0 : Int32) then (some ((-1 : Int32), I, L)) else (bnd (f_Md_within (Int32.toInt64 a3) (1 : Int64) (12 : Int64)) fun x8 => (if x8 = (0 : Int32) then (some ((-1 : Int32), I, L)) else (bnd (f_Md_within (Int32.toInt64 a2) (1 : Int64) (Int32.toInt64 (f_Md_trueLength a3 a4))) fun x10 => (if x10 = (0 : Int32) then (some ((-1 : Int32), I, L)) else ((f_Md_numberOf a2 a3 a4).bind fun q12 => ((f_Md_work (1 : Int32) a0 a1 (0 : Int32) q12 I L).bind fun q14 => (some (q14.1, q14.2.1, q14.2.2))))))))))))))
set_option maxRecDepth 100000 in
set_option maxHeartbeats 4000000 in
theorem c_Md_calendar {G : xG} {S : List xSh} {Rf : Nat → Nat → Option Nat} (hT : xTM S Rf) {a0 : Int32} {a1 : Int32} {a2 : Int32} {a3 : Int32} {a4 : Int32} {I : Nat → Nat → Int32} {L : Nat → Nat → Int64} {q : (Int32 × (Nat → Nat → Int32) × (Nat → Nat → Int64))} (hf : f_Md_calendar a0 a1 a2 a3 a4 I L = some q) : CT G 6 m_Md_calendar [.ref (xP G 34), .int a0, .int a1, .int a2, .int a3, .int a4] (S, I, L, Rf) (some (.int q.1), (S, q.2.1, q.2.2, Rf)) := by
  refine CT.of (by decide +kernel) (Nat.le_of_ble_eq_true rfl) ?_
  show X G 6 m_Md_calendar 0 [(0, .ref (xP G 34)), (1, .int a0), (2, .int a1), (3, .int a2), (4, .int a3), (5, .int a4)] [] (S, I, L, Rf) (some (.int q.1), (S, q.2.1, q.2.2, Rf))
  replace hf := (f_Md_calendar.eq_1 _ _ _ _ _ _ _).symm.trans hf
  refine X_aload_n (pc := 0) (i := 0) 0 dX12_calendar_0 rfl rfl ?_
  refine X_iload_n (pc := 1) (i := 1) 1 dX12_calendar_1 rfl rfl ?_
  obtain ⟨q1, c2, hf⟩ := bd_some hf
  refine X_invV_i (pc := 2) (c_Md_isArbor hT c2) ok_Md_isArbor (ci := 11) (sh_34 hT) k_1478 k_1480 k_43 nd_5 (by decide) rfl (Nat.le_of_ble_eq_true rfl) dX12_calendar_2 ?_
  by_cases c3 : q1 = (0 : Int32)
  · replace hf := (if_pos c3).symm.trans hf
    refine X_if_eq_t (pc := 5) 63 dX12_calendar_5 (by decide) c3 ?_
    refine X_iconst (pc := 63) (-1 : Int32) dX12_calendar_63 (by decide) ?_
    cases hf
    exact X_ireturn (pc := 64) rfl dX12_calendar_64
  · replace hf := (if_neg c3).symm.trans hf
    refine X_if_eq_f (pc := 5) 63 dX12_calendar_5 (by decide) c3 ?_
    refine X_iload_n (pc := 8) (i := 2) 2 dX12_calendar_8 rfl rfl ?_
    refine X_i2l (pc := 9) dX12_calendar_9 ?_
    refine X_lconst (pc := 10) (0 : Int64) dX12_calendar_10 (by decide) ?_
    refine X_ldc2 (pc := 11) (3 : Int64) k_1530 dX12_calendar_11 ?_
    refine X_invS_i (pc := 14) (c_Md_within hT rfl) ok_Md_within k_1482 k_1483 nd_33 (by decide) rfl (Nat.le_of_ble_eq_true rfl) dX12_calendar_14 ?_
    obtain ⟨x4, ex4, hf⟩ := bnd_e hf
    refine X_tope ex4 ?_
    by_cases c5 : x4 = (0 : Int32)
    · replace hf := (if_pos c5).symm.trans hf
      refine X_if_eq_t (pc := 17) 63 dX12_calendar_17 (by decide) c5 ?_
      refine X_iconst (pc := 63) (-1 : Int32) dX12_calendar_63 (by decide) ?_
      cases hf
      exact X_ireturn (pc := 64) rfl dX12_calendar_64
    · replace hf := (if_neg c5).symm.trans hf
      refine X_if_eq_f (pc := 17) 63 dX12_calendar_17 (by decide) c5 ?_
      refine X_iload (pc := 20) 5 dX12_calendar_20 rfl ?_
      refine X_i2l (pc := 22) dX12_calendar_22 ?_
      refine X_lconst (pc := 23) (1 : Int64) dX12_calendar_23 (by decide) ?_
      refine X_ldc2 (pc := 24) (9999 : Int64) k_1531 dX12_calendar_24 ?_
      refine X_invS_i (pc := 27) (c_Md_within hT rfl) ok_Md_within k_1482 k_1483 nd_33 (by decide) rfl (Nat.le_of_ble_eq_true rfl) dX12_calendar_27 ?_
      obtain ⟨x6, ex6, hf⟩ := bnd_e hf
      refine X_tope ex6 ?_
      by_cases c7 : x6 = (0 : Int32)
      · replace hf := (if_pos c7).symm.trans hf
        refine X_if_eq_t (pc := 30) 63 dX12_calendar_30 (by decide) c7 ?_
        refine X_iconst (pc := 63) (-1 : Int32) dX12_calendar_63 (by decide) ?_
        cases hf
        exact X_ireturn (pc := 64) rfl dX12_calendar_64
      · replace hf := (if_neg c7).symm.trans hf
        refine X_if_eq_f (pc := 30) 63 dX12_calendar_30 (by decide) c7 ?_
        refine X_iload (pc := 33) 4 dX12_calendar_33 rfl ?_
        refine X_i2l (pc := 35) dX12_calendar_35 ?_
        refine X_lconst (pc := 36) (1 : Int64) dX12_calendar_36 (by decide) ?_
        refine X_ldc2 (pc := 37) (12 : Int64) k_1532 dX12_calendar_37 ?_
        refine X_invS_i (pc := 40) (c_Md_within hT rfl) ok_Md_within k_1482 k_1483 nd_33 (by decide) rfl (Nat.le_of_ble_eq_true rfl) dX12_calendar_40 ?_
        obtain ⟨x8, ex8, hf⟩ := bnd_e hf
        refine X_tope ex8 ?_
        by_cases c9 : x8 = (0 : Int32)
        · replace hf := (if_pos c9).symm.trans hf
          refine X_if_eq_t (pc := 43) 63 dX12_calendar_43 (by decide) c9 ?_
          refine X_iconst (pc := 63) (-1 : Int32) dX12_calendar_63 (by decide) ?_
          cases hf
          exact X_ireturn (pc := 64) rfl dX12_calendar_64
        · replace hf := (if_neg c9).symm.trans hf
          refine X_if_eq_f (pc := 43) 63 dX12_calendar_43 (by decide) c9 ?_
          refine X_iload_n (pc := 46) (i := 3) 3 dX12_calendar_46 rfl rfl ?_
          refine X_i2l (pc := 47) dX12_calendar_47 ?_
          refine X_lconst (pc := 48) (1 : Int64) dX12_calendar_48 (by decide) ?_
          refine X_iload (pc := 49) 4 dX12_calendar_49 rfl ?_
          refine X_iload (pc := 51) 5 dX12_calendar_51 rfl ?_
          refine X_invS_i (pc := 53) (c_Md_trueLength hT rfl) ok_Md_trueLength k_1222 k_1223 nd_21 (by decide) rfl (Nat.le_of_ble_eq_true rfl) dX12_calendar_53 ?_
          refine X_i2l (pc := 56) dX12_calendar_56 ?_
          refine X_invS_i (pc := 57) (c_Md_within hT rfl) ok_Md_within k_1482 k_1483 nd_33 (by decide) rfl (Nat.le_of_ble_eq_true rfl) dX12_calendar_57 ?_
          obtain ⟨x10, ex10, hf⟩ := bnd_e hf
          refine X_tope ex10 ?_
          by_cases c11 : x10 = (0 : Int32)
          · replace hf := (if_pos c11).symm.trans hf
            refine X_if_ne_f (pc := 60) 65 dX12_calendar_60 (by decide) c11 ?_
            refine X_iconst (pc := 63) (-1 : Int32) dX12_calendar_63 (by decide) ?_
            cases hf
            exact X_ireturn (pc := 64) rfl dX12_calendar_64
          · replace hf := (if_neg c11).symm.trans hf
            refine X_if_ne_t (pc := 60) 65 dX12_calendar_60 (by decide) c11 ?_
            refine X_aload_n (pc := 65) (i := 0) 0 dX12_calendar_65 rfl rfl ?_
            refine X_iconst (pc := 66) (1 : Int32) dX12_calendar_66 (by decide) ?_
            refine X_iload_n (pc := 67) (i := 1) 1 dX12_calendar_67 rfl rfl ?_
            refine X_iload_n (pc := 68) (i := 2) 2 dX12_calendar_68 rfl rfl ?_
            refine X_iconst (pc := 69) (0 : Int32) dX12_calendar_69 (by decide) ?_
            refine X_iload_n (pc := 70) (i := 3) 3 dX12_calendar_70 rfl rfl ?_
            refine X_iload (pc := 71) 4 dX12_calendar_71 rfl ?_
            refine X_iload (pc := 73) 5 dX12_calendar_73 rfl ?_
            obtain ⟨q12, c13, hf⟩ := bd_some hf
            refine X_invS_i (pc := 75) (c_Md_numberOf hT c13) ok_Md_numberOf k_1533 k_1534 nd_16 (by decide) rfl (Nat.le_of_ble_eq_true rfl) dX12_calendar_75 ?_
            obtain ⟨q14, c15, hf⟩ := bd_some hf
            refine X_invV_i (pc := 78) (c_Md_work hT c15) ok_Md_work (ci := 11) (sh_34 hT) k_1522 k_1524 k_45 nd_34 (by decide) rfl (Nat.le_of_ble_eq_true rfl) dX12_calendar_78 ?_
            cases hf
            exact X_ireturn (pc := 81) rfl dX12_calendar_81
theorem u_Md_calendar {S : List xSh} {a0 : Int32} {a1 : Int32} {a2 : Int32} {a3 : Int32} {a4 : Int32} {I : Nat → Nat → Int32} {L : Nat → Nat → Int64} {q : (Int32 × (Nat → Nat → Int32) × (Nat → Nat → Int64))} (hf : f_Md_calendar a0 a1 a2 a3 a4 I L = some q) : FR S [42, 43, 44, 45, 46, 48, 4416, 4445, 4446, 4447] [] I q.2.1 L q.2.2 := by
  replace hf := (f_Md_calendar.eq_1 _ _ _ _ _ _ _).symm.trans hf
  obtain ⟨q1, c2, hf⟩ := bd_some hf
  by_cases c3 : q1 = (0 : Int32)
  · replace hf := (if_pos c3).symm.trans hf
    cases hf
    exact FR.rf
  · replace hf := (if_neg c3).symm.trans hf
    obtain ⟨x4, ex4, hf⟩ := bnd_e hf
    by_cases c5 : x4 = (0 : Int32)
    · replace hf := (if_pos c5).symm.trans hf
      cases hf
      exact FR.rf
    · replace hf := (if_neg c5).symm.trans hf
      obtain ⟨x6, ex6, hf⟩ := bnd_e hf
      by_cases c7 : x6 = (0 : Int32)
      · replace hf := (if_pos c7).symm.trans hf
        cases hf
        exact FR.rf
      · replace hf := (if_neg c7).symm.trans hf
        obtain ⟨x8, ex8, hf⟩ := bnd_e hf
        by_cases c9 : x8 = (0 : Int32)
        · replace hf := (if_pos c9).symm.trans hf
          cases hf
          exact FR.rf
        · replace hf := (if_neg c9).symm.trans hf
          obtain ⟨x10, ex10, hf⟩ := bnd_e hf
          by_cases c11 : x10 = (0 : Int32)
          · replace hf := (if_pos c11).symm.trans hf
            cases hf
            exact FR.rf
          · replace hf := (if_neg c11).symm.trans hf
            obtain ⟨q12, c13, hf⟩ := bd_some hf
            obtain ⟨q14, c15, hf⟩ := bd_some hf
            cases hf
            exact (FR.tr FR.rf (u_Md_work (q := q14) c15) (by decide) (by decide))
theorem dX12_strike_0 : decode cX12_strike 0 = .ok (.aload_n 0, 1) := by decide +kernel
theorem dX12_strike_1 : decode cX12_strike 1 = .ok (.iload_n 1, 1) := by decide +kernel
theorem dX12_strike_2 : decode cX12_strike 2 = .ok (.invokevirtual 229, 3) := by decide +kernel
theorem dX12_strike_5 : decode cX12_strike 5 = .ok (.ifCond .eq 13, 3) := by decide +kernel
theorem dX12_strike_8 : decode cX12_strike 8 = .ok (.iload_n 2, 1) := by decide +kernel
theorem dX12_strike_9 : decode cX12_strike 9 = .ok (.i2l, 1) := by decide +kernel
theorem dX12_strike_10 : decode cX12_strike 10 = .ok (.lconst 0, 1) := by decide +kernel
theorem dX12_strike_11 : decode cX12_strike 11 = .ok (.lconst 1, 1) := by decide +kernel
theorem dX12_strike_12 : decode cX12_strike 12 = .ok (.invokestatic 140, 3) := by decide +kernel
theorem dX12_strike_15 : decode cX12_strike 15 = .ok (.ifCond .ne 7, 3) := by decide +kernel
theorem dX12_strike_18 : decode cX12_strike 18 = .ok (.iconst (-1), 1) := by decide +kernel
theorem dX12_strike_19 : decode cX12_strike 19 = .ok (.goto 12, 3) := by decide +kernel
theorem dX12_strike_22 : decode cX12_strike 22 = .ok (.aload_n 0, 1) := by decide +kernel
theorem dX12_strike_23 : decode cX12_strike 23 = .ok (.iconst 2, 1) := by decide +kernel
theorem dX12_strike_24 : decode cX12_strike 24 = .ok (.iload_n 1, 1) := by decide +kernel
theorem dX12_strike_25 : decode cX12_strike 25 = .ok (.iload_n 2, 1) := by decide +kernel
theorem dX12_strike_26 : decode cX12_strike 26 = .ok (.iconst 0, 1) := by decide +kernel
theorem dX12_strike_27 : decode cX12_strike 27 = .ok (.iconst 0, 1) := by decide +kernel
theorem dX12_strike_28 : decode cX12_strike 28 = .ok (.invokevirtual 255, 3) := by decide +kernel
theorem dX12_strike_31 : decode cX12_strike 31 = .ok (.ireturn, 1) := by decide +kernel
def f_Md_strike (a0 : Int32) (a1 : Int32) (I : Nat → Nat → Int32) (L : Nat → Nat → Int64) : Option (Int32 × (Nat → Nat → Int32) × (Nat → Nat → Int64)) := ((f_Md_isArbor a0 I L).bind fun q1 => (if q1 = (0 : Int32) then (some ((-1 : Int32), I, L)) else (bnd (f_Md_within (Int32.toInt64 a1) (0 : Int64) (1 : Int64)) fun x4 => (if x4 = (0 : Int32) then (some ((-1 : Int32), I, L)) else ((f_Md_work (2 : Int32) a0 a1 (0 : Int32) (0 : Int32) I L).bind fun q6 => (some (q6.1, q6.2.1, q6.2.2)))))))
set_option maxRecDepth 100000 in
set_option maxHeartbeats 4000000 in
theorem c_Md_strike {G : xG} {S : List xSh} {Rf : Nat → Nat → Option Nat} (hT : xTM S Rf) {a0 : Int32} {a1 : Int32} {I : Nat → Nat → Int32} {L : Nat → Nat → Int64} {q : (Int32 × (Nat → Nat → Int32) × (Nat → Nat → Int64))} (hf : f_Md_strike a0 a1 I L = some q) : CT G 6 m_Md_strike [.ref (xP G 34), .int a0, .int a1] (S, I, L, Rf) (some (.int q.1), (S, q.2.1, q.2.2, Rf)) := by
  refine CT.of (by decide +kernel) (Nat.le_of_ble_eq_true rfl) ?_
  show X G 6 m_Md_strike 0 [(0, .ref (xP G 34)), (1, .int a0), (2, .int a1)] [] (S, I, L, Rf) (some (.int q.1), (S, q.2.1, q.2.2, Rf))
  replace hf := (f_Md_strike.eq_1 _ _ _ _).symm.trans hf
  refine X_aload_n (pc := 0) (i := 0) 0 dX12_strike_0 rfl rfl ?_
  refine X_iload_n (pc := 1) (i := 1) 1 dX12_strike_1 rfl rfl ?_
  obtain ⟨q1, c2, hf⟩ := bd_some hf
  refine X_invV_i (pc := 2) (c_Md_isArbor hT c2) ok_Md_isArbor (ci := 11) (sh_34 hT) k_1478 k_1480 k_43 nd_5 (by decide) rfl (Nat.le_of_ble_eq_true rfl) dX12_strike_2 ?_
  by_cases c3 : q1 = (0 : Int32)
  · replace hf := (if_pos c3).symm.trans hf
    refine X_if_eq_t (pc := 5) 18 dX12_strike_5 (by decide) c3 ?_
    refine X_iconst (pc := 18) (-1 : Int32) dX12_strike_18 (by decide) ?_
    refine X_goto (pc := 19) 31 dX12_strike_19 (by decide) ?_
    cases hf
    exact X_ireturn (pc := 31) rfl dX12_strike_31
  · replace hf := (if_neg c3).symm.trans hf
    refine X_if_eq_f (pc := 5) 18 dX12_strike_5 (by decide) c3 ?_
    refine X_iload_n (pc := 8) (i := 2) 2 dX12_strike_8 rfl rfl ?_
    refine X_i2l (pc := 9) dX12_strike_9 ?_
    refine X_lconst (pc := 10) (0 : Int64) dX12_strike_10 (by decide) ?_
    refine X_lconst (pc := 11) (1 : Int64) dX12_strike_11 (by decide) ?_
    refine X_invS_i (pc := 12) (c_Md_within hT rfl) ok_Md_within k_1482 k_1483 nd_33 (by decide) rfl (Nat.le_of_ble_eq_true rfl) dX12_strike_12 ?_
    obtain ⟨x4, ex4, hf⟩ := bnd_e hf
    refine X_tope ex4 ?_
    by_cases c5 : x4 = (0 : Int32)
    · replace hf := (if_pos c5).symm.trans hf
      refine X_if_ne_f (pc := 15) 22 dX12_strike_15 (by decide) c5 ?_
      refine X_iconst (pc := 18) (-1 : Int32) dX12_strike_18 (by decide) ?_
      refine X_goto (pc := 19) 31 dX12_strike_19 (by decide) ?_
      cases hf
      exact X_ireturn (pc := 31) rfl dX12_strike_31
    · replace hf := (if_neg c5).symm.trans hf
      refine X_if_ne_t (pc := 15) 22 dX12_strike_15 (by decide) c5 ?_
      refine X_aload_n (pc := 22) (i := 0) 0 dX12_strike_22 rfl rfl ?_
      refine X_iconst (pc := 23) (2 : Int32) dX12_strike_23 (by decide) ?_
      refine X_iload_n (pc := 24) (i := 1) 1 dX12_strike_24 rfl rfl ?_
      refine X_iload_n (pc := 25) (i := 2) 2 dX12_strike_25 rfl rfl ?_
      refine X_iconst (pc := 26) (0 : Int32) dX12_strike_26 (by decide) ?_
      refine X_iconst (pc := 27) (0 : Int32) dX12_strike_27 (by decide) ?_
      obtain ⟨q6, c7, hf⟩ := bd_some hf
      refine X_invV_i (pc := 28) (c_Md_work hT c7) ok_Md_work (ci := 11) (sh_34 hT) k_1522 k_1524 k_45 nd_34 (by decide) rfl (Nat.le_of_ble_eq_true rfl) dX12_strike_28 ?_
      cases hf
      exact X_ireturn (pc := 31) rfl dX12_strike_31
theorem u_Md_strike {S : List xSh} {a0 : Int32} {a1 : Int32} {I : Nat → Nat → Int32} {L : Nat → Nat → Int64} {q : (Int32 × (Nat → Nat → Int32) × (Nat → Nat → Int64))} (hf : f_Md_strike a0 a1 I L = some q) : FR S [42, 43, 44, 45, 46, 48, 4416, 4445, 4446, 4447] [] I q.2.1 L q.2.2 := by
  replace hf := (f_Md_strike.eq_1 _ _ _ _).symm.trans hf
  obtain ⟨q1, c2, hf⟩ := bd_some hf
  by_cases c3 : q1 = (0 : Int32)
  · replace hf := (if_pos c3).symm.trans hf
    cases hf
    exact FR.rf
  · replace hf := (if_neg c3).symm.trans hf
    obtain ⟨x4, ex4, hf⟩ := bnd_e hf
    by_cases c5 : x4 = (0 : Int32)
    · replace hf := (if_pos c5).symm.trans hf
      cases hf
      exact FR.rf
    · replace hf := (if_neg c5).symm.trans hf
      obtain ⟨q6, c7, hf⟩ := bd_some hf
      cases hf
      exact (FR.tr FR.rf (u_Md_work (q := q6) c7) (by decide) (by decide))
theorem dX12_chronograph_0 : decode cX12_chronograph 0 = .ok (.iload_n 1, 1) := by decide +kernel
theorem dX12_chronograph_1 : decode cX12_chronograph 1 = .ok (.i2l, 1) := by decide +kernel
theorem dX12_chronograph_2 : decode cX12_chronograph 2 = .ok (.lconst 0, 1) := by decide +kernel
theorem dX12_chronograph_3 : decode cX12_chronograph 3 = .ok (.ldc2_w 253, 3) := by decide +kernel
theorem dX12_chronograph_6 : decode cX12_chronograph 6 = .ok (.invokestatic 140, 3) := by decide +kernel
theorem dX12_chronograph_9 : decode cX12_chronograph 9 = .ok (.ifCond .ne 5, 3) := by decide +kernel
theorem dX12_chronograph_12 : decode cX12_chronograph 12 = .ok (.iconst (-1), 1) := by decide +kernel
theorem dX12_chronograph_13 : decode cX12_chronograph 13 = .ok (.ireturn, 1) := by decide +kernel
theorem dX12_chronograph_14 : decode cX12_chronograph 14 = .ok (.aload_n 0, 1) := by decide +kernel
theorem dX12_chronograph_15 : decode cX12_chronograph 15 = .ok (.getfield 178, 3) := by decide +kernel
theorem dX12_chronograph_18 : decode cX12_chronograph 18 = .ok (.ifCond .eq 6, 3) := by decide +kernel
theorem dX12_chronograph_21 : decode cX12_chronograph 21 = .ok (.bipush (-2), 2) := by decide +kernel
theorem dX12_chronograph_23 : decode cX12_chronograph 23 = .ok (.ireturn, 1) := by decide +kernel
theorem dX12_chronograph_24 : decode cX12_chronograph 24 = .ok (.aload_n 0, 1) := by decide +kernel
theorem dX12_chronograph_25 : decode cX12_chronograph 25 = .ok (.getfield 175, 3) := by decide +kernel
theorem dX12_chronograph_28 : decode cX12_chronograph 28 = .ok (.iconst 4, 1) := by decide +kernel
theorem dX12_chronograph_29 : decode cX12_chronograph 29 = .ok (.if_icmp .ne 6, 3) := by decide +kernel
theorem dX12_chronograph_32 : decode cX12_chronograph 32 = .ok (.bipush (-3), 2) := by decide +kernel
theorem dX12_chronograph_34 : decode cX12_chronograph 34 = .ok (.ireturn, 1) := by decide +kernel
theorem dX12_chronograph_35 : decode cX12_chronograph 35 = .ok (.aload_n 0, 1) := by decide +kernel
theorem dX12_chronograph_36 : decode cX12_chronograph 36 = .ok (.getfield 175, 3) := by decide +kernel
theorem dX12_chronograph_39 : decode cX12_chronograph 39 = .ok (.istore_n 2, 1) := by decide +kernel
theorem dX12_chronograph_40 : decode cX12_chronograph 40 = .ok (.aload_n 0, 1) := by decide +kernel
theorem dX12_chronograph_41 : decode cX12_chronograph 41 = .ok (.getfield 46, 3) := by decide +kernel
theorem dX12_chronograph_44 : decode cX12_chronograph 44 = .ok (.iload_n 2, 1) := by decide +kernel
theorem dX12_chronograph_45 : decode cX12_chronograph 45 = .ok (.iload_n 1, 1) := by decide +kernel
theorem dX12_chronograph_46 : decode cX12_chronograph 46 = .ok (.iastore, 1) := by decide +kernel
theorem dX12_chronograph_47 : decode cX12_chronograph 47 = .ok (.aload_n 0, 1) := by decide +kernel
theorem dX12_chronograph_48 : decode cX12_chronograph 48 = .ok (.getfield 52, 3) := by decide +kernel
theorem dX12_chronograph_51 : decode cX12_chronograph 51 = .ok (.iload_n 2, 1) := by decide +kernel
theorem dX12_chronograph_52 : decode cX12_chronograph 52 = .ok (.iconst 0, 1) := by decide +kernel
theorem dX12_chronograph_53 : decode cX12_chronograph 53 = .ok (.iastore, 1) := by decide +kernel
theorem dX12_chronograph_54 : decode cX12_chronograph 54 = .ok (.aload_n 0, 1) := by decide +kernel
theorem dX12_chronograph_55 : decode cX12_chronograph 55 = .ok (.getfield 55, 3) := by decide +kernel
theorem dX12_chronograph_58 : decode cX12_chronograph 58 = .ok (.iload_n 2, 1) := by decide +kernel
theorem dX12_chronograph_59 : decode cX12_chronograph 59 = .ok (.iconst 0, 1) := by decide +kernel
theorem dX12_chronograph_60 : decode cX12_chronograph 60 = .ok (.iastore, 1) := by decide +kernel
theorem dX12_chronograph_61 : decode cX12_chronograph 61 = .ok (.aload_n 0, 1) := by decide +kernel
theorem dX12_chronograph_62 : decode cX12_chronograph 62 = .ok (.getfield 58, 3) := by decide +kernel
theorem dX12_chronograph_65 : decode cX12_chronograph 65 = .ok (.iload_n 2, 1) := by decide +kernel
theorem dX12_chronograph_66 : decode cX12_chronograph 66 = .ok (.iconst 0, 1) := by decide +kernel
theorem dX12_chronograph_67 : decode cX12_chronograph 67 = .ok (.iastore, 1) := by decide +kernel
theorem dX12_chronograph_68 : decode cX12_chronograph 68 = .ok (.aload_n 0, 1) := by decide +kernel
theorem dX12_chronograph_69 : decode cX12_chronograph 69 = .ok (.getfield 61, 3) := by decide +kernel
theorem dX12_chronograph_72 : decode cX12_chronograph 72 = .ok (.iload_n 2, 1) := by decide +kernel
theorem dX12_chronograph_73 : decode cX12_chronograph 73 = .ok (.iconst 0, 1) := by decide +kernel
theorem dX12_chronograph_74 : decode cX12_chronograph 74 = .ok (.bastore, 1) := by decide +kernel
theorem dX12_chronograph_75 : decode cX12_chronograph 75 = .ok (.aload_n 0, 1) := by decide +kernel
theorem dX12_chronograph_76 : decode cX12_chronograph 76 = .ok (.dup, 1) := by decide +kernel
theorem dX12_chronograph_77 : decode cX12_chronograph 77 = .ok (.getfield 175, 3) := by decide +kernel
theorem dX12_chronograph_80 : decode cX12_chronograph 80 = .ok (.iconst 1, 1) := by decide +kernel
theorem dX12_chronograph_81 : decode cX12_chronograph 81 = .ok (.iadd, 1) := by decide +kernel
theorem dX12_chronograph_82 : decode cX12_chronograph 82 = .ok (.putfield 175, 3) := by decide +kernel
theorem dX12_chronograph_85 : decode cX12_chronograph 85 = .ok (.iload_n 2, 1) := by decide +kernel
theorem dX12_chronograph_86 : decode cX12_chronograph 86 = .ok (.ireturn, 1) := by decide +kernel
def f_Md_chronograph (a0 : Int32) (I : Nat → Nat → Int32) (L : Nat → Nat → Int64) : Option (Int32 × (Nat → Nat → Int32) × (Nat → Nat → Int64)) := (bnd (f_Md_within (Int32.toInt64 a0) (0 : Int64) (2 : Int64)) fun x1 => (if x1 = (0 : Int32) then (some ((-1 : Int32), I, L)) else (if (I 34 24) = (0 : Int32) then (if (I 34 22) = (4 : Int32) then (some ((-3 : Int32), I, L)) else (bnd (I 34 22) fun x5 => (if (0 ≤ x5 ∧ x5 < (4 : Int32)) then (if (0 ≤ x5 ∧ x5 < (4 : Int32)) then (if (0 ≤ x5 ∧ x5 < (4 : Int32)) then (if (0 ≤ x5 ∧ x5 < (4 : Int32)) then (if (0 ≤ x5 ∧ x5 < (4 : Int32)) then (bnd ((I 34 22) + (1 : Int32)) fun x11 => (some (x5, (uI (uI (uI (uI (uI (uI I 47 (x5.toNatClampNeg) a0) 49 (x5.toNatClampNeg) (0 : Int32)) 50 (x5.toNatClampNeg) (0 : Int32)) 51 (x5.toNatClampNeg) (0 : Int32)) 52 (x5.toNatClampNeg) (0 : Int32)) 34 22 x11), L))) else none) else none) else none) else none) else none))) else (some ((-2 : Int32), I, L)))))
set_option maxRecDepth 100000 in
set_option maxHeartbeats 4000000 in
theorem c_Md_chronograph {G : xG} {S : List xSh} {Rf : Nat → Nat → Option Nat} (hT : xTM S Rf) {a0 : Int32} {I : Nat → Nat → Int32} {L : Nat → Nat → Int64} {q : (Int32 × (Nat → Nat → Int32) × (Nat → Nat → Int64))} (hf : f_Md_chronograph a0 I L = some q) : CT G 2 m_Md_chronograph [.ref (xP G 34), .int a0] (S, I, L, Rf) (some (.int q.1), (S, q.2.1, q.2.2, Rf)) := by
  refine CT.of (by decide +kernel) (Nat.le_of_ble_eq_true rfl) ?_
  show X G 2 m_Md_chronograph 0 [(0, .ref (xP G 34)), (1, .int a0)] [] (S, I, L, Rf) (some (.int q.1), (S, q.2.1, q.2.2, Rf))
  replace hf := (f_Md_chronograph.eq_1 _ _ _).symm.trans hf
  refine X_iload_n (pc := 0) (i := 1) 1 dX12_chronograph_0 rfl rfl ?_
  refine X_i2l (pc := 1) dX12_chronograph_1 ?_
  refine X_lconst (pc := 2) (0 : Int64) dX12_chronograph_2 (by decide) ?_
  refine X_ldc2 (pc := 3) (2 : Int64) k_1521 dX12_chronograph_3 ?_
  refine X_invS_i (pc := 6) (c_Md_within hT rfl) ok_Md_within k_1482 k_1483 nd_33 (by decide) rfl (Nat.le_of_ble_eq_true rfl) dX12_chronograph_6 ?_
  obtain ⟨x1, ex1, hf⟩ := bnd_e hf
  refine X_tope ex1 ?_
  by_cases c2 : x1 = (0 : Int32)
  · replace hf := (if_pos c2).symm.trans hf
    refine X_if_ne_f (pc := 9) 14 dX12_chronograph_9 (by decide) c2 ?_
    refine X_iconst (pc := 12) (-1 : Int32) dX12_chronograph_12 (by decide) ?_
    cases hf
    exact X_ireturn (pc := 13) rfl dX12_chronograph_13
  · replace hf := (if_neg c2).symm.trans hf
    refine X_if_ne_t (pc := 9) 14 dX12_chronograph_9 (by decide) c2 ?_
    refine X_aload_n (pc := 14) (i := 0) 0 dX12_chronograph_14 rfl rfl ?_
    refine X_get (pc := 15) (a := 34) (ci := 11) (j := 24) (.int (I 34 24)) (sh_34 hT) (by decide) k_1252 rfl dX12_chronograph_15 ?_
    by_cases c3 : (I 34 24) = (0 : Int32)
    · replace hf := (if_pos c3).symm.trans hf
      refine X_if_eq_t (pc := 18) 24 dX12_chronograph_18 (by decide) c3 ?_
      refine X_aload_n (pc := 24) (i := 0) 0 dX12_chronograph_24 rfl rfl ?_
      refine X_get (pc := 25) (a := 34) (ci := 11) (j := 22) (.int (I 34 22)) (sh_34 hT) (by decide) k_1250 rfl dX12_chronograph_25 ?_
      refine X_iconst (pc := 28) (4 : Int32) dX12_chronograph_28 (by decide) ?_
      by_cases c4 : (I 34 22) = (4 : Int32)
      · replace hf := (if_pos c4).symm.trans hf
        refine X_icmp_ne_f (pc := 29) 35 dX12_chronograph_29 (by decide) c4 ?_
        refine X_bipush (pc := 32) (-3 : Int32) dX12_chronograph_32 (by decide) ?_
        cases hf
        exact X_ireturn (pc := 34) rfl dX12_chronograph_34
      · replace hf := (if_neg c4).symm.trans hf
        refine X_icmp_ne_t (pc := 29) 35 dX12_chronograph_29 (by decide) c4 ?_
        refine X_aload_n (pc := 35) (i := 0) 0 dX12_chronograph_35 rfl rfl ?_
        refine X_get (pc := 36) (a := 34) (ci := 11) (j := 22) (.int (I 34 22)) (sh_34 hT) (by decide) k_1250 rfl dX12_chronograph_36 ?_
        obtain ⟨x5, ex5, hf⟩ := bnd_e hf
        refine X_tope ex5 ?_
        refine X_istore_n (pc := 39) (i := 2) [(2, .int x5), (0, .ref (xP G 34)), (1, .int a0)] dX12_chronograph_39 rfl (by decide) rfl ?_
        refine X_aload_n (pc := 40) (i := 0) 1 dX12_chronograph_40 rfl rfl ?_
        refine X_getr (pc := 41) (a := 34) (ci := 11) (j := 23) (c := 47) (sh_34 hT) (by decide) k_1251 (rf_34_23 hT) (fun _ h => h) dX12_chronograph_41 ?_
        refine X_iload_n (pc := 44) (i := 2) 0 dX12_chronograph_44 rfl rfl ?_
        refine X_iload_n (pc := 45) (i := 1) 2 dX12_chronograph_45 rfl rfl ?_
        obtain ⟨c6, hf⟩ := gd_some hf
        refine X_iastj (pc := 46) (j := (x5.toNatClampNeg)) (sh_47 hT) (vp_in_lit (N := 4) c6 (by decide)) rfl dX12_chronograph_46 ?_
        refine X_aload_n (pc := 47) (i := 0) 1 dX12_chronograph_47 rfl rfl ?_
        refine X_getr (pc := 48) (a := 34) (ci := 11) (j := 34) (c := 49) (sh_34 hT) (by decide) k_1262 (rf_34_34 hT) (fun _ h => h) dX12_chronograph_48 ?_
        refine X_iload_n (pc := 51) (i := 2) 0 dX12_chronograph_51 rfl rfl ?_
        refine X_iconst (pc := 52) (0 : Int32) dX12_chronograph_52 (by decide) ?_
        obtain ⟨c7, hf⟩ := gd_some hf
        refine X_iastj (pc := 53) (j := (x5.toNatClampNeg)) (sh_49 hT) (vp_in_lit (N := 4) c7 (by decide)) rfl dX12_chronograph_53 ?_
        refine X_aload_n (pc := 54) (i := 0) 1 dX12_chronograph_54 rfl rfl ?_
        refine X_getr (pc := 55) (a := 34) (ci := 11) (j := 35) (c := 50) (sh_34 hT) (by decide) k_1263 (rf_34_35 hT) (fun _ h => h) dX12_chronograph_55 ?_
        refine X_iload_n (pc := 58) (i := 2) 0 dX12_chronograph_58 rfl rfl ?_
        refine X_iconst (pc := 59) (0 : Int32) dX12_chronograph_59 (by decide) ?_
        obtain ⟨c8, hf⟩ := gd_some hf
        refine X_iastj (pc := 60) (j := (x5.toNatClampNeg)) (sh_50 hT) (vp_in_lit (N := 4) c8 (by decide)) rfl dX12_chronograph_60 ?_
        refine X_aload_n (pc := 61) (i := 0) 1 dX12_chronograph_61 rfl rfl ?_
        refine X_getr (pc := 62) (a := 34) (ci := 11) (j := 36) (c := 51) (sh_34 hT) (by decide) k_1264 (rf_34_36 hT) (fun _ h => h) dX12_chronograph_62 ?_
        refine X_iload_n (pc := 65) (i := 2) 0 dX12_chronograph_65 rfl rfl ?_
        refine X_iconst (pc := 66) (0 : Int32) dX12_chronograph_66 (by decide) ?_
        obtain ⟨c9, hf⟩ := gd_some hf
        refine X_iastj (pc := 67) (j := (x5.toNatClampNeg)) (sh_51 hT) (vp_in_lit (N := 4) c9 (by decide)) rfl dX12_chronograph_67 ?_
        refine X_aload_n (pc := 68) (i := 0) 1 dX12_chronograph_68 rfl rfl ?_
        refine X_getr (pc := 69) (a := 34) (ci := 11) (j := 37) (c := 52) (sh_34 hT) (by decide) k_1265 (rf_34_37 hT) (fun _ h => h) dX12_chronograph_69 ?_
        refine X_iload_n (pc := 72) (i := 2) 0 dX12_chronograph_72 rfl rfl ?_
        refine X_iconst (pc := 73) (0 : Int32) dX12_chronograph_73 (by decide) ?_
        obtain ⟨c10, hf⟩ := gd_some hf
        refine X_zastj (pc := 74) (j := (x5.toNatClampNeg)) (by decide) (sh_52 hT) (vp_in_lit (N := 4) c10 (by decide)) rfl dX12_chronograph_74 ?_
        refine X_aload_n (pc := 75) (i := 0) 1 dX12_chronograph_75 rfl rfl ?_
        refine X_dup (pc := 76) dX12_chronograph_76 rfl ?_
        refine X_get (pc := 77) (a := 34) (ci := 11) (j := 22) (.int (I 34 22)) (sh_34 hT) (by decide) k_1250 rfl dX12_chronograph_77 ?_
        refine X_iconst (pc := 80) (1 : Int32) dX12_chronograph_80 (by decide) ?_
        refine X_iadd (pc := 81) dX12_chronograph_81 ?_
        obtain ⟨x11, ex11, hf⟩ := bnd_e hf
        refine X_tope ex11 ?_
        refine X_puti (pc := 82) (a := 34) (ci := 11) (j := 22) 22 rfl false (sh_34 hT) (by decide) k_1250 rfl (fun h => by cases h) rfl dX12_chronograph_82 ?_
        refine X_iload_n (pc := 85) (i := 2) 0 dX12_chronograph_85 rfl rfl ?_
        cases hf
        exact X_ireturn (pc := 86) rfl dX12_chronograph_86
    · replace hf := (if_neg c3).symm.trans hf
      refine X_if_eq_f (pc := 18) 24 dX12_chronograph_18 (by decide) c3 ?_
      refine X_bipush (pc := 21) (-2 : Int32) dX12_chronograph_21 (by decide) ?_
      cases hf
      exact X_ireturn (pc := 23) rfl dX12_chronograph_23
theorem u_Md_chronograph {S : List xSh} {a0 : Int32} {I : Nat → Nat → Int32} {L : Nat → Nat → Int64} {q : (Int32 × (Nat → Nat → Int32) × (Nat → Nat → Int64))} (hf : f_Md_chronograph a0 I L = some q) : FR S [47, 49, 50, 51, 52, 4422] [] I q.2.1 L q.2.2 := by
  replace hf := (f_Md_chronograph.eq_1 _ _ _).symm.trans hf
  obtain ⟨x1, ex1, hf⟩ := bnd_e hf
  by_cases c2 : x1 = (0 : Int32)
  · replace hf := (if_pos c2).symm.trans hf
    cases hf
    exact FR.rf
  · replace hf := (if_neg c2).symm.trans hf
    by_cases c3 : (I 34 24) = (0 : Int32)
    · replace hf := (if_pos c3).symm.trans hf
      by_cases c4 : (I 34 22) = (4 : Int32)
      · replace hf := (if_pos c4).symm.trans hf
        cases hf
        exact FR.rf
      · replace hf := (if_neg c4).symm.trans hf
        obtain ⟨x5, ex5, hf⟩ := bnd_e hf
        obtain ⟨c6, hf⟩ := gd_some hf
        obtain ⟨c7, hf⟩ := gd_some hf
        obtain ⟨c8, hf⟩ := gd_some hf
        obtain ⟨c9, hf⟩ := gd_some hf
        obtain ⟨c10, hf⟩ := gd_some hf
        obtain ⟨x11, ex11, hf⟩ := bnd_e hf
        cases hf
        exact (FR.fi (FR.ai (FR.ai (FR.ai (FR.ai (FR.ai FR.rf (by decide)) (by decide)) (by decide)) (by decide)) (by decide)) (by decide))
    · replace hf := (if_neg c3).symm.trans hf
      cases hf
      exact FR.rf
theorem dX12_common_0 : decode cX12_common 0 = .ok (.lload_n 0, 1) := by decide +kernel
theorem dX12_common_1 : decode cX12_common 1 = .ok (.invokestatic 287, 3) := by decide +kernel
theorem dX12_common_4 : decode cX12_common 4 = .ok (.lstore 4, 2) := by decide +kernel
theorem dX12_common_6 : decode cX12_common 6 = .ok (.lload_n 2, 1) := by decide +kernel
theorem dX12_common_7 : decode cX12_common 7 = .ok (.invokestatic 287, 3) := by decide +kernel
theorem dX12_common_10 : decode cX12_common 10 = .ok (.lstore 6, 2) := by decide +kernel
theorem dX12_common_12 : decode cX12_common 12 = .ok (.lload 6, 2) := by decide +kernel
theorem dX12_common_14 : decode cX12_common 14 = .ok (.lconst 0, 1) := by decide +kernel
theorem dX12_common_15 : decode cX12_common 15 = .ok (.lcmp, 1) := by decide +kernel
theorem dX12_common_16 : decode cX12_common 16 = .ok (.ifCond .eq 21, 3) := by decide +kernel
theorem dX12_common_19 : decode cX12_common 19 = .ok (.lload 4, 2) := by decide +kernel
theorem dX12_common_21 : decode cX12_common 21 = .ok (.lload 6, 2) := by decide +kernel
theorem dX12_common_23 : decode cX12_common 23 = .ok (.lrem, 1) := by decide +kernel
theorem dX12_common_24 : decode cX12_common 24 = .ok (.lstore 8, 2) := by decide +kernel
theorem dX12_common_26 : decode cX12_common 26 = .ok (.lload 6, 2) := by decide +kernel
theorem dX12_common_28 : decode cX12_common 28 = .ok (.lstore 4, 2) := by decide +kernel
theorem dX12_common_30 : decode cX12_common 30 = .ok (.lload 8, 2) := by decide +kernel
theorem dX12_common_32 : decode cX12_common 32 = .ok (.lstore 6, 2) := by decide +kernel
theorem dX12_common_34 : decode cX12_common 34 = .ok (.goto (-22), 3) := by decide +kernel
theorem dX12_common_37 : decode cX12_common 37 = .ok (.lload 4, 2) := by decide +kernel
theorem dX12_common_39 : decode cX12_common 39 = .ok (.lreturn, 1) := by decide +kernel
def f_Md_common_L12 : Nat → Int64 → Int64 → Option Int64
  | 0, _, _ => none
  | n + 1, l4, l6 => (if l6 = (0 : Int64) then (some l4) else (if ¬ l6 = (0 : Int64) then (bnd (lrem l4 l6) fun x5 => (f_Md_common_L12 n l6 x5)) else none))
set_option maxRecDepth 100000 in
set_option maxHeartbeats 4000000 in
theorem x_Md_common_L12 {G : xG} {S : List xSh} {Rf : Nat → Nat → Option Nat} (hT : xTM S Rf) : ∀ (n : Nat) {l4 : Int64} {l6 : Int64} {I : Nat → Nat → Int32} {L : Nat → Nat → Int64} {q : Int64}, f_Md_common_L12 n l4 l6 = some q → X G 1 m_Md_common 12 [(4, .long l4), (6, .long l6)] [] (S, I, L, Rf) (some (.long q), (S, I, L, Rf)) := by
  intro n
  induction n with
  | zero =>
    intro l4 l6 I L q hf
    exact absurd (show none = some q from hf) (by simp)
  | succ n ih =>
    intro l4 l6 I L q hf
    replace hf := (f_Md_common_L12.eq_2 _ _ _).symm.trans hf
    refine X_lload (pc := 12) 1 dX12_common_12 rfl ?_
    refine X_lconst (pc := 14) (0 : Int64) dX12_common_14 (by decide) ?_
    refine X_lcmp (pc := 15) dX12_common_15 ?_
    by_cases c3 : l6 = (0 : Int64)
    · replace hf := (if_pos c3).symm.trans hf
      refine X_if_eq_t (pc := 16) 37 dX12_common_16 (by decide) ((lg_cmp_eq _ _).mpr c3) ?_
      refine X_lload (pc := 37) 0 dX12_common_37 rfl ?_
      cases hf
      exact X_lreturn (pc := 39) rfl dX12_common_39
    · replace hf := (if_neg c3).symm.trans hf
      refine X_if_eq_f (pc := 16) 37 dX12_common_16 (by decide) (fun h => c3 ((lg_cmp_eq _ _).mp h)) ?_
      refine X_lload (pc := 19) 0 dX12_common_19 rfl ?_
      refine X_lload (pc := 21) 1 dX12_common_21 rfl ?_
      obtain ⟨c4, hf⟩ := gd_some hf
      refine X_lrem (pc := 23) dX12_common_23 c4 ?_
      obtain ⟨x5, ex5, hf⟩ := bnd_e hf
      refine X_tople ex5 ?_
      refine X_lstore (pc := 24) [(8, .long x5), (4, .long l4), (6, .long l6)] dX12_common_24 (by decide) rfl ?_
      refine X_lload (pc := 26) 2 dX12_common_26 rfl ?_
      refine X_lstore (pc := 28) [(4, .long l6), (8, .long x5), (6, .long l6)] dX12_common_28 (by decide) rfl ?_
      refine X_lload (pc := 30) 1 dX12_common_30 rfl ?_
      refine X_lstore (pc := 32) [(6, .long x5), (4, .long l6), (8, .long x5)] dX12_common_32 (by decide) rfl ?_
      refine X_goto (pc := 34) 12 dX12_common_34 (by decide) ?_
      exact X_lvs [1, 0] rfl (ih hf)
def f_Md_common (a0 : Int64) (a1 : Int64) : Option Int64 := (bnd (Jabs a0) fun x1 => (bnd (Jabs a1) fun x2 => (f_Md_common_L12 xF x1 x2)))
set_option maxRecDepth 100000 in
set_option maxHeartbeats 4000000 in
theorem c_Md_common {G : xG} {S : List xSh} {Rf : Nat → Nat → Option Nat} (hT : xTM S Rf) {a0 : Int64} {a1 : Int64} {I : Nat → Nat → Int32} {L : Nat → Nat → Int64} {q : Int64} (hf : f_Md_common a0 a1 = some q) : CT G 1 m_Md_common [.long a0, .long a1] (S, I, L, Rf) (some (.long q), (S, I, L, Rf)) := by
  refine CT.of (by decide +kernel) (Nat.le_of_ble_eq_true rfl) ?_
  show X G 1 m_Md_common 0 [(0, .long a0), (2, .long a1)] [] (S, I, L, Rf) (some (.long q), (S, I, L, Rf))
  replace hf := (f_Md_common.eq_1 _ _).symm.trans hf
  refine X_lload_n (pc := 0) (i := 0) 0 dX12_common_0 rfl rfl ?_
  refine X_Jabs (pc := 1) k_1568 (by decide) (Nat.le_of_ble_eq_true rfl) dX12_common_1 ?_
  obtain ⟨x1, ex1, hf⟩ := bnd_e hf
  refine X_tople ex1 ?_
  refine X_lstore (pc := 4) [(4, .long x1), (0, .long a0), (2, .long a1)] dX12_common_4 (by decide) rfl ?_
  refine X_lload_n (pc := 6) (i := 2) 2 dX12_common_6 rfl rfl ?_
  refine X_Jabs (pc := 7) k_1568 (by decide) (Nat.le_of_ble_eq_true rfl) dX12_common_7 ?_
  obtain ⟨x2, ex2, hf⟩ := bnd_e hf
  refine X_tople ex2 ?_
  refine X_lstore (pc := 10) [(6, .long x2), (4, .long x1), (0, .long a0), (2, .long a1)] dX12_common_10 (by decide) rfl ?_
  exact X_lvs [1, 0] rfl (x_Md_common_L12 hT xF hf)
theorem dX12_told_0 : decode cX12_told 0 = .ok (.lload_n 1, 1) := by decide +kernel
theorem dX12_told_1 : decode cX12_told 1 = .ok (.lload_n 3, 1) := by decide +kernel
theorem dX12_told_2 : decode cX12_told 2 = .ok (.invokestatic 293, 3) := by decide +kernel
theorem dX12_told_5 : decode cX12_told 5 = .ok (.lstore 5, 2) := by decide +kernel
theorem dX12_told_7 : decode cX12_told 7 = .ok (.aload_n 0, 1) := by decide +kernel
theorem dX12_told_8 : decode cX12_told 8 = .ok (.lload_n 1, 1) := by decide +kernel
theorem dX12_told_9 : decode cX12_told 9 = .ok (.lload 5, 2) := by decide +kernel
theorem dX12_told_11 : decode cX12_told 11 = .ok (.ldiv, 1) := by decide +kernel
theorem dX12_told_12 : decode cX12_told 12 = .ok (.putfield 297, 3) := by decide +kernel
theorem dX12_told_15 : decode cX12_told 15 = .ok (.aload_n 0, 1) := by decide +kernel
theorem dX12_told_16 : decode cX12_told 16 = .ok (.lload_n 3, 1) := by decide +kernel
theorem dX12_told_17 : decode cX12_told 17 = .ok (.lload 5, 2) := by decide +kernel
theorem dX12_told_19 : decode cX12_told 19 = .ok (.ldiv, 1) := by decide +kernel
theorem dX12_told_20 : decode cX12_told 20 = .ok (.putfield 300, 3) := by decide +kernel
theorem dX12_told_23 : decode cX12_told 23 = .ok (.return_, 1) := by decide +kernel
def f_Md_told (a0 : Int64) (a1 : Int64) (I : Nat → Nat → Int32) (L : Nat → Nat → Int64) : Option ((Nat → Nat → Int32) × (Nat → Nat → Int64)) := ((f_Md_common a0 a1).bind fun q1 => (if ¬ q1 = (0 : Int64) then (bnd (a0 / q1) fun x4 => (if ¬ q1 = (0 : Int64) then (bnd (a1 / q1) fun x6 => (some (I, (uL (uL L 34 51 x4) 34 52 x6)))) else none)) else none))
set_option maxRecDepth 100000 in
set_option maxHeartbeats 4000000 in
theorem c_Md_told {G : xG} {S : List xSh} {Rf : Nat → Nat → Option Nat} (hT : xTM S Rf) {a0 : Int64} {a1 : Int64} {I : Nat → Nat → Int32} {L : Nat → Nat → Int64} {q : ((Nat → Nat → Int32) × (Nat → Nat → Int64))} (hf : f_Md_told a0 a1 I L = some q) : CT G 2 m_Md_told [.ref (xP G 34), .long a0, .long a1] (S, I, L, Rf) (none, (S, q.1, q.2, Rf)) := by
  refine CT.of (by decide +kernel) (Nat.le_of_ble_eq_true rfl) ?_
  show X G 2 m_Md_told 0 [(0, .ref (xP G 34)), (1, .long a0), (3, .long a1)] [] (S, I, L, Rf) (none, (S, q.1, q.2, Rf))
  replace hf := (f_Md_told.eq_1 _ _ _ _).symm.trans hf
  refine X_lload_n (pc := 0) (i := 1) 1 dX12_told_0 rfl rfl ?_
  refine X_lload_n (pc := 1) (i := 3) 2 dX12_told_1 rfl rfl ?_
  obtain ⟨q1, c2, hf⟩ := bd_some hf
  refine X_invS_l (pc := 2) (c_Md_common hT c2) ok_Md_common k_1565 k_1566 nd_9 (by decide) rfl (Nat.le_of_ble_eq_true rfl) dX12_told_2 ?_
  refine X_lstore (pc := 5) [(5, .long q1), (0, .ref (xP G 34)), (1, .long a0), (3, .long a1)] dX12_told_5 (by decide) rfl ?_
  refine X_aload_n (pc := 7) (i := 0) 1 dX12_told_7 rfl rfl ?_
  refine X_lload_n (pc := 8) (i := 1) 2 dX12_told_8 rfl rfl ?_
  refine X_lload (pc := 9) 0 dX12_told_9 rfl ?_
  obtain ⟨c3, hf⟩ := gd_some hf
  refine X_ldiv (pc := 11) dX12_told_11 c3 ?_
  obtain ⟨x4, ex4, hf⟩ := bnd_e hf
  refine X_tople ex4 ?_
  refine X_putl (pc := 12) (a := 34) (ci := 11) (j := 51) 51 rfl false (sh_34 hT) (by decide) k_1279 rfl (fun h => by cases h) rfl dX12_told_12 ?_
  refine X_aload_n (pc := 15) (i := 0) 1 dX12_told_15 rfl rfl ?_
  refine X_lload_n (pc := 16) (i := 3) 3 dX12_told_16 rfl rfl ?_
  refine X_lload (pc := 17) 0 dX12_told_17 rfl ?_
  obtain ⟨c5, hf⟩ := gd_some hf
  refine X_ldiv (pc := 19) dX12_told_19 c5 ?_
  obtain ⟨x6, ex6, hf⟩ := bnd_e hf
  refine X_tople ex6 ?_
  refine X_putl (pc := 20) (a := 34) (ci := 11) (j := 52) 52 rfl false (sh_34 hT) (by decide) k_1280 rfl (fun h => by cases h) rfl dX12_told_20 ?_
  cases hf
  exact X_return (pc := 23) rfl dX12_told_23
theorem u_Md_told {S : List xSh} {a0 : Int64} {a1 : Int64} {I : Nat → Nat → Int32} {L : Nat → Nat → Int64} {q : ((Nat → Nat → Int32) × (Nat → Nat → Int64))} (hf : f_Md_told a0 a1 I L = some q) : FR S [] [4451, 4452] I q.1 L q.2 := by
  replace hf := (f_Md_told.eq_1 _ _ _ _).symm.trans hf
  obtain ⟨q1, c2, hf⟩ := bd_some hf
  obtain ⟨c3, hf⟩ := gd_some hf
  obtain ⟨x4, ex4, hf⟩ := bnd_e hf
  obtain ⟨c5, hf⟩ := gd_some hf
  obtain ⟨x6, ex6, hf⟩ := bnd_e hf
  cases hf
  exact (FR.fl (FR.fl FR.rf (by decide)) (by decide))
theorem dX12_tells_0 : decode cX12_tells 0 = .ok (.aload_n 0, 1) := by decide +kernel
theorem dX12_tells_1 : decode cX12_tells 1 = .ok (.getfield 13, 3) := by decide +kernel
theorem dX12_tells_4 : decode cX12_tells 4 = .ok (.iload_n 1, 1) := by decide +kernel
theorem dX12_tells_5 : decode cX12_tells 5 = .ok (.iaload, 1) := by decide +kernel
theorem dX12_tells_6 : decode cX12_tells 6 = .ok (.istore_n 3, 1) := by decide +kernel
theorem dX12_tells_7 : decode cX12_tells 7 = .ok (.aload_n 0, 1) := by decide +kernel
theorem dX12_tells_8 : decode cX12_tells 8 = .ok (.getfield 16, 3) := by decide +kernel
theorem dX12_tells_11 : decode cX12_tells 11 = .ok (.iload_n 1, 1) := by decide +kernel
theorem dX12_tells_12 : decode cX12_tells 12 = .ok (.iaload, 1) := by decide +kernel
theorem dX12_tells_13 : decode cX12_tells 13 = .ok (.istore 4, 2) := by decide +kernel
theorem dX12_tells_15 : decode cX12_tells 15 = .ok (.aload_n 0, 1) := by decide +kernel
theorem dX12_tells_16 : decode cX12_tells 16 = .ok (.getfield 22, 3) := by decide +kernel
theorem dX12_tells_19 : decode cX12_tells 19 = .ok (.iload_n 1, 1) := by decide +kernel
theorem dX12_tells_20 : decode cX12_tells 20 = .ok (.iaload, 1) := by decide +kernel
theorem dX12_tells_21 : decode cX12_tells 21 = .ok (.i2l, 1) := by decide +kernel
theorem dX12_tells_22 : decode cX12_tells 22 = .ok (.lstore 5, 2) := by decide +kernel
theorem dX12_tells_24 : decode cX12_tells 24 = .ok (.aload_n 0, 1) := by decide +kernel
theorem dX12_tells_25 : decode cX12_tells 25 = .ok (.getfield 25, 3) := by decide +kernel
theorem dX12_tells_28 : decode cX12_tells 28 = .ok (.iload_n 1, 1) := by decide +kernel
theorem dX12_tells_29 : decode cX12_tells 29 = .ok (.iaload, 1) := by decide +kernel
theorem dX12_tells_30 : decode cX12_tells 30 = .ok (.i2l, 1) := by decide +kernel
theorem dX12_tells_31 : decode cX12_tells 31 = .ok (.lstore 7, 2) := by decide +kernel
theorem dX12_tells_33 : decode cX12_tells 33 = .ok (.aload_n 0, 1) := by decide +kernel
theorem dX12_tells_34 : decode cX12_tells 34 = .ok (.getfield 9, 3) := by decide +kernel
theorem dX12_tells_37 : decode cX12_tells 37 = .ok (.iload_n 1, 1) := by decide +kernel
theorem dX12_tells_38 : decode cX12_tells 38 = .ok (.iaload, 1) := by decide +kernel
theorem dX12_tells_39 : decode cX12_tells 39 = .ok (.iconst 2, 1) := by decide +kernel
theorem dX12_tells_40 : decode cX12_tells 40 = .ok (.if_icmp .ge 79, 3) := by decide +kernel
theorem dX12_tells_43 : decode cX12_tells 43 = .ok (.iload_n 2, 1) := by decide +kernel
theorem dX12_tells_44 : decode cX12_tells 44 = .ok (.ifCond .ne 8, 3) := by decide +kernel
theorem dX12_tells_47 : decode cX12_tells 47 = .ok (.iload 4, 2) := by decide +kernel
theorem dX12_tells_49 : decode cX12_tells 49 = .ok (.goto 4, 3) := by decide +kernel
theorem dX12_tells_52 : decode cX12_tells 52 = .ok (.iload_n 3, 1) := by decide +kernel
theorem dX12_tells_53 : decode cX12_tells 53 = .ok (.istore 9, 2) := by decide +kernel
theorem dX12_tells_55 : decode cX12_tells 55 = .ok (.aload_n 0, 1) := by decide +kernel
theorem dX12_tells_56 : decode cX12_tells 56 = .ok (.getfield 9, 3) := by decide +kernel
theorem dX12_tells_59 : decode cX12_tells 59 = .ok (.iload_n 1, 1) := by decide +kernel
theorem dX12_tells_60 : decode cX12_tells 60 = .ok (.iaload, 1) := by decide +kernel
theorem dX12_tells_61 : decode cX12_tells 61 = .ok (.ifCond .ne 9, 3) := by decide +kernel
theorem dX12_tells_64 : decode cX12_tells 64 = .ok (.ldc2_w 303, 3) := by decide +kernel
theorem dX12_tells_67 : decode cX12_tells 67 = .ok (.goto 4, 3) := by decide +kernel
theorem dX12_tells_70 : decode cX12_tells 70 = .ok (.lconst 1, 1) := by decide +kernel
theorem dX12_tells_71 : decode cX12_tells 71 = .ok (.lstore 10, 2) := by decide +kernel
theorem dX12_tells_73 : decode cX12_tells 73 = .ok (.aload_n 0, 1) := by decide +kernel
theorem dX12_tells_74 : decode cX12_tells 74 = .ok (.lload 10, 2) := by decide +kernel
theorem dX12_tells_76 : decode cX12_tells 76 = .ok (.aload_n 0, 1) := by decide +kernel
theorem dX12_tells_77 : decode cX12_tells 77 = .ok (.getfield 80, 3) := by decide +kernel
theorem dX12_tells_80 : decode cX12_tells 80 = .ok (.iload 9, 2) := by decide +kernel
theorem dX12_tells_82 : decode cX12_tells 82 = .ok (.laload, 1) := by decide +kernel
theorem dX12_tells_83 : decode cX12_tells 83 = .ok (.lmul, 1) := by decide +kernel
theorem dX12_tells_84 : decode cX12_tells 84 = .ok (.iload_n 2, 1) := by decide +kernel
theorem dX12_tells_85 : decode cX12_tells 85 = .ok (.ifCond .ne 8, 3) := by decide +kernel
theorem dX12_tells_88 : decode cX12_tells 88 = .ok (.lload 7, 2) := by decide +kernel
theorem dX12_tells_90 : decode cX12_tells 90 = .ok (.goto 5, 3) := by decide +kernel
theorem dX12_tells_93 : decode cX12_tells 93 = .ok (.lload 5, 2) := by decide +kernel
theorem dX12_tells_95 : decode cX12_tells 95 = .ok (.lmul, 1) := by decide +kernel
theorem dX12_tells_96 : decode cX12_tells 96 = .ok (.aload_n 0, 1) := by decide +kernel
theorem dX12_tells_97 : decode cX12_tells 97 = .ok (.getfield 84, 3) := by decide +kernel
theorem dX12_tells_100 : decode cX12_tells 100 = .ok (.iload 9, 2) := by decide +kernel
theorem dX12_tells_102 : decode cX12_tells 102 = .ok (.laload, 1) := by decide +kernel
theorem dX12_tells_103 : decode cX12_tells 103 = .ok (.iload_n 2, 1) := by decide +kernel
theorem dX12_tells_104 : decode cX12_tells 104 = .ok (.ifCond .ne 8, 3) := by decide +kernel
theorem dX12_tells_107 : decode cX12_tells 107 = .ok (.lload 5, 2) := by decide +kernel
theorem dX12_tells_109 : decode cX12_tells 109 = .ok (.goto 5, 3) := by decide +kernel
theorem dX12_tells_112 : decode cX12_tells 112 = .ok (.lload 7, 2) := by decide +kernel
theorem dX12_tells_114 : decode cX12_tells 114 = .ok (.lmul, 1) := by decide +kernel
theorem dX12_tells_115 : decode cX12_tells 115 = .ok (.invokevirtual 305, 3) := by decide +kernel
theorem dX12_tells_118 : decode cX12_tells 118 = .ok (.return_, 1) := by decide +kernel
theorem dX12_tells_119 : decode cX12_tells 119 = .ok (.aload_n 0, 1) := by decide +kernel
theorem dX12_tells_120 : decode cX12_tells 120 = .ok (.getfield 19, 3) := by decide +kernel
theorem dX12_tells_123 : decode cX12_tells 123 = .ok (.iload_n 1, 1) := by decide +kernel
theorem dX12_tells_124 : decode cX12_tells 124 = .ok (.iaload, 1) := by decide +kernel
theorem dX12_tells_125 : decode cX12_tells 125 = .ok (.istore 9, 2) := by decide +kernel
theorem dX12_tells_127 : decode cX12_tells 127 = .ok (.iload_n 2, 1) := by decide +kernel
theorem dX12_tells_128 : decode cX12_tells 128 = .ok (.iconst 2, 1) := by decide +kernel
theorem dX12_tells_129 : decode cX12_tells 129 = .ok (.if_icmp .ne 65, 3) := by decide +kernel
theorem dX12_tells_132 : decode cX12_tells 132 = .ok (.aload_n 0, 1) := by decide +kernel
theorem dX12_tells_133 : decode cX12_tells 133 = .ok (.lload 5, 2) := by decide +kernel
theorem dX12_tells_135 : decode cX12_tells 135 = .ok (.aload_n 0, 1) := by decide +kernel
theorem dX12_tells_136 : decode cX12_tells 136 = .ok (.getfield 80, 3) := by decide +kernel
theorem dX12_tells_139 : decode cX12_tells 139 = .ok (.iload_n 3, 1) := by decide +kernel
theorem dX12_tells_140 : decode cX12_tells 140 = .ok (.laload, 1) := by decide +kernel
theorem dX12_tells_141 : decode cX12_tells 141 = .ok (.lmul, 1) := by decide +kernel
theorem dX12_tells_142 : decode cX12_tells 142 = .ok (.aload_n 0, 1) := by decide +kernel
theorem dX12_tells_143 : decode cX12_tells 143 = .ok (.getfield 84, 3) := by decide +kernel
theorem dX12_tells_146 : decode cX12_tells 146 = .ok (.iload 4, 2) := by decide +kernel
theorem dX12_tells_148 : decode cX12_tells 148 = .ok (.laload, 1) := by decide +kernel
theorem dX12_tells_149 : decode cX12_tells 149 = .ok (.lmul, 1) := by decide +kernel
theorem dX12_tells_150 : decode cX12_tells 150 = .ok (.lload 7, 2) := by decide +kernel
theorem dX12_tells_152 : decode cX12_tells 152 = .ok (.aload_n 0, 1) := by decide +kernel
theorem dX12_tells_153 : decode cX12_tells 153 = .ok (.getfield 80, 3) := by decide +kernel
theorem dX12_tells_156 : decode cX12_tells 156 = .ok (.iload 4, 2) := by decide +kernel
theorem dX12_tells_158 : decode cX12_tells 158 = .ok (.laload, 1) := by decide +kernel
theorem dX12_tells_159 : decode cX12_tells 159 = .ok (.lmul, 1) := by decide +kernel
theorem dX12_tells_160 : decode cX12_tells 160 = .ok (.aload_n 0, 1) := by decide +kernel
theorem dX12_tells_161 : decode cX12_tells 161 = .ok (.getfield 84, 3) := by decide +kernel
theorem dX12_tells_164 : decode cX12_tells 164 = .ok (.iload_n 3, 1) := by decide +kernel
theorem dX12_tells_165 : decode cX12_tells 165 = .ok (.laload, 1) := by decide +kernel
theorem dX12_tells_166 : decode cX12_tells 166 = .ok (.lmul, 1) := by decide +kernel
theorem dX12_tells_167 : decode cX12_tells 167 = .ok (.ladd, 1) := by decide +kernel
theorem dX12_tells_168 : decode cX12_tells 168 = .ok (.lload 5, 2) := by decide +kernel
theorem dX12_tells_170 : decode cX12_tells 170 = .ok (.lload 7, 2) := by decide +kernel
theorem dX12_tells_172 : decode cX12_tells 172 = .ok (.ladd, 1) := by decide +kernel
theorem dX12_tells_173 : decode cX12_tells 173 = .ok (.aload_n 0, 1) := by decide +kernel
theorem dX12_tells_174 : decode cX12_tells 174 = .ok (.getfield 84, 3) := by decide +kernel
theorem dX12_tells_177 : decode cX12_tells 177 = .ok (.iload_n 3, 1) := by decide +kernel
theorem dX12_tells_178 : decode cX12_tells 178 = .ok (.laload, 1) := by decide +kernel
theorem dX12_tells_179 : decode cX12_tells 179 = .ok (.lmul, 1) := by decide +kernel
theorem dX12_tells_180 : decode cX12_tells 180 = .ok (.aload_n 0, 1) := by decide +kernel
theorem dX12_tells_181 : decode cX12_tells 181 = .ok (.getfield 84, 3) := by decide +kernel
theorem dX12_tells_184 : decode cX12_tells 184 = .ok (.iload 4, 2) := by decide +kernel
theorem dX12_tells_186 : decode cX12_tells 186 = .ok (.laload, 1) := by decide +kernel
theorem dX12_tells_187 : decode cX12_tells 187 = .ok (.lmul, 1) := by decide +kernel
theorem dX12_tells_188 : decode cX12_tells 188 = .ok (.invokevirtual 305, 3) := by decide +kernel
theorem dX12_tells_191 : decode cX12_tells 191 = .ok (.goto 103, 3) := by decide +kernel
theorem dX12_tells_194 : decode cX12_tells 194 = .ok (.iload_n 2, 1) := by decide +kernel
theorem dX12_tells_195 : decode cX12_tells 195 = .ok (.ifCond .ne 8, 3) := by decide +kernel
theorem dX12_tells_198 : decode cX12_tells 198 = .ok (.iload 4, 2) := by decide +kernel
theorem dX12_tells_200 : decode cX12_tells 200 = .ok (.goto 4, 3) := by decide +kernel
theorem dX12_tells_203 : decode cX12_tells 203 = .ok (.iload_n 3, 1) := by decide +kernel
theorem dX12_tells_204 : decode cX12_tells 204 = .ok (.istore 10, 2) := by decide +kernel
theorem dX12_tells_206 : decode cX12_tells 206 = .ok (.iload_n 2, 1) := by decide +kernel
theorem dX12_tells_207 : decode cX12_tells 207 = .ok (.ifCond .ne 8, 3) := by decide +kernel
theorem dX12_tells_210 : decode cX12_tells 210 = .ok (.lload 7, 2) := by decide +kernel
theorem dX12_tells_212 : decode cX12_tells 212 = .ok (.goto 5, 3) := by decide +kernel
theorem dX12_tells_215 : decode cX12_tells 215 = .ok (.lload 5, 2) := by decide +kernel
theorem dX12_tells_217 : decode cX12_tells 217 = .ok (.lstore 11, 2) := by decide +kernel
theorem dX12_tells_219 : decode cX12_tells 219 = .ok (.iload_n 2, 1) := by decide +kernel
theorem dX12_tells_220 : decode cX12_tells 220 = .ok (.ifCond .ne 8, 3) := by decide +kernel
theorem dX12_tells_223 : decode cX12_tells 223 = .ok (.lload 5, 2) := by decide +kernel
theorem dX12_tells_225 : decode cX12_tells 225 = .ok (.goto 5, 3) := by decide +kernel
theorem dX12_tells_228 : decode cX12_tells 228 = .ok (.lload 7, 2) := by decide +kernel
theorem dX12_tells_230 : decode cX12_tells 230 = .ok (.lstore 13, 2) := by decide +kernel
theorem dX12_tells_232 : decode cX12_tells 232 = .ok (.aload_n 0, 1) := by decide +kernel
theorem dX12_tells_233 : decode cX12_tells 233 = .ok (.lload 5, 2) := by decide +kernel
theorem dX12_tells_235 : decode cX12_tells 235 = .ok (.lload 7, 2) := by decide +kernel
theorem dX12_tells_237 : decode cX12_tells 237 = .ok (.ladd, 1) := by decide +kernel
theorem dX12_tells_238 : decode cX12_tells 238 = .ok (.aload_n 0, 1) := by decide +kernel
theorem dX12_tells_239 : decode cX12_tells 239 = .ok (.getfield 80, 3) := by decide +kernel
theorem dX12_tells_242 : decode cX12_tells 242 = .ok (.iload 9, 2) := by decide +kernel
theorem dX12_tells_244 : decode cX12_tells 244 = .ok (.laload, 1) := by decide +kernel
theorem dX12_tells_245 : decode cX12_tells 245 = .ok (.lmul, 1) := by decide +kernel
theorem dX12_tells_246 : decode cX12_tells 246 = .ok (.aload_n 0, 1) := by decide +kernel
theorem dX12_tells_247 : decode cX12_tells 247 = .ok (.getfield 84, 3) := by decide +kernel
theorem dX12_tells_250 : decode cX12_tells 250 = .ok (.iload 10, 2) := by decide +kernel
theorem dX12_tells_252 : decode cX12_tells 252 = .ok (.laload, 1) := by decide +kernel
theorem dX12_tells_253 : decode cX12_tells 253 = .ok (.lmul, 1) := by decide +kernel
theorem dX12_tells_254 : decode cX12_tells 254 = .ok (.lload 11, 2) := by decide +kernel
theorem dX12_tells_256 : decode cX12_tells 256 = .ok (.aload_n 0, 1) := by decide +kernel
theorem dX12_tells_257 : decode cX12_tells 257 = .ok (.getfield 80, 3) := by decide +kernel
theorem dX12_tells_260 : decode cX12_tells 260 = .ok (.iload 10, 2) := by decide +kernel
theorem dX12_tells_262 : decode cX12_tells 262 = .ok (.laload, 1) := by decide +kernel
theorem dX12_tells_263 : decode cX12_tells 263 = .ok (.lmul, 1) := by decide +kernel
theorem dX12_tells_264 : decode cX12_tells 264 = .ok (.aload_n 0, 1) := by decide +kernel
theorem dX12_tells_265 : decode cX12_tells 265 = .ok (.getfield 84, 3) := by decide +kernel
theorem dX12_tells_268 : decode cX12_tells 268 = .ok (.iload 9, 2) := by decide +kernel
theorem dX12_tells_270 : decode cX12_tells 270 = .ok (.laload, 1) := by decide +kernel
theorem dX12_tells_271 : decode cX12_tells 271 = .ok (.lmul, 1) := by decide +kernel
theorem dX12_tells_272 : decode cX12_tells 272 = .ok (.lsub, 1) := by decide +kernel
theorem dX12_tells_273 : decode cX12_tells 273 = .ok (.lload 13, 2) := by decide +kernel
theorem dX12_tells_275 : decode cX12_tells 275 = .ok (.aload_n 0, 1) := by decide +kernel
theorem dX12_tells_276 : decode cX12_tells 276 = .ok (.getfield 84, 3) := by decide +kernel
theorem dX12_tells_279 : decode cX12_tells 279 = .ok (.iload 9, 2) := by decide +kernel
theorem dX12_tells_281 : decode cX12_tells 281 = .ok (.laload, 1) := by decide +kernel
theorem dX12_tells_282 : decode cX12_tells 282 = .ok (.lmul, 1) := by decide +kernel
theorem dX12_tells_283 : decode cX12_tells 283 = .ok (.aload_n 0, 1) := by decide +kernel
theorem dX12_tells_284 : decode cX12_tells 284 = .ok (.getfield 84, 3) := by decide +kernel
theorem dX12_tells_287 : decode cX12_tells 287 = .ok (.iload 10, 2) := by decide +kernel
theorem dX12_tells_289 : decode cX12_tells 289 = .ok (.laload, 1) := by decide +kernel
theorem dX12_tells_290 : decode cX12_tells 290 = .ok (.lmul, 1) := by decide +kernel
theorem dX12_tells_291 : decode cX12_tells 291 = .ok (.invokevirtual 305, 3) := by decide +kernel
theorem dX12_tells_294 : decode cX12_tells 294 = .ok (.return_, 1) := by decide +kernel
def f_Md_tells_L230 (l5 : Int64) (l7 : Int64) (l9 : Int32) (l10 : Int32) (l11 : Int64) (s0 : Int64) (I : (Nat → Nat → Int32)) (L : (Nat → Nat → Int64)) : Option ((Nat → Nat → Int32) × (Nat → Nat → Int64)) := (if (0 ≤ l9 ∧ l9 < (24 : Int32)) then (if (0 ≤ l10 ∧ l10 < (24 : Int32)) then (if (0 ≤ l10 ∧ l10 < (24 : Int32)) then (if (0 ≤ l9 ∧ l9 < (24 : Int32)) then (bnd ((((l5 + l7) * (L 58 (l9.toNatClampNeg))) * (L 59 (l10.toNatClampNeg))) - ((l11 * (L 58 (l10.toNatClampNeg))) * (L 59 (l9.toNatClampNeg)))) fun x30 => (if (0 ≤ l9 ∧ l9 < (24 : Int32)) then (if (0 ≤ l10 ∧ l10 < (24 : Int32)) then ((f_Md_told x30 ((s0 * (L 59 (l9.toNatClampNeg))) * (L 59 (l10.toNatClampNeg))) I L).bind fun q33 => (some (q33.1, q33.2))) else none) else none)) else none) else none) else none) else none)
set_option maxRecDepth 100000 in
set_option maxHeartbeats 4000000 in
theorem x_Md_tells_L230 {G : xG} {S : List xSh} {Rf : Nat → Nat → Option Nat} (hT : xTM S Rf) {l5 : Int64} {l7 : Int64} {l9 : Int32} {l10 : Int32} {l11 : Int64} {s0 : Int64} {I : Nat → Nat → Int32} {L : Nat → Nat → Int64} {q : ((Nat → Nat → Int32) × (Nat → Nat → Int64))} (hf : f_Md_tells_L230 l5 l7 l9 l10 l11 s0 I L = some q) : X G 3 m_Md_tells 230 [(0, .ref (xP G 34)), (5, .long l5), (7, .long l7), (9, .int l9), (10, .int l10), (11, .long l11)] [.long s0] (S, I, L, Rf) (none, (S, q.1, q.2, Rf)) := by
  replace hf := (f_Md_tells_L230.eq_1 _ _ _ _ _ _ _ _).symm.trans hf
  refine X_lstore (pc := 230) [(13, .long s0), (0, .ref (xP G 34)), (5, .long l5), (7, .long l7), (9, .int l9), (10, .int l10), (11, .long l11)] dX12_tells_230 (by decide) rfl ?_
  refine X_aload_n (pc := 232) (i := 0) 1 dX12_tells_232 rfl rfl ?_
  refine X_lload (pc := 233) 2 dX12_tells_233 rfl ?_
  refine X_lload (pc := 235) 3 dX12_tells_235 rfl ?_
  refine X_ladd (pc := 237) dX12_tells_237 ?_
  refine X_aload_n (pc := 238) (i := 0) 1 dX12_tells_238 rfl rfl ?_
  refine X_getr (pc := 239) (a := 34) (ci := 11) (j := 49) (c := 58) (sh_34 hT) (by decide) k_1277 (rf_34_49 hT) (fun _ h => h) dX12_tells_239 ?_
  refine X_iload (pc := 242) 4 dX12_tells_242 rfl ?_
  obtain ⟨c26, hf⟩ := gd_some hf
  refine X_laldj (pc := 244) (j := l9.toNatClampNeg) (L 58 (l9.toNatClampNeg)) (sh_58 hT) (vp_in_lit (N := 24) c26 (by decide)) rfl rfl dX12_tells_244 ?_
  refine X_lmul (pc := 245) dX12_tells_245 ?_
  refine X_aload_n (pc := 246) (i := 0) 1 dX12_tells_246 rfl rfl ?_
  refine X_getr (pc := 247) (a := 34) (ci := 11) (j := 50) (c := 59) (sh_34 hT) (by decide) k_1278 (rf_34_50 hT) (fun _ h => h) dX12_tells_247 ?_
  refine X_iload (pc := 250) 5 dX12_tells_250 rfl ?_
  obtain ⟨c27, hf⟩ := gd_some hf
  refine X_laldj (pc := 252) (j := l10.toNatClampNeg) (L 59 (l10.toNatClampNeg)) (sh_59 hT) (vp_in_lit (N := 24) c27 (by decide)) rfl rfl dX12_tells_252 ?_
  refine X_lmul (pc := 253) dX12_tells_253 ?_
  refine X_lload (pc := 254) 6 dX12_tells_254 rfl ?_
  refine X_aload_n (pc := 256) (i := 0) 1 dX12_tells_256 rfl rfl ?_
  refine X_getr (pc := 257) (a := 34) (ci := 11) (j := 49) (c := 58) (sh_34 hT) (by decide) k_1277 (rf_34_49 hT) (fun _ h => h) dX12_tells_257 ?_
  refine X_iload (pc := 260) 5 dX12_tells_260 rfl ?_
  obtain ⟨c28, hf⟩ := gd_some hf
  refine X_laldj (pc := 262) (j := l10.toNatClampNeg) (L 58 (l10.toNatClampNeg)) (sh_58 hT) (vp_in_lit (N := 24) c28 (by decide)) rfl rfl dX12_tells_262 ?_
  refine X_lmul (pc := 263) dX12_tells_263 ?_
  refine X_aload_n (pc := 264) (i := 0) 1 dX12_tells_264 rfl rfl ?_
  refine X_getr (pc := 265) (a := 34) (ci := 11) (j := 50) (c := 59) (sh_34 hT) (by decide) k_1278 (rf_34_50 hT) (fun _ h => h) dX12_tells_265 ?_
  refine X_iload (pc := 268) 4 dX12_tells_268 rfl ?_
  obtain ⟨c29, hf⟩ := gd_some hf
  refine X_laldj (pc := 270) (j := l9.toNatClampNeg) (L 59 (l9.toNatClampNeg)) (sh_59 hT) (vp_in_lit (N := 24) c29 (by decide)) rfl rfl dX12_tells_270 ?_
  refine X_lmul (pc := 271) dX12_tells_271 ?_
  refine X_lsub (pc := 272) dX12_tells_272 ?_
  obtain ⟨x30, ex30, hf⟩ := bnd_e hf
  refine X_tople ex30 ?_
  refine X_lload (pc := 273) 0 dX12_tells_273 rfl ?_
  refine X_aload_n (pc := 275) (i := 0) 1 dX12_tells_275 rfl rfl ?_
  refine X_getr (pc := 276) (a := 34) (ci := 11) (j := 50) (c := 59) (sh_34 hT) (by decide) k_1278 (rf_34_50 hT) (fun _ h => h) dX12_tells_276 ?_
  refine X_iload (pc := 279) 4 dX12_tells_279 rfl ?_
  obtain ⟨c31, hf⟩ := gd_some hf
  refine X_laldj (pc := 281) (j := l9.toNatClampNeg) (L 59 (l9.toNatClampNeg)) (sh_59 hT) (vp_in_lit (N := 24) c31 (by decide)) rfl rfl dX12_tells_281 ?_
  refine X_lmul (pc := 282) dX12_tells_282 ?_
  refine X_aload_n (pc := 283) (i := 0) 1 dX12_tells_283 rfl rfl ?_
  refine X_getr (pc := 284) (a := 34) (ci := 11) (j := 50) (c := 59) (sh_34 hT) (by decide) k_1278 (rf_34_50 hT) (fun _ h => h) dX12_tells_284 ?_
  refine X_iload (pc := 287) 5 dX12_tells_287 rfl ?_
  obtain ⟨c32, hf⟩ := gd_some hf
  refine X_laldj (pc := 289) (j := l10.toNatClampNeg) (L 59 (l10.toNatClampNeg)) (sh_59 hT) (vp_in_lit (N := 24) c32 (by decide)) rfl rfl dX12_tells_289 ?_
  refine X_lmul (pc := 290) dX12_tells_290 ?_
  obtain ⟨q33, c34, hf⟩ := bd_some hf
  refine X_invV_v (pc := 291) (c_Md_told hT c34) ok_Md_told (ci := 11) (sh_34 hT) k_1561 k_1563 k_49 nd_35 (by decide) rfl (Nat.le_of_ble_eq_true rfl) dX12_tells_291 ?_
  cases hf
  exact X_return (pc := 294) rfl dX12_tells_294
theorem u_Md_tells_L230 {S : List xSh} {l5 : Int64} {l7 : Int64} {l9 : Int32} {l10 : Int32} {l11 : Int64} {s0 : Int64} {I : Nat → Nat → Int32} {L : Nat → Nat → Int64} {q : ((Nat → Nat → Int32) × (Nat → Nat → Int64))} (hf : f_Md_tells_L230 l5 l7 l9 l10 l11 s0 I L = some q) : FR S [] [4451, 4452] I q.1 L q.2 := by
  replace hf := (f_Md_tells_L230.eq_1 _ _ _ _ _ _ _ _).symm.trans hf
  obtain ⟨c26, hf⟩ := gd_some hf
  obtain ⟨c27, hf⟩ := gd_some hf
  obtain ⟨c28, hf⟩ := gd_some hf
  obtain ⟨c29, hf⟩ := gd_some hf
  obtain ⟨x30, ex30, hf⟩ := bnd_e hf
  obtain ⟨c31, hf⟩ := gd_some hf
  obtain ⟨c32, hf⟩ := gd_some hf
  obtain ⟨q33, c34, hf⟩ := bd_some hf
  cases hf
  exact (FR.tr FR.rf (u_Md_told (q := q33) c34) (by decide) (by decide))
def f_Md_tells_L217 (l2 : Int32) (l5 : Int64) (l7 : Int64) (l9 : Int32) (l10 : Int32) (s0 : Int64) (I : (Nat → Nat → Int32)) (L : (Nat → Nat → Int64)) : Option ((Nat → Nat → Int32) × (Nat → Nat → Int64)) := (if l2 = (0 : Int32) then (f_Md_tells_L230 l5 l7 l9 l10 s0 l5 I L) else (f_Md_tells_L230 l5 l7 l9 l10 s0 l7 I L))
set_option maxRecDepth 100000 in
set_option maxHeartbeats 4000000 in
theorem x_Md_tells_L217 {G : xG} {S : List xSh} {Rf : Nat → Nat → Option Nat} (hT : xTM S Rf) {l2 : Int32} {l5 : Int64} {l7 : Int64} {l9 : Int32} {l10 : Int32} {s0 : Int64} {I : Nat → Nat → Int32} {L : Nat → Nat → Int64} {q : ((Nat → Nat → Int32) × (Nat → Nat → Int64))} (hf : f_Md_tells_L217 l2 l5 l7 l9 l10 s0 I L = some q) : X G 3 m_Md_tells 217 [(0, .ref (xP G 34)), (2, .int l2), (5, .long l5), (7, .long l7), (9, .int l9), (10, .int l10)] [.long s0] (S, I, L, Rf) (none, (S, q.1, q.2, Rf)) := by
  replace hf := (f_Md_tells_L217.eq_1 _ _ _ _ _ _ _ _).symm.trans hf
  refine X_lstore (pc := 217) [(11, .long s0), (0, .ref (xP G 34)), (2, .int l2), (5, .long l5), (7, .long l7), (9, .int l9), (10, .int l10)] dX12_tells_217 (by decide) rfl ?_
  refine X_iload_n (pc := 219) (i := 2) 2 dX12_tells_219 rfl rfl ?_
  by_cases c25 : l2 = (0 : Int32)
  · replace hf := (if_pos c25).symm.trans hf
    refine X_if_ne_f (pc := 220) 228 dX12_tells_220 (by decide) c25 ?_
    refine X_lload (pc := 223) 3 dX12_tells_223 rfl ?_
    refine X_goto (pc := 225) 230 dX12_tells_225 (by decide) ?_
    exact X_lvs [1, 3, 4, 5, 6, 0] rfl (x_Md_tells_L230 hT hf)
  · replace hf := (if_neg c25).symm.trans hf
    refine X_if_ne_t (pc := 220) 228 dX12_tells_220 (by decide) c25 ?_
    refine X_lload (pc := 228) 4 dX12_tells_228 rfl ?_
    exact X_lvs [1, 3, 4, 5, 6, 0] rfl (x_Md_tells_L230 hT hf)
theorem u_Md_tells_L217 {S : List xSh} {l2 : Int32} {l5 : Int64} {l7 : Int64} {l9 : Int32} {l10 : Int32} {s0 : Int64} {I : Nat → Nat → Int32} {L : Nat → Nat → Int64} {q : ((Nat → Nat → Int32) × (Nat → Nat → Int64))} (hf : f_Md_tells_L217 l2 l5 l7 l9 l10 s0 I L = some q) : FR S [] [4451, 4452] I q.1 L q.2 := by
  replace hf := (f_Md_tells_L217.eq_1 _ _ _ _ _ _ _ _).symm.trans hf
  by_cases c25 : l2 = (0 : Int32)
  · replace hf := (if_pos c25).symm.trans hf
    exact FR.tr FR.rf (u_Md_tells_L230 hf) (by decide) (by decide)
  · replace hf := (if_neg c25).symm.trans hf
    exact FR.tr FR.rf (u_Md_tells_L230 hf) (by decide) (by decide)
def f_Md_tells_L204 (l2 : Int32) (l5 : Int64) (l7 : Int64) (l9 : Int32) (s0 : Int32) (I : (Nat → Nat → Int32)) (L : (Nat → Nat → Int64)) : Option ((Nat → Nat → Int32) × (Nat → Nat → Int64)) := (if l2 = (0 : Int32) then (f_Md_tells_L217 l2 l5 l7 l9 s0 l7 I L) else (f_Md_tells_L217 l2 l5 l7 l9 s0 l5 I L))
set_option maxRecDepth 100000 in
set_option maxHeartbeats 4000000 in
theorem x_Md_tells_L204 {G : xG} {S : List xSh} {Rf : Nat → Nat → Option Nat} (hT : xTM S Rf) {l2 : Int32} {l5 : Int64} {l7 : Int64} {l9 : Int32} {s0 : Int32} {I : Nat → Nat → Int32} {L : Nat → Nat → Int64} {q : ((Nat → Nat → Int32) × (Nat → Nat → Int64))} (hf : f_Md_tells_L204 l2 l5 l7 l9 s0 I L = some q) : X G 3 m_Md_tells 204 [(0, .ref (xP G 34)), (2, .int l2), (5, .long l5), (7, .long l7), (9, .int l9)] [.int s0] (S, I, L, Rf) (none, (S, q.1, q.2, Rf)) := by
  replace hf := (f_Md_tells_L204.eq_1 _ _ _ _ _ _ _).symm.trans hf
  refine X_istore (pc := 204) [(10, .int s0), (0, .ref (xP G 34)), (2, .int l2), (5, .long l5), (7, .long l7), (9, .int l9)] dX12_tells_204 (by decide) rfl ?_
  refine X_iload_n (pc := 206) (i := 2) 2 dX12_tells_206 rfl rfl ?_
  by_cases c24 : l2 = (0 : Int32)
  · replace hf := (if_pos c24).symm.trans hf
    refine X_if_ne_f (pc := 207) 215 dX12_tells_207 (by decide) c24 ?_
    refine X_lload (pc := 210) 4 dX12_tells_210 rfl ?_
    refine X_goto (pc := 212) 217 dX12_tells_212 (by decide) ?_
    exact X_lvs [1, 2, 3, 4, 5, 0] rfl (x_Md_tells_L217 hT hf)
  · replace hf := (if_neg c24).symm.trans hf
    refine X_if_ne_t (pc := 207) 215 dX12_tells_207 (by decide) c24 ?_
    refine X_lload (pc := 215) 3 dX12_tells_215 rfl ?_
    exact X_lvs [1, 2, 3, 4, 5, 0] rfl (x_Md_tells_L217 hT hf)
theorem u_Md_tells_L204 {S : List xSh} {l2 : Int32} {l5 : Int64} {l7 : Int64} {l9 : Int32} {s0 : Int32} {I : Nat → Nat → Int32} {L : Nat → Nat → Int64} {q : ((Nat → Nat → Int32) × (Nat → Nat → Int64))} (hf : f_Md_tells_L204 l2 l5 l7 l9 s0 I L = some q) : FR S [] [4451, 4452] I q.1 L q.2 := by
  replace hf := (f_Md_tells_L204.eq_1 _ _ _ _ _ _ _).symm.trans hf
  by_cases c24 : l2 = (0 : Int32)
  · replace hf := (if_pos c24).symm.trans hf
    exact FR.tr FR.rf (u_Md_tells_L217 hf) (by decide) (by decide)
  · replace hf := (if_neg c24).symm.trans hf
    exact FR.tr FR.rf (u_Md_tells_L217 hf) (by decide) (by decide)
def f_Md_tells_L114 (s1 : Int64) (s2 : Int64) (s3 : Int64) (I : (Nat → Nat → Int32)) (L : (Nat → Nat → Int64)) : Option ((Nat → Nat → Int32) × (Nat → Nat → Int64)) := ((f_Md_told s1 (s2 * s3) I L).bind fun q42 => (some (q42.1, q42.2)))
set_option maxRecDepth 100000 in
set_option maxHeartbeats 4000000 in
theorem x_Md_tells_L114 {G : xG} {S : List xSh} {Rf : Nat → Nat → Option Nat} (hT : xTM S Rf) {s1 : Int64} {s2 : Int64} {s3 : Int64} {I : Nat → Nat → Int32} {L : Nat → Nat → Int64} {q : ((Nat → Nat → Int32) × (Nat → Nat → Int64))} (hf : f_Md_tells_L114 s1 s2 s3 I L = some q) : X G 3 m_Md_tells 114 [] [.long s3, .long s2, .long s1, .ref (xP G 34)] (S, I, L, Rf) (none, (S, q.1, q.2, Rf)) := by
  replace hf := (f_Md_tells_L114.eq_1 _ _ _ _ _).symm.trans hf
  refine X_lmul (pc := 114) dX12_tells_114 ?_
  obtain ⟨q42, c43, hf⟩ := bd_some hf
  refine X_invV_v (pc := 115) (c_Md_told hT c43) ok_Md_told (ci := 11) (sh_34 hT) k_1561 k_1563 k_49 nd_35 (by decide) rfl (Nat.le_of_ble_eq_true rfl) dX12_tells_115 ?_
  cases hf
  exact X_return (pc := 118) rfl dX12_tells_118
theorem u_Md_tells_L114 {S : List xSh} {s1 : Int64} {s2 : Int64} {s3 : Int64} {I : Nat → Nat → Int32} {L : Nat → Nat → Int64} {q : ((Nat → Nat → Int32) × (Nat → Nat → Int64))} (hf : f_Md_tells_L114 s1 s2 s3 I L = some q) : FR S [] [4451, 4452] I q.1 L q.2 := by
  replace hf := (f_Md_tells_L114.eq_1 _ _ _ _ _).symm.trans hf
  obtain ⟨q42, c43, hf⟩ := bd_some hf
  cases hf
  exact (FR.tr FR.rf (u_Md_told (q := q42) c43) (by decide) (by decide))
def f_Md_tells_L95 (l2 : Int32) (l5 : Int64) (l7 : Int64) (l9 : Int32) (s1 : Int64) (s2 : Int64) (I : (Nat → Nat → Int32)) (L : (Nat → Nat → Int64)) : Option ((Nat → Nat → Int32) × (Nat → Nat → Int64)) := (if (0 ≤ l9 ∧ l9 < (24 : Int32)) then (if l2 = (0 : Int32) then (f_Md_tells_L114 (s1 * s2) (L 59 (l9.toNatClampNeg)) l5 I L) else (f_Md_tells_L114 (s1 * s2) (L 59 (l9.toNatClampNeg)) l7 I L)) else none)
set_option maxRecDepth 100000 in
set_option maxHeartbeats 4000000 in
theorem x_Md_tells_L95 {G : xG} {S : List xSh} {Rf : Nat → Nat → Option Nat} (hT : xTM S Rf) {l2 : Int32} {l5 : Int64} {l7 : Int64} {l9 : Int32} {s1 : Int64} {s2 : Int64} {I : Nat → Nat → Int32} {L : Nat → Nat → Int64} {q : ((Nat → Nat → Int32) × (Nat → Nat → Int64))} (hf : f_Md_tells_L95 l2 l5 l7 l9 s1 s2 I L = some q) : X G 3 m_Md_tells 95 [(0, .ref (xP G 34)), (2, .int l2), (5, .long l5), (7, .long l7), (9, .int l9)] [.long s2, .long s1, .ref (xP G 34)] (S, I, L, Rf) (none, (S, q.1, q.2, Rf)) := by
  replace hf := (f_Md_tells_L95.eq_1 _ _ _ _ _ _ _ _).symm.trans hf
  refine X_lmul (pc := 95) dX12_tells_95 ?_
  refine X_aload_n (pc := 96) (i := 0) 0 dX12_tells_96 rfl rfl ?_
  refine X_getr (pc := 97) (a := 34) (ci := 11) (j := 50) (c := 59) (sh_34 hT) (by decide) k_1278 (rf_34_50 hT) (fun _ h => h) dX12_tells_97 ?_
  refine X_iload (pc := 100) 4 dX12_tells_100 rfl ?_
  obtain ⟨c40, hf⟩ := gd_some hf
  refine X_laldj (pc := 102) (j := l9.toNatClampNeg) (L 59 (l9.toNatClampNeg)) (sh_59 hT) (vp_in_lit (N := 24) c40 (by decide)) rfl rfl dX12_tells_102 ?_
  refine X_iload_n (pc := 103) (i := 2) 1 dX12_tells_103 rfl rfl ?_
  by_cases c41 : l2 = (0 : Int32)
  · replace hf := (if_pos c41).symm.trans hf
    refine X_if_ne_f (pc := 104) 112 dX12_tells_104 (by decide) c41 ?_
    refine X_lload (pc := 107) 2 dX12_tells_107 rfl ?_
    refine X_goto (pc := 109) 114 dX12_tells_109 (by decide) ?_
    exact X_lvs [] rfl (x_Md_tells_L114 hT hf)
  · replace hf := (if_neg c41).symm.trans hf
    refine X_if_ne_t (pc := 104) 112 dX12_tells_104 (by decide) c41 ?_
    refine X_lload (pc := 112) 3 dX12_tells_112 rfl ?_
    exact X_lvs [] rfl (x_Md_tells_L114 hT hf)
theorem u_Md_tells_L95 {S : List xSh} {l2 : Int32} {l5 : Int64} {l7 : Int64} {l9 : Int32} {s1 : Int64} {s2 : Int64} {I : Nat → Nat → Int32} {L : Nat → Nat → Int64} {q : ((Nat → Nat → Int32) × (Nat → Nat → Int64))} (hf : f_Md_tells_L95 l2 l5 l7 l9 s1 s2 I L = some q) : FR S [] [4451, 4452] I q.1 L q.2 := by
  replace hf := (f_Md_tells_L95.eq_1 _ _ _ _ _ _ _ _).symm.trans hf
  obtain ⟨c40, hf⟩ := gd_some hf
  by_cases c41 : l2 = (0 : Int32)
  · replace hf := (if_pos c41).symm.trans hf
    exact FR.tr FR.rf (u_Md_tells_L114 hf) (by decide) (by decide)
  · replace hf := (if_neg c41).symm.trans hf
    exact FR.tr FR.rf (u_Md_tells_L114 hf) (by decide) (by decide)
def f_Md_tells_L71 (l2 : Int32) (l5 : Int64) (l7 : Int64) (l9 : Int32) (s0 : Int64) (I : (Nat → Nat → Int32)) (L : (Nat → Nat → Int64)) : Option ((Nat → Nat → Int32) × (Nat → Nat → Int64)) := (if (0 ≤ l9 ∧ l9 < (24 : Int32)) then (if l2 = (0 : Int32) then (f_Md_tells_L95 l2 l5 l7 l9 (s0 * (L 58 (l9.toNatClampNeg))) l7 I L) else (f_Md_tells_L95 l2 l5 l7 l9 (s0 * (L 58 (l9.toNatClampNeg))) l5 I L)) else none)
set_option maxRecDepth 100000 in
set_option maxHeartbeats 4000000 in
theorem x_Md_tells_L71 {G : xG} {S : List xSh} {Rf : Nat → Nat → Option Nat} (hT : xTM S Rf) {l2 : Int32} {l5 : Int64} {l7 : Int64} {l9 : Int32} {s0 : Int64} {I : Nat → Nat → Int32} {L : Nat → Nat → Int64} {q : ((Nat → Nat → Int32) × (Nat → Nat → Int64))} (hf : f_Md_tells_L71 l2 l5 l7 l9 s0 I L = some q) : X G 3 m_Md_tells 71 [(0, .ref (xP G 34)), (2, .int l2), (5, .long l5), (7, .long l7), (9, .int l9)] [.long s0] (S, I, L, Rf) (none, (S, q.1, q.2, Rf)) := by
  replace hf := (f_Md_tells_L71.eq_1 _ _ _ _ _ _ _).symm.trans hf
  refine X_lstore (pc := 71) [(10, .long s0), (0, .ref (xP G 34)), (2, .int l2), (5, .long l5), (7, .long l7), (9, .int l9)] dX12_tells_71 (by decide) rfl ?_
  refine X_aload_n (pc := 73) (i := 0) 1 dX12_tells_73 rfl rfl ?_
  refine X_lload (pc := 74) 0 dX12_tells_74 rfl ?_
  refine X_aload_n (pc := 76) (i := 0) 1 dX12_tells_76 rfl rfl ?_
  refine X_getr (pc := 77) (a := 34) (ci := 11) (j := 49) (c := 58) (sh_34 hT) (by decide) k_1277 (rf_34_49 hT) (fun _ h => h) dX12_tells_77 ?_
  refine X_iload (pc := 80) 5 dX12_tells_80 rfl ?_
  obtain ⟨c38, hf⟩ := gd_some hf
  refine X_laldj (pc := 82) (j := l9.toNatClampNeg) (L 58 (l9.toNatClampNeg)) (sh_58 hT) (vp_in_lit (N := 24) c38 (by decide)) rfl rfl dX12_tells_82 ?_
  refine X_lmul (pc := 83) dX12_tells_83 ?_
  refine X_iload_n (pc := 84) (i := 2) 2 dX12_tells_84 rfl rfl ?_
  by_cases c39 : l2 = (0 : Int32)
  · replace hf := (if_pos c39).symm.trans hf
    refine X_if_ne_f (pc := 85) 93 dX12_tells_85 (by decide) c39 ?_
    refine X_lload (pc := 88) 4 dX12_tells_88 rfl ?_
    refine X_goto (pc := 90) 95 dX12_tells_90 (by decide) ?_
    exact X_lvs [1, 2, 3, 4, 5] rfl (x_Md_tells_L95 hT hf)
  · replace hf := (if_neg c39).symm.trans hf
    refine X_if_ne_t (pc := 85) 93 dX12_tells_85 (by decide) c39 ?_
    refine X_lload (pc := 93) 3 dX12_tells_93 rfl ?_
    exact X_lvs [1, 2, 3, 4, 5] rfl (x_Md_tells_L95 hT hf)
theorem u_Md_tells_L71 {S : List xSh} {l2 : Int32} {l5 : Int64} {l7 : Int64} {l9 : Int32} {s0 : Int64} {I : Nat → Nat → Int32} {L : Nat → Nat → Int64} {q : ((Nat → Nat → Int32) × (Nat → Nat → Int64))} (hf : f_Md_tells_L71 l2 l5 l7 l9 s0 I L = some q) : FR S [] [4451, 4452] I q.1 L q.2 := by
  replace hf := (f_Md_tells_L71.eq_1 _ _ _ _ _ _ _).symm.trans hf
  obtain ⟨c38, hf⟩ := gd_some hf
  by_cases c39 : l2 = (0 : Int32)
  · replace hf := (if_pos c39).symm.trans hf
    exact FR.tr FR.rf (u_Md_tells_L95 hf) (by decide) (by decide)
  · replace hf := (if_neg c39).symm.trans hf
    exact FR.tr FR.rf (u_Md_tells_L95 hf) (by decide) (by decide)
def f_Md_tells_L53 (l1 : Int32) (l2 : Int32) (l5 : Int64) (l7 : Int64) (s0 : Int32) (I : (Nat → Nat → Int32)) (L : (Nat → Nat → Int64)) : Option ((Nat → Nat → Int32) × (Nat → Nat → Int64)) := (if (0 ≤ l1 ∧ l1 < (40 : Int32)) then (if (I 35 (l1.toNatClampNeg)) = (0 : Int32) then (f_Md_tells_L71 l2 l5 l7 s0 (-1 : Int64) I L) else (f_Md_tells_L71 l2 l5 l7 s0 (1 : Int64) I L)) else none)
set_option maxRecDepth 100000 in
set_option maxHeartbeats 4000000 in
theorem x_Md_tells_L53 {G : xG} {S : List xSh} {Rf : Nat → Nat → Option Nat} (hT : xTM S Rf) {l1 : Int32} {l2 : Int32} {l5 : Int64} {l7 : Int64} {s0 : Int32} {I : Nat → Nat → Int32} {L : Nat → Nat → Int64} {q : ((Nat → Nat → Int32) × (Nat → Nat → Int64))} (hf : f_Md_tells_L53 l1 l2 l5 l7 s0 I L = some q) : X G 3 m_Md_tells 53 [(0, .ref (xP G 34)), (1, .int l1), (2, .int l2), (5, .long l5), (7, .long l7)] [.int s0] (S, I, L, Rf) (none, (S, q.1, q.2, Rf)) := by
  replace hf := (f_Md_tells_L53.eq_1 _ _ _ _ _ _ _).symm.trans hf
  refine X_istore (pc := 53) [(9, .int s0), (0, .ref (xP G 34)), (1, .int l1), (2, .int l2), (5, .long l5), (7, .long l7)] dX12_tells_53 (by decide) rfl ?_
  refine X_aload_n (pc := 55) (i := 0) 1 dX12_tells_55 rfl rfl ?_
  refine X_getr (pc := 56) (a := 34) (ci := 11) (j := 2) (c := 35) (sh_34 hT) (by decide) k_1230 (rf_34_2 hT) (fun _ h => h) dX12_tells_56 ?_
  refine X_iload_n (pc := 59) (i := 1) 2 dX12_tells_59 rfl rfl ?_
  obtain ⟨c36, hf⟩ := gd_some hf
  refine X_ialdj (pc := 60) (j := l1.toNatClampNeg) (I 35 (l1.toNatClampNeg)) (sh_35 hT) (vp_in_lit (N := 40) c36 (by decide)) rfl rfl dX12_tells_60 ?_
  by_cases c37 : (I 35 (l1.toNatClampNeg)) = (0 : Int32)
  · replace hf := (if_pos c37).symm.trans hf
    refine X_if_ne_f (pc := 61) 70 dX12_tells_61 (by decide) c37 ?_
    refine X_ldc2 (pc := 64) (-1 : Int64) k_1560 dX12_tells_64 ?_
    refine X_goto (pc := 67) 71 dX12_tells_67 (by decide) ?_
    exact X_lvs [1, 3, 4, 5, 0] rfl (x_Md_tells_L71 hT hf)
  · replace hf := (if_neg c37).symm.trans hf
    refine X_if_ne_t (pc := 61) 70 dX12_tells_61 (by decide) c37 ?_
    refine X_lconst (pc := 70) (1 : Int64) dX12_tells_70 (by decide) ?_
    exact X_lvs [1, 3, 4, 5, 0] rfl (x_Md_tells_L71 hT hf)
theorem u_Md_tells_L53 {S : List xSh} {l1 : Int32} {l2 : Int32} {l5 : Int64} {l7 : Int64} {s0 : Int32} {I : Nat → Nat → Int32} {L : Nat → Nat → Int64} {q : ((Nat → Nat → Int32) × (Nat → Nat → Int64))} (hf : f_Md_tells_L53 l1 l2 l5 l7 s0 I L = some q) : FR S [] [4451, 4452] I q.1 L q.2 := by
  replace hf := (f_Md_tells_L53.eq_1 _ _ _ _ _ _ _).symm.trans hf
  obtain ⟨c36, hf⟩ := gd_some hf
  by_cases c37 : (I 35 (l1.toNatClampNeg)) = (0 : Int32)
  · replace hf := (if_pos c37).symm.trans hf
    exact FR.tr FR.rf (u_Md_tells_L71 hf) (by decide) (by decide)
  · replace hf := (if_neg c37).symm.trans hf
    exact FR.tr FR.rf (u_Md_tells_L71 hf) (by decide) (by decide)
def f_Md_tells (a0 : Int32) (a1 : Int32) (I : Nat → Nat → Int32) (L : Nat → Nat → Int64) : Option ((Nat → Nat → Int32) × (Nat → Nat → Int64)) := (if (0 ≤ a0 ∧ a0 < (40 : Int32)) then (bnd (I 36 (a0.toNatClampNeg)) fun x2 => (if (0 ≤ a0 ∧ a0 < (40 : Int32)) then (bnd (I 37 (a0.toNatClampNeg)) fun x4 => (if (0 ≤ a0 ∧ a0 < (40 : Int32)) then (bnd (Int32.toInt64 (I 39 (a0.toNatClampNeg))) fun x6 => (if (0 ≤ a0 ∧ a0 < (40 : Int32)) then (bnd (Int32.toInt64 (I 40 (a0.toNatClampNeg))) fun x8 => (if (0 ≤ a0 ∧ a0 < (40 : Int32)) then (if (2 : Int32) ≤ (I 35 (a0.toNatClampNeg)) then (if (0 ≤ a0 ∧ a0 < (40 : Int32)) then (bnd (I 38 (a0.toNatClampNeg)) fun x12 => (if a1 = (2 : Int32) then (if (0 ≤ x2 ∧ x2 < (24 : Int32)) then (if (0 ≤ x4 ∧ x4 < (24 : Int32)) then (if (0 ≤ x4 ∧ x4 < (24 : Int32)) then (if (0 ≤ x2 ∧ x2 < (24 : Int32)) then (bnd (((x6 * (L 58 (x2.toNatClampNeg))) * (L 59 (x4.toNatClampNeg))) + ((x8 * (L 58 (x4.toNatClampNeg))) * (L 59 (x2.toNatClampNeg)))) fun x18 => (if (0 ≤ x2 ∧ x2 < (24 : Int32)) then (if (0 ≤ x4 ∧ x4 < (24 : Int32)) then ((f_Md_told x18 (((x6 + x8) * (L 59 (x2.toNatClampNeg))) * (L 59 (x4.toNatClampNeg))) I L).bind fun q21 => (some (q21.1, q21.2))) else none) else none)) else none) else none) else none) else none) else (if a1 = (0 : Int32) then (f_Md_tells_L204 a1 x6 x8 x12 x4 I L) else (f_Md_tells_L204 a1 x6 x8 x12 x2 I L)))) else none) else (if a1 = (0 : Int32) then (f_Md_tells_L53 a0 a1 x6 x8 x4 I L) else (f_Md_tells_L53 a0 a1 x6 x8 x2 I L))) else none)) else none)) else none)) else none)) else none)
set_option maxRecDepth 100000 in
set_option maxHeartbeats 4000000 in
theorem c_Md_tells {G : xG} {S : List xSh} {Rf : Nat → Nat → Option Nat} (hT : xTM S Rf) {a0 : Int32} {a1 : Int32} {I : Nat → Nat → Int32} {L : Nat → Nat → Int64} {q : ((Nat → Nat → Int32) × (Nat → Nat → Int64))} (hf : f_Md_tells a0 a1 I L = some q) : CT G 3 m_Md_tells [.ref (xP G 34), .int a0, .int a1] (S, I, L, Rf) (none, (S, q.1, q.2, Rf)) := by
  refine CT.of (by decide +kernel) (Nat.le_of_ble_eq_true rfl) ?_
  show X G 3 m_Md_tells 0 [(0, .ref (xP G 34)), (1, .int a0), (2, .int a1)] [] (S, I, L, Rf) (none, (S, q.1, q.2, Rf))
  replace hf := (f_Md_tells.eq_1 _ _ _ _).symm.trans hf
  refine X_aload_n (pc := 0) (i := 0) 0 dX12_tells_0 rfl rfl ?_
  refine X_getr (pc := 1) (a := 34) (ci := 11) (j := 3) (c := 36) (sh_34 hT) (by decide) k_1231 (rf_34_3 hT) (fun _ h => h) dX12_tells_1 ?_
  refine X_iload_n (pc := 4) (i := 1) 1 dX12_tells_4 rfl rfl ?_
  obtain ⟨c1, hf⟩ := gd_some hf
  refine X_ialdj (pc := 5) (j := a0.toNatClampNeg) (I 36 (a0.toNatClampNeg)) (sh_36 hT) (vp_in_lit (N := 40) c1 (by decide)) rfl rfl dX12_tells_5 ?_
  obtain ⟨x2, ex2, hf⟩ := bnd_e hf
  refine X_tope ex2 ?_
  refine X_istore_n (pc := 6) (i := 3) [(3, .int x2), (0, .ref (xP G 34)), (1, .int a0), (2, .int a1)] dX12_tells_6 rfl (by decide) rfl ?_
  refine X_aload_n (pc := 7) (i := 0) 1 dX12_tells_7 rfl rfl ?_
  refine X_getr (pc := 8) (a := 34) (ci := 11) (j := 4) (c := 37) (sh_34 hT) (by decide) k_1232 (rf_34_4 hT) (fun _ h => h) dX12_tells_8 ?_
  refine X_iload_n (pc := 11) (i := 1) 2 dX12_tells_11 rfl rfl ?_
  obtain ⟨c3, hf⟩ := gd_some hf
  refine X_ialdj (pc := 12) (j := a0.toNatClampNeg) (I 37 (a0.toNatClampNeg)) (sh_37 hT) (vp_in_lit (N := 40) c3 (by decide)) rfl rfl dX12_tells_12 ?_
  obtain ⟨x4, ex4, hf⟩ := bnd_e hf
  refine X_tope ex4 ?_
  refine X_istore (pc := 13) [(4, .int x4), (3, .int x2), (0, .ref (xP G 34)), (1, .int a0), (2, .int a1)] dX12_tells_13 (by decide) rfl ?_
  refine X_aload_n (pc := 15) (i := 0) 2 dX12_tells_15 rfl rfl ?_
  refine X_getr (pc := 16) (a := 34) (ci := 11) (j := 6) (c := 39) (sh_34 hT) (by decide) k_1234 (rf_34_6 hT) (fun _ h => h) dX12_tells_16 ?_
  refine X_iload_n (pc := 19) (i := 1) 3 dX12_tells_19 rfl rfl ?_
  obtain ⟨c5, hf⟩ := gd_some hf
  refine X_ialdj (pc := 20) (j := a0.toNatClampNeg) (I 39 (a0.toNatClampNeg)) (sh_39 hT) (vp_in_lit (N := 40) c5 (by decide)) rfl rfl dX12_tells_20 ?_
  refine X_i2l (pc := 21) dX12_tells_21 ?_
  obtain ⟨x6, ex6, hf⟩ := bnd_e hf
  refine X_tople ex6 ?_
  refine X_lstore (pc := 22) [(5, .long x6), (4, .int x4), (3, .int x2), (0, .ref (xP G 34)), (1, .int a0), (2, .int a1)] dX12_tells_22 (by decide) rfl ?_
  refine X_aload_n (pc := 24) (i := 0) 3 dX12_tells_24 rfl rfl ?_
  refine X_getr (pc := 25) (a := 34) (ci := 11) (j := 7) (c := 40) (sh_34 hT) (by decide) k_1235 (rf_34_7 hT) (fun _ h => h) dX12_tells_25 ?_
  refine X_iload_n (pc := 28) (i := 1) 4 dX12_tells_28 rfl rfl ?_
  obtain ⟨c7, hf⟩ := gd_some hf
  refine X_ialdj (pc := 29) (j := a0.toNatClampNeg) (I 40 (a0.toNatClampNeg)) (sh_40 hT) (vp_in_lit (N := 40) c7 (by decide)) rfl rfl dX12_tells_29 ?_
  refine X_i2l (pc := 30) dX12_tells_30 ?_
  obtain ⟨x8, ex8, hf⟩ := bnd_e hf
  refine X_tople ex8 ?_
  refine X_lstore (pc := 31) [(7, .long x8), (5, .long x6), (4, .int x4), (3, .int x2), (0, .ref (xP G 34)), (1, .int a0), (2, .int a1)] dX12_tells_31 (by decide) rfl ?_
  refine X_aload_n (pc := 33) (i := 0) 4 dX12_tells_33 rfl rfl ?_
  refine X_getr (pc := 34) (a := 34) (ci := 11) (j := 2) (c := 35) (sh_34 hT) (by decide) k_1230 (rf_34_2 hT) (fun _ h => h) dX12_tells_34 ?_
  refine X_iload_n (pc := 37) (i := 1) 5 dX12_tells_37 rfl rfl ?_
  obtain ⟨c9, hf⟩ := gd_some hf
  refine X_ialdj (pc := 38) (j := a0.toNatClampNeg) (I 35 (a0.toNatClampNeg)) (sh_35 hT) (vp_in_lit (N := 40) c9 (by decide)) rfl rfl dX12_tells_38 ?_
  refine X_iconst (pc := 39) (2 : Int32) dX12_tells_39 (by decide) ?_
  by_cases c10 : (2 : Int32) ≤ (I 35 (a0.toNatClampNeg))
  · replace hf := (if_pos c10).symm.trans hf
    refine X_icmp_ge_t (pc := 40) 119 dX12_tells_40 (by decide) c10 ?_
    refine X_aload_n (pc := 119) (i := 0) 4 dX12_tells_119 rfl rfl ?_
    refine X_getr (pc := 120) (a := 34) (ci := 11) (j := 5) (c := 38) (sh_34 hT) (by decide) k_1233 (rf_34_5 hT) (fun _ h => h) dX12_tells_120 ?_
    refine X_iload_n (pc := 123) (i := 1) 5 dX12_tells_123 rfl rfl ?_
    obtain ⟨c11, hf⟩ := gd_some hf
    refine X_ialdj (pc := 124) (j := a0.toNatClampNeg) (I 38 (a0.toNatClampNeg)) (sh_38 hT) (vp_in_lit (N := 40) c11 (by decide)) rfl rfl dX12_tells_124 ?_
    obtain ⟨x12, ex12, hf⟩ := bnd_e hf
    refine X_tope ex12 ?_
    refine X_istore (pc := 125) [(9, .int x12), (7, .long x8), (5, .long x6), (4, .int x4), (3, .int x2), (0, .ref (xP G 34)), (1, .int a0), (2, .int a1)] dX12_tells_125 (by decide) rfl ?_
    refine X_iload_n (pc := 127) (i := 2) 7 dX12_tells_127 rfl rfl ?_
    refine X_iconst (pc := 128) (2 : Int32) dX12_tells_128 (by decide) ?_
    by_cases c13 : a1 = (2 : Int32)
    · replace hf := (if_pos c13).symm.trans hf
      refine X_icmp_ne_f (pc := 129) 194 dX12_tells_129 (by decide) c13 ?_
      refine X_aload_n (pc := 132) (i := 0) 5 dX12_tells_132 rfl rfl ?_
      refine X_lload (pc := 133) 2 dX12_tells_133 rfl ?_
      refine X_aload_n (pc := 135) (i := 0) 5 dX12_tells_135 rfl rfl ?_
      refine X_getr (pc := 136) (a := 34) (ci := 11) (j := 49) (c := 58) (sh_34 hT) (by decide) k_1277 (rf_34_49 hT) (fun _ h => h) dX12_tells_136 ?_
      refine X_iload_n (pc := 139) (i := 3) 4 dX12_tells_139 rfl rfl ?_
      obtain ⟨c14, hf⟩ := gd_some hf
      refine X_laldj (pc := 140) (j := x2.toNatClampNeg) (L 58 (x2.toNatClampNeg)) (sh_58 hT) (vp_in_lit (N := 24) c14 (by decide)) rfl rfl dX12_tells_140 ?_
      refine X_lmul (pc := 141) dX12_tells_141 ?_
      refine X_aload_n (pc := 142) (i := 0) 5 dX12_tells_142 rfl rfl ?_
      refine X_getr (pc := 143) (a := 34) (ci := 11) (j := 50) (c := 59) (sh_34 hT) (by decide) k_1278 (rf_34_50 hT) (fun _ h => h) dX12_tells_143 ?_
      refine X_iload (pc := 146) 3 dX12_tells_146 rfl ?_
      obtain ⟨c15, hf⟩ := gd_some hf
      refine X_laldj (pc := 148) (j := x4.toNatClampNeg) (L 59 (x4.toNatClampNeg)) (sh_59 hT) (vp_in_lit (N := 24) c15 (by decide)) rfl rfl dX12_tells_148 ?_
      refine X_lmul (pc := 149) dX12_tells_149 ?_
      refine X_lload (pc := 150) 1 dX12_tells_150 rfl ?_
      refine X_aload_n (pc := 152) (i := 0) 5 dX12_tells_152 rfl rfl ?_
      refine X_getr (pc := 153) (a := 34) (ci := 11) (j := 49) (c := 58) (sh_34 hT) (by decide) k_1277 (rf_34_49 hT) (fun _ h => h) dX12_tells_153 ?_
      refine X_iload (pc := 156) 3 dX12_tells_156 rfl ?_
      obtain ⟨c16, hf⟩ := gd_some hf
      refine X_laldj (pc := 158) (j := x4.toNatClampNeg) (L 58 (x4.toNatClampNeg)) (sh_58 hT) (vp_in_lit (N := 24) c16 (by decide)) rfl rfl dX12_tells_158 ?_
      refine X_lmul (pc := 159) dX12_tells_159 ?_
      refine X_aload_n (pc := 160) (i := 0) 5 dX12_tells_160 rfl rfl ?_
      refine X_getr (pc := 161) (a := 34) (ci := 11) (j := 50) (c := 59) (sh_34 hT) (by decide) k_1278 (rf_34_50 hT) (fun _ h => h) dX12_tells_161 ?_
      refine X_iload_n (pc := 164) (i := 3) 4 dX12_tells_164 rfl rfl ?_
      obtain ⟨c17, hf⟩ := gd_some hf
      refine X_laldj (pc := 165) (j := x2.toNatClampNeg) (L 59 (x2.toNatClampNeg)) (sh_59 hT) (vp_in_lit (N := 24) c17 (by decide)) rfl rfl dX12_tells_165 ?_
      refine X_lmul (pc := 166) dX12_tells_166 ?_
      refine X_ladd (pc := 167) dX12_tells_167 ?_
      obtain ⟨x18, ex18, hf⟩ := bnd_e hf
      refine X_tople ex18 ?_
      refine X_lload (pc := 168) 2 dX12_tells_168 rfl ?_
      refine X_lload (pc := 170) 1 dX12_tells_170 rfl ?_
      refine X_ladd (pc := 172) dX12_tells_172 ?_
      refine X_aload_n (pc := 173) (i := 0) 5 dX12_tells_173 rfl rfl ?_
      refine X_getr (pc := 174) (a := 34) (ci := 11) (j := 50) (c := 59) (sh_34 hT) (by decide) k_1278 (rf_34_50 hT) (fun _ h => h) dX12_tells_174 ?_
      refine X_iload_n (pc := 177) (i := 3) 4 dX12_tells_177 rfl rfl ?_
      obtain ⟨c19, hf⟩ := gd_some hf
      refine X_laldj (pc := 178) (j := x2.toNatClampNeg) (L 59 (x2.toNatClampNeg)) (sh_59 hT) (vp_in_lit (N := 24) c19 (by decide)) rfl rfl dX12_tells_178 ?_
      refine X_lmul (pc := 179) dX12_tells_179 ?_
      refine X_aload_n (pc := 180) (i := 0) 5 dX12_tells_180 rfl rfl ?_
      refine X_getr (pc := 181) (a := 34) (ci := 11) (j := 50) (c := 59) (sh_34 hT) (by decide) k_1278 (rf_34_50 hT) (fun _ h => h) dX12_tells_181 ?_
      refine X_iload (pc := 184) 3 dX12_tells_184 rfl ?_
      obtain ⟨c20, hf⟩ := gd_some hf
      refine X_laldj (pc := 186) (j := x4.toNatClampNeg) (L 59 (x4.toNatClampNeg)) (sh_59 hT) (vp_in_lit (N := 24) c20 (by decide)) rfl rfl dX12_tells_186 ?_
      refine X_lmul (pc := 187) dX12_tells_187 ?_
      obtain ⟨q21, c22, hf⟩ := bd_some hf
      refine X_invV_v (pc := 188) (c_Md_told hT c22) ok_Md_told (ci := 11) (sh_34 hT) k_1561 k_1563 k_49 nd_35 (by decide) rfl (Nat.le_of_ble_eq_true rfl) dX12_tells_188 ?_
      refine X_goto (pc := 191) 294 dX12_tells_191 (by decide) ?_
      cases hf
      exact X_return (pc := 294) rfl dX12_tells_294
    · replace hf := (if_neg c13).symm.trans hf
      refine X_icmp_ne_t (pc := 129) 194 dX12_tells_129 (by decide) c13 ?_
      refine X_iload_n (pc := 194) (i := 2) 7 dX12_tells_194 rfl rfl ?_
      by_cases c23 : a1 = (0 : Int32)
      · replace hf := (if_pos c23).symm.trans hf
        refine X_if_ne_f (pc := 195) 203 dX12_tells_195 (by decide) c23 ?_
        refine X_iload (pc := 198) 3 dX12_tells_198 rfl ?_
        refine X_goto (pc := 200) 204 dX12_tells_200 (by decide) ?_
        exact X_lvs [5, 7, 2, 1, 0] rfl (x_Md_tells_L204 hT hf)
      · replace hf := (if_neg c23).symm.trans hf
        refine X_if_ne_t (pc := 195) 203 dX12_tells_195 (by decide) c23 ?_
        refine X_iload_n (pc := 203) (i := 3) 4 dX12_tells_203 rfl rfl ?_
        exact X_lvs [5, 7, 2, 1, 0] rfl (x_Md_tells_L204 hT hf)
  · replace hf := (if_neg c10).symm.trans hf
    refine X_icmp_ge_f (pc := 40) 119 dX12_tells_40 (by decide) c10 ?_
    refine X_iload_n (pc := 43) (i := 2) 6 dX12_tells_43 rfl rfl ?_
    by_cases c35 : a1 = (0 : Int32)
    · replace hf := (if_pos c35).symm.trans hf
      refine X_if_ne_f (pc := 44) 52 dX12_tells_44 (by decide) c35 ?_
      refine X_iload (pc := 47) 2 dX12_tells_47 rfl ?_
      refine X_goto (pc := 49) 53 dX12_tells_49 (by decide) ?_
      exact X_lvs [4, 5, 6, 1, 0] rfl (x_Md_tells_L53 hT hf)
    · replace hf := (if_neg c35).symm.trans hf
      refine X_if_ne_t (pc := 44) 52 dX12_tells_44 (by decide) c35 ?_
      refine X_iload_n (pc := 52) (i := 3) 3 dX12_tells_52 rfl rfl ?_
      exact X_lvs [4, 5, 6, 1, 0] rfl (x_Md_tells_L53 hT hf)
theorem u_Md_tells {S : List xSh} {a0 : Int32} {a1 : Int32} {I : Nat → Nat → Int32} {L : Nat → Nat → Int64} {q : ((Nat → Nat → Int32) × (Nat → Nat → Int64))} (hf : f_Md_tells a0 a1 I L = some q) : FR S [] [4451, 4452] I q.1 L q.2 := by
  replace hf := (f_Md_tells.eq_1 _ _ _ _).symm.trans hf
  obtain ⟨c1, hf⟩ := gd_some hf
  obtain ⟨x2, ex2, hf⟩ := bnd_e hf
  obtain ⟨c3, hf⟩ := gd_some hf
  obtain ⟨x4, ex4, hf⟩ := bnd_e hf
  obtain ⟨c5, hf⟩ := gd_some hf
  obtain ⟨x6, ex6, hf⟩ := bnd_e hf
  obtain ⟨c7, hf⟩ := gd_some hf
  obtain ⟨x8, ex8, hf⟩ := bnd_e hf
  obtain ⟨c9, hf⟩ := gd_some hf
  by_cases c10 : (2 : Int32) ≤ (I 35 (a0.toNatClampNeg))
  · replace hf := (if_pos c10).symm.trans hf
    obtain ⟨c11, hf⟩ := gd_some hf
    obtain ⟨x12, ex12, hf⟩ := bnd_e hf
    by_cases c13 : a1 = (2 : Int32)
    · replace hf := (if_pos c13).symm.trans hf
      obtain ⟨c14, hf⟩ := gd_some hf
      obtain ⟨c15, hf⟩ := gd_some hf
      obtain ⟨c16, hf⟩ := gd_some hf
      obtain ⟨c17, hf⟩ := gd_some hf
      obtain ⟨x18, ex18, hf⟩ := bnd_e hf
      obtain ⟨c19, hf⟩ := gd_some hf
      obtain ⟨c20, hf⟩ := gd_some hf
      obtain ⟨q21, c22, hf⟩ := bd_some hf
      cases hf
      exact (FR.tr FR.rf (u_Md_told (q := q21) c22) (by decide) (by decide))
    · replace hf := (if_neg c13).symm.trans hf
      by_cases c23 : a1 = (0 : Int32)
      · replace hf := (if_pos c23).symm.trans hf
        exact FR.tr FR.rf (u_Md_tells_L204 hf) (by decide) (by decide)
      · replace hf := (if_neg c23).symm.trans hf
        exact FR.tr FR.rf (u_Md_tells_L204 hf) (by decide) (by decide)
  · replace hf := (if_neg c10).symm.trans hf
    by_cases c35 : a1 = (0 : Int32)
    · replace hf := (if_pos c35).symm.trans hf
      exact FR.tr FR.rf (u_Md_tells_L53 hf) (by decide) (by decide)
    · replace hf := (if_neg c35).symm.trans hf
      exact FR.tr FR.rf (u_Md_tells_L53 hf) (by decide) (by decide)

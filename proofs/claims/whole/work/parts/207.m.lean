theorem dX11_takeSteps_0 : decode cX11_takeSteps 0 = .ok (.aload_n 0, 1) := by decide +kernel
theorem dX11_takeSteps_1 : decode cX11_takeSteps 1 = .ok (.getfield 10, 3) := by decide +kernel
theorem dX11_takeSteps_4 : decode cX11_takeSteps 4 = .ok (.getfield 232, 3) := by decide +kernel
theorem dX11_takeSteps_7 : decode cX11_takeSteps 7 = .ok (.istore_n 2, 1) := by decide +kernel
theorem dX11_takeSteps_8 : decode cX11_takeSteps 8 = .ok (.iconst 0, 1) := by decide +kernel
theorem dX11_takeSteps_9 : decode cX11_takeSteps 9 = .ok (.istore_n 3, 1) := by decide +kernel
theorem dX11_takeSteps_10 : decode cX11_takeSteps 10 = .ok (.iload_n 3, 1) := by decide +kernel
theorem dX11_takeSteps_11 : decode cX11_takeSteps 11 = .ok (.iload_n 1, 1) := by decide +kernel
theorem dX11_takeSteps_12 : decode cX11_takeSteps 12 = .ok (.if_icmp .ge 23, 3) := by decide +kernel
theorem dX11_takeSteps_15 : decode cX11_takeSteps 15 = .ok (.aload_n 0, 1) := by decide +kernel
theorem dX11_takeSteps_16 : decode cX11_takeSteps 16 = .ok (.getfield 10, 3) := by decide +kernel
theorem dX11_takeSteps_19 : decode cX11_takeSteps 19 = .ok (.invokevirtual 401, 3) := by decide +kernel
theorem dX11_takeSteps_22 : decode cX11_takeSteps 22 = .ok (.ifCond .eq 7, 3) := by decide +kernel
theorem dX11_takeSteps_25 : decode cX11_takeSteps 25 = .ok (.aload_n 0, 1) := by decide +kernel
theorem dX11_takeSteps_26 : decode cX11_takeSteps 26 = .ok (.invokevirtual 405, 3) := by decide +kernel
theorem dX11_takeSteps_29 : decode cX11_takeSteps 29 = .ok (.iinc 3 1, 3) := by decide +kernel
theorem dX11_takeSteps_32 : decode cX11_takeSteps 32 = .ok (.goto (-22), 3) := by decide +kernel
theorem dX11_takeSteps_35 : decode cX11_takeSteps 35 = .ok (.aload_n 0, 1) := by decide +kernel
theorem dX11_takeSteps_36 : decode cX11_takeSteps 36 = .ok (.getfield 10, 3) := by decide +kernel
theorem dX11_takeSteps_39 : decode cX11_takeSteps 39 = .ok (.getfield 232, 3) := by decide +kernel
theorem dX11_takeSteps_42 : decode cX11_takeSteps 42 = .ok (.iload_n 2, 1) := by decide +kernel
theorem dX11_takeSteps_43 : decode cX11_takeSteps 43 = .ok (.isub, 1) := by decide +kernel
theorem dX11_takeSteps_44 : decode cX11_takeSteps 44 = .ok (.ireturn, 1) := by decide +kernel
def f_H_takeSteps_L10 (S : List xSh) (Rf : Nat → Nat → Option Nat) : Nat → Int32 → Int32 → Int32 → (Nat → Nat → Int32) → (Nat → Nat → Int64) → Option (Int32 × (Nat → Nat → Int32) × (Nat → Nat → Int64))
  | 0, _, _, _, _, _ => none
  | n + 1, l1, l2, l3, I, L => (if l1 ≤ l3 then (some (((I 1 12) - l2), I, L)) else ((f_Es_step I L).bind fun q3 => (if q3.1 = (0 : Int32) then (f_H_takeSteps_L10 S Rf n l1 l2 (l3 + (1 : Int32)) q3.2.1 q3.2.2) else ((f_H_passTick S Rf q3.2.1 q3.2.2).bind fun q6 => (f_H_takeSteps_L10 S Rf n l1 l2 (l3 + (1 : Int32)) q6.1 q6.2)))))
set_option maxRecDepth 100000 in
set_option maxHeartbeats 4000000 in
theorem x_H_takeSteps_L10 {G : xG} {S : List xSh} {Rf : Nat → Nat → Option Nat} (hT : xTH S Rf) : ∀ (n : Nat) {l1 : Int32} {l2 : Int32} {l3 : Int32} {I : Nat → Nat → Int32} {L : Nat → Nat → Int64} {q : (Int32 × (Nat → Nat → Int32) × (Nat → Nat → Int64))}, f_H_takeSteps_L10 S Rf n l1 l2 l3 I L = some q → X G 5 m_H_takeSteps 10 [(0, .ref (xP G 0)), (1, .int l1), (2, .int l2), (3, .int l3)] [] (S, I, L, Rf) (some (.int q.1), (S, q.2.1, q.2.2, Rf)) := by
  intro n
  induction n with
  | zero =>
    intro l1 l2 l3 I L q hf
    exact absurd (show none = some q from hf) (by simp)
  | succ n ih =>
    intro l1 l2 l3 I L q hf
    replace hf := (f_H_takeSteps_L10.eq_2 _ _ _ _ _ _ _ _).symm.trans hf
    refine X_iload_n (pc := 10) (i := 3) 3 dX11_takeSteps_10 rfl rfl ?_
    refine X_iload_n (pc := 11) (i := 1) 1 dX11_takeSteps_11 rfl rfl ?_
    by_cases c2 : l1 ≤ l3
    · replace hf := (if_pos c2).symm.trans hf
      refine X_icmp_ge_t (pc := 12) 35 dX11_takeSteps_12 (by decide) c2 ?_
      refine X_aload_n (pc := 35) (i := 0) 0 dX11_takeSteps_35 rfl rfl ?_
      refine X_getr (pc := 36) (a := 0) (ci := 10) (j := 0) (c := 1) (sh_0 hT) (by decide) k_494 (rf_0_0 hT) (fun _ h => h) dX11_takeSteps_36 ?_
      refine X_get (pc := 39) (a := 1) (ci := 5) (j := 12) (.int (I 1 12)) (sh_1 hT) (by decide) k_193 rfl dX11_takeSteps_39 ?_
      refine X_iload_n (pc := 42) (i := 2) 2 dX11_takeSteps_42 rfl rfl ?_
      refine X_isub (pc := 43) dX11_takeSteps_43 ?_
      cases hf
      exact X_ireturn (pc := 44) rfl dX11_takeSteps_44
    · replace hf := (if_neg c2).symm.trans hf
      refine X_icmp_ge_f (pc := 12) 35 dX11_takeSteps_12 (by decide) c2 ?_
      refine X_aload_n (pc := 15) (i := 0) 0 dX11_takeSteps_15 rfl rfl ?_
      refine X_getr (pc := 16) (a := 0) (ci := 10) (j := 0) (c := 1) (sh_0 hT) (by decide) k_494 (rf_0_0 hT) (fun _ h => h) dX11_takeSteps_16 ?_
      obtain ⟨q3, c4, hf⟩ := bd_some hf
      refine X_invV_i (pc := 19) (c_Es_step hT c4) ok_Es_step (ci := 5) (sh_1 hT) k_739 k_740 k_741 nd_11 (by decide) rfl (Nat.le_of_ble_eq_true rfl) dX11_takeSteps_19 ?_
      by_cases c5 : q3.1 = (0 : Int32)
      · replace hf := (if_pos c5).symm.trans hf
        refine X_if_eq_t (pc := 22) 29 dX11_takeSteps_22 (by decide) c5 ?_
        refine X_iinc (pc := 29) (i := 3) (q := 3) (v := (l3 + (1 : Int32))) [(3, .int (l3 + (1 : Int32))), (0, .ref (xP G 0)), (1, .int l1), (2, .int l2)] dX11_takeSteps_29 rfl rfl (by decide) rfl ?_
        refine X_goto (pc := 32) 10 dX11_takeSteps_32 (by decide) ?_
        exact X_lvs [1, 2, 3, 0] rfl (ih hf)
      · replace hf := (if_neg c5).symm.trans hf
        refine X_if_eq_f (pc := 22) 29 dX11_takeSteps_22 (by decide) c5 ?_
        refine X_aload_n (pc := 25) (i := 0) 0 dX11_takeSteps_25 rfl rfl ?_
        obtain ⟨q6, c7, hf⟩ := bd_some hf
        refine X_invV_v (pc := 26) (c_H_passTick hT c7) ok_H_passTick (ci := 10) (sh_0 hT) k_783 k_785 k_14 nd_1 (by decide) rfl (Nat.le_of_ble_eq_true rfl) dX11_takeSteps_26 ?_
        refine X_iinc (pc := 29) (i := 3) (q := 3) (v := (l3 + (1 : Int32))) [(3, .int (l3 + (1 : Int32))), (0, .ref (xP G 0)), (1, .int l1), (2, .int l2)] dX11_takeSteps_29 rfl rfl (by decide) rfl ?_
        refine X_goto (pc := 32) 10 dX11_takeSteps_32 (by decide) ?_
        exact X_lvs [1, 2, 3, 0] rfl (ih hf)
theorem u_H_takeSteps_L10 {S : List xSh} {Rf : Nat → Nat → Option Nat} : ∀ (n : Nat) {l1 : Int32} {l2 : Int32} {l3 : Int32} {I : Nat → Nat → Int32} {L : Nat → Nat → Int64} {q : (Int32 × (Nat → Nat → Int32) × (Nat → Nat → Int64))}, f_H_takeSteps_L10 S Rf n l1 l2 l3 I L = some q → FR S [10, 14, 1108, 1109, 1110, 1111, 1112, 1113, 1114, 1903, 2303] [] I q.2.1 L q.2.2 := by
  intro n
  induction n with
  | zero =>
    intro l1 l2 l3 I L q hf
    exact absurd (show none = some q from hf) (by simp)
  | succ n ih =>
    intro l1 l2 l3 I L q hf
    replace hf := (f_H_takeSteps_L10.eq_2 _ _ _ _ _ _ _ _).symm.trans hf
    by_cases c2 : l1 ≤ l3
    · replace hf := (if_pos c2).symm.trans hf
      cases hf
      exact FR.rf
    · replace hf := (if_neg c2).symm.trans hf
      obtain ⟨q3, c4, hf⟩ := bd_some hf
      by_cases c5 : q3.1 = (0 : Int32)
      · replace hf := (if_pos c5).symm.trans hf
        exact FR.tr (FR.tr FR.rf (u_Es_step (q := q3) c4) (by decide) (by decide)) (ih hf) (by decide) (by decide)
      · replace hf := (if_neg c5).symm.trans hf
        obtain ⟨q6, c7, hf⟩ := bd_some hf
        exact FR.tr (FR.tr (FR.tr FR.rf (u_Es_step (q := q3) c4) (by decide) (by decide)) (u_H_passTick (q := q6) c7) (by decide) (by decide)) (ih hf) (by decide) (by decide)
def f_H_takeSteps (S : List xSh) (Rf : Nat → Nat → Option Nat) (a0 : Int32) (I : Nat → Nat → Int32) (L : Nat → Nat → Int64) : Option (Int32 × (Nat → Nat → Int32) × (Nat → Nat → Int64)) := (bnd (I 1 12) fun x1 => (f_H_takeSteps_L10 S Rf xF a0 x1 (0 : Int32) I L))
set_option maxRecDepth 100000 in
set_option maxHeartbeats 4000000 in
theorem c_H_takeSteps {G : xG} {S : List xSh} {Rf : Nat → Nat → Option Nat} (hT : xTH S Rf) {a0 : Int32} {I : Nat → Nat → Int32} {L : Nat → Nat → Int64} {q : (Int32 × (Nat → Nat → Int32) × (Nat → Nat → Int64))} (hf : f_H_takeSteps S Rf a0 I L = some q) : CT G 5 m_H_takeSteps [.ref (xP G 0), .int a0] (S, I, L, Rf) (some (.int q.1), (S, q.2.1, q.2.2, Rf)) := by
  refine CT.of (by decide +kernel) (Nat.le_of_ble_eq_true rfl) ?_
  show X G 5 m_H_takeSteps 0 [(0, .ref (xP G 0)), (1, .int a0)] [] (S, I, L, Rf) (some (.int q.1), (S, q.2.1, q.2.2, Rf))
  replace hf := (f_H_takeSteps.eq_1 _ _ _ _ _).symm.trans hf
  refine X_aload_n (pc := 0) (i := 0) 0 dX11_takeSteps_0 rfl rfl ?_
  refine X_getr (pc := 1) (a := 0) (ci := 10) (j := 0) (c := 1) (sh_0 hT) (by decide) k_494 (rf_0_0 hT) (fun _ h => h) dX11_takeSteps_1 ?_
  refine X_get (pc := 4) (a := 1) (ci := 5) (j := 12) (.int (I 1 12)) (sh_1 hT) (by decide) k_193 rfl dX11_takeSteps_4 ?_
  obtain ⟨x1, ex1, hf⟩ := bnd_e hf
  refine X_tope ex1 ?_
  refine X_istore_n (pc := 7) (i := 2) [(2, .int x1), (0, .ref (xP G 0)), (1, .int a0)] dX11_takeSteps_7 rfl (by decide) rfl ?_
  refine X_iconst (pc := 8) (0 : Int32) dX11_takeSteps_8 (by decide) ?_
  refine X_istore_n (pc := 9) (i := 3) [(3, .int (0 : Int32)), (2, .int x1), (0, .ref (xP G 0)), (1, .int a0)] dX11_takeSteps_9 rfl (by decide) rfl ?_
  exact X_lvs [2, 3, 1, 0] rfl (x_H_takeSteps_L10 hT xF hf)
theorem u_H_takeSteps {S : List xSh} {Rf : Nat → Nat → Option Nat} {a0 : Int32} {I : Nat → Nat → Int32} {L : Nat → Nat → Int64} {q : (Int32 × (Nat → Nat → Int32) × (Nat → Nat → Int64))} (hf : f_H_takeSteps S Rf a0 I L = some q) : FR S [10, 14, 1108, 1109, 1110, 1111, 1112, 1113, 1114, 1903, 2303] [] I q.2.1 L q.2.2 := by
  replace hf := (f_H_takeSteps.eq_1 _ _ _ _ _).symm.trans hf
  obtain ⟨x1, ex1, hf⟩ := bnd_e hf
  exact FR.tr FR.rf (u_H_takeSteps_L10 xF hf) (by decide) (by decide)
theorem dX11_run_0 : decode cX11_run 0 = .ok (.iload_n 1, 1) := by decide +kernel
theorem dX11_run_1 : decode cX11_run 1 = .ok (.iconst 0, 1) := by decide +kernel
theorem dX11_run_2 : decode cX11_run 2 = .ok (.sipush 20000, 3) := by decide +kernel
theorem dX11_run_5 : decode cX11_run 5 = .ok (.invokestatic 113, 3) := by decide +kernel
theorem dX11_run_8 : decode cX11_run 8 = .ok (.ifCond .ne 5, 3) := by decide +kernel
theorem dX11_run_11 : decode cX11_run 11 = .ok (.iconst (-1), 1) := by decide +kernel
theorem dX11_run_12 : decode cX11_run 12 = .ok (.ireturn, 1) := by decide +kernel
theorem dX11_run_13 : decode cX11_run 13 = .ok (.aload_n 0, 1) := by decide +kernel
theorem dX11_run_14 : decode cX11_run 14 = .ok (.getfield 99, 3) := by decide +kernel
theorem dX11_run_17 : decode cX11_run 17 = .ok (.ifCond .ne 6, 3) := by decide +kernel
theorem dX11_run_20 : decode cX11_run 20 = .ok (.bipush (-2), 2) := by decide +kernel
theorem dX11_run_22 : decode cX11_run 22 = .ok (.ireturn, 1) := by decide +kernel
theorem dX11_run_23 : decode cX11_run 23 = .ok (.aload_n 0, 1) := by decide +kernel
theorem dX11_run_24 : decode cX11_run 24 = .ok (.getfield 10, 3) := by decide +kernel
theorem dX11_run_27 : decode cX11_run 27 = .ok (.getfield 167, 3) := by decide +kernel
theorem dX11_run_30 : decode cX11_run 30 = .ok (.iload_n 1, 1) := by decide +kernel
theorem dX11_run_31 : decode cX11_run 31 = .ok (.iadd, 1) := by decide +kernel
theorem dX11_run_32 : decode cX11_run 32 = .ok (.ldc 170, 2) := by decide +kernel
theorem dX11_run_34 : decode cX11_run 34 = .ok (.if_icmp .gt 22, 3) := by decide +kernel
theorem dX11_run_37 : decode cX11_run 37 = .ok (.aload_n 0, 1) := by decide +kernel
theorem dX11_run_38 : decode cX11_run 38 = .ok (.iconst 0, 1) := by decide +kernel
theorem dX11_run_39 : decode cX11_run 39 = .ok (.iload_n 1, 1) := by decide +kernel
theorem dX11_run_40 : decode cX11_run 40 = .ok (.iconst 0, 1) := by decide +kernel
theorem dX11_run_41 : decode cX11_run 41 = .ok (.iconst 0, 1) := by decide +kernel
theorem dX11_run_42 : decode cX11_run 42 = .ok (.invokevirtual 171, 3) := by decide +kernel
theorem dX11_run_45 : decode cX11_run 45 = .ok (.ifCond .eq 11, 3) := by decide +kernel
theorem dX11_run_48 : decode cX11_run 48 = .ok (.aload_n 0, 1) := by decide +kernel
theorem dX11_run_49 : decode cX11_run 49 = .ok (.iload_n 1, 1) := by decide +kernel
theorem dX11_run_50 : decode cX11_run 50 = .ok (.invokevirtual 175, 3) := by decide +kernel
theorem dX11_run_53 : decode cX11_run 53 = .ok (.goto 5, 3) := by decide +kernel
theorem dX11_run_56 : decode cX11_run 56 = .ok (.bipush (-3), 2) := by decide +kernel
theorem dX11_run_58 : decode cX11_run 58 = .ok (.ireturn, 1) := by decide +kernel
def f_H_run (S : List xSh) (Rf : Nat → Nat → Option Nat) (a0 : Int32) (I : Nat → Nat → Int32) (L : Nat → Nat → Int64) : Option (Int32 × (Nat → Nat → Int32) × (Nat → Nat → Int64)) := (bnd (f_H_isWithin a0 (0 : Int32) (20000 : Int32)) fun x1 => (if x1 = (0 : Int32) then (some ((-1 : Int32), I, L)) else (if (I 0 8) = (0 : Int32) then (some ((-2 : Int32), I, L)) else (if (200000 : Int32) < ((I 1 11) + a0) then (some ((-3 : Int32), I, L)) else ((f_H_enter (0 : Int32) a0 (0 : Int32) (0 : Int32) I L).bind fun q5 => (if q5.1 = (0 : Int32) then (some ((-3 : Int32), q5.2.1, q5.2.2)) else ((f_H_takeSteps S Rf a0 q5.2.1 q5.2.2).bind fun q8 => (some (q8.1, q8.2.1, q8.2.2)))))))))
set_option maxRecDepth 100000 in
set_option maxHeartbeats 4000000 in
theorem c_H_run {G : xG} {S : List xSh} {Rf : Nat → Nat → Option Nat} (hT : xTH S Rf) {a0 : Int32} {I : Nat → Nat → Int32} {L : Nat → Nat → Int64} {q : (Int32 × (Nat → Nat → Int32) × (Nat → Nat → Int64))} (hf : f_H_run S Rf a0 I L = some q) : CT G 6 m_H_run [.ref (xP G 0), .int a0] (S, I, L, Rf) (some (.int q.1), (S, q.2.1, q.2.2, Rf)) := by
  refine CT.of (by decide +kernel) (Nat.le_of_ble_eq_true rfl) ?_
  show X G 6 m_H_run 0 [(0, .ref (xP G 0)), (1, .int a0)] [] (S, I, L, Rf) (some (.int q.1), (S, q.2.1, q.2.2, Rf))
  replace hf := (f_H_run.eq_1 _ _ _ _ _).symm.trans hf
  refine X_iload_n (pc := 0) (i := 1) 1 dX11_run_0 rfl rfl ?_
  refine X_iconst (pc := 1) (0 : Int32) dX11_run_1 (by decide) ?_
  refine X_sipush (pc := 2) (20000 : Int32) dX11_run_2 (by decide) ?_
  refine X_invS_i (pc := 5) (c_H_isWithin hT rfl) ok_H_isWithin k_563 k_564 nd_6 (by decide) rfl (Nat.le_of_ble_eq_true rfl) dX11_run_5 ?_
  obtain ⟨x1, ex1, hf⟩ := bnd_e hf
  refine X_tope ex1 ?_
  by_cases c2 : x1 = (0 : Int32)
  · replace hf := (if_pos c2).symm.trans hf
    refine X_if_ne_f (pc := 8) 13 dX11_run_8 (by decide) c2 ?_
    refine X_iconst (pc := 11) (-1 : Int32) dX11_run_11 (by decide) ?_
    cases hf
    exact X_ireturn (pc := 12) rfl dX11_run_12
  · replace hf := (if_neg c2).symm.trans hf
    refine X_if_ne_t (pc := 8) 13 dX11_run_8 (by decide) c2 ?_
    refine X_aload_n (pc := 13) (i := 0) 0 dX11_run_13 rfl rfl ?_
    refine X_get (pc := 14) (a := 0) (ci := 10) (j := 11) (.int (I 0 8)) (sh_0 hT) (by decide) k_505 rfl dX11_run_14 ?_
    by_cases c3 : (I 0 8) = (0 : Int32)
    · replace hf := (if_pos c3).symm.trans hf
      refine X_if_ne_f (pc := 17) 23 dX11_run_17 (by decide) c3 ?_
      refine X_bipush (pc := 20) (-2 : Int32) dX11_run_20 (by decide) ?_
      cases hf
      exact X_ireturn (pc := 22) rfl dX11_run_22
    · replace hf := (if_neg c3).symm.trans hf
      refine X_if_ne_t (pc := 17) 23 dX11_run_17 (by decide) c3 ?_
      refine X_aload_n (pc := 23) (i := 0) 0 dX11_run_23 rfl rfl ?_
      refine X_getr (pc := 24) (a := 0) (ci := 10) (j := 0) (c := 1) (sh_0 hT) (by decide) k_494 (rf_0_0 hT) (fun _ h => h) dX11_run_24 ?_
      refine X_get (pc := 27) (a := 1) (ci := 5) (j := 11) (.int (I 1 11)) (sh_1 hT) (by decide) k_191 rfl dX11_run_27 ?_
      refine X_iload_n (pc := 30) (i := 1) 1 dX11_run_30 rfl rfl ?_
      refine X_iadd (pc := 31) dX11_run_31 ?_
      refine X_ldc (pc := 32) (200000 : Int32) k_722 dX11_run_32 ?_
      by_cases c4 : (200000 : Int32) < ((I 1 11) + a0)
      · replace hf := (if_pos c4).symm.trans hf
        refine X_icmp_gt_t (pc := 34) 56 dX11_run_34 (by decide) c4 ?_
        refine X_bipush (pc := 56) (-3 : Int32) dX11_run_56 (by decide) ?_
        cases hf
        exact X_ireturn (pc := 58) rfl dX11_run_58
      · replace hf := (if_neg c4).symm.trans hf
        refine X_icmp_gt_f (pc := 34) 56 dX11_run_34 (by decide) c4 ?_
        refine X_aload_n (pc := 37) (i := 0) 0 dX11_run_37 rfl rfl ?_
        refine X_iconst (pc := 38) (0 : Int32) dX11_run_38 (by decide) ?_
        refine X_iload_n (pc := 39) (i := 1) 1 dX11_run_39 rfl rfl ?_
        refine X_iconst (pc := 40) (0 : Int32) dX11_run_40 (by decide) ?_
        refine X_iconst (pc := 41) (0 : Int32) dX11_run_41 (by decide) ?_
        obtain ⟨q5, c6, hf⟩ := bd_some hf
        refine X_invV_i (pc := 42) (c_H_enter hT c6) ok_H_enter (ci := 10) (sh_0 hT) k_723 k_725 k_11 nd_17 (by decide) rfl (Nat.le_of_ble_eq_true rfl) dX11_run_42 ?_
        by_cases c7 : q5.1 = (0 : Int32)
        · replace hf := (if_pos c7).symm.trans hf
          refine X_if_eq_t (pc := 45) 56 dX11_run_45 (by decide) c7 ?_
          refine X_bipush (pc := 56) (-3 : Int32) dX11_run_56 (by decide) ?_
          cases hf
          exact X_ireturn (pc := 58) rfl dX11_run_58
        · replace hf := (if_neg c7).symm.trans hf
          refine X_if_eq_f (pc := 45) 56 dX11_run_45 (by decide) c7 ?_
          refine X_aload_n (pc := 48) (i := 0) 0 dX11_run_48 rfl rfl ?_
          refine X_iload_n (pc := 49) (i := 1) 1 dX11_run_49 rfl rfl ?_
          obtain ⟨q8, c9, hf⟩ := bd_some hf
          refine X_invV_i (pc := 50) (c_H_takeSteps hT c9) ok_H_takeSteps (ci := 10) (sh_0 hT) k_735 k_737 k_12 nd_8 (by decide) rfl (Nat.le_of_ble_eq_true rfl) dX11_run_50 ?_
          refine X_goto (pc := 53) 58 dX11_run_53 (by decide) ?_
          cases hf
          exact X_ireturn (pc := 58) rfl dX11_run_58
theorem u_H_run {S : List xSh} {Rf : Nat → Nat → Option Nat} {a0 : Int32} {I : Nat → Nat → Int32} {L : Nat → Nat → Int64} {q : (Int32 × (Nat → Nat → Int32) × (Nat → Nat → Int64))} (hf : f_H_run S Rf a0 I L = some q) : FR S [10, 14, 16, 1108, 1109, 1110, 1111, 1112, 1113, 1114, 1903, 2303, 2503] [] I q.2.1 L q.2.2 := by
  replace hf := (f_H_run.eq_1 _ _ _ _ _).symm.trans hf
  obtain ⟨x1, ex1, hf⟩ := bnd_e hf
  by_cases c2 : x1 = (0 : Int32)
  · replace hf := (if_pos c2).symm.trans hf
    cases hf
    exact FR.rf
  · replace hf := (if_neg c2).symm.trans hf
    by_cases c3 : (I 0 8) = (0 : Int32)
    · replace hf := (if_pos c3).symm.trans hf
      cases hf
      exact FR.rf
    · replace hf := (if_neg c3).symm.trans hf
      by_cases c4 : (200000 : Int32) < ((I 1 11) + a0)
      · replace hf := (if_pos c4).symm.trans hf
        cases hf
        exact FR.rf
      · replace hf := (if_neg c4).symm.trans hf
        obtain ⟨q5, c6, hf⟩ := bd_some hf
        by_cases c7 : q5.1 = (0 : Int32)
        · replace hf := (if_pos c7).symm.trans hf
          cases hf
          exact (FR.tr FR.rf (u_H_enter (q := q5) c6) (by decide) (by decide))
        · replace hf := (if_neg c7).symm.trans hf
          obtain ⟨q8, c9, hf⟩ := bd_some hf
          cases hf
          exact (FR.tr (FR.tr FR.rf (u_H_enter (q := q5) c6) (by decide) (by decide)) (u_H_takeSteps (q := q8) c9) (by decide) (by decide))
theorem dX5_push_0 : decode cX5_push 0 = .ok (.aload_n 0, 1) := by decide +kernel
theorem dX5_push_1 : decode cX5_push 1 = .ok (.aload_n 0, 1) := by decide +kernel
theorem dX5_push_2 : decode cX5_push 2 = .ok (.getfield 66, 3) := by decide +kernel
theorem dX5_push_5 : decode cX5_push 5 = .ok (.i2l, 1) := by decide +kernel
theorem dX5_push_6 : decode cX5_push 6 = .ok (.iload_n 1, 1) := by decide +kernel
theorem dX5_push_7 : decode cX5_push 7 = .ok (.i2l, 1) := by decide +kernel
theorem dX5_push_8 : decode cX5_push 8 = .ok (.ladd, 1) := by decide +kernel
theorem dX5_push_9 : decode cX5_push 9 = .ok (.invokestatic 87, 3) := by decide +kernel
theorem dX5_push_12 : decode cX5_push 12 = .ok (.putfield 66, 3) := by decide +kernel
theorem dX5_push_15 : decode cX5_push 15 = .ok (.aload_n 0, 1) := by decide +kernel
theorem dX5_push_16 : decode cX5_push 16 = .ok (.getfield 66, 3) := by decide +kernel
theorem dX5_push_19 : decode cX5_push 19 = .ok (.ireturn, 1) := by decide +kernel
def f_Es_push (a0 : Int32) (I : Nat → Nat → Int32) (L : Nat → Nat → Int64) : Option (Int32 × (Nat → Nat → Int32) × (Nat → Nat → Int64)) := (bnd (f_Es_held ((Int32.toInt64 (I 1 9)) + (Int32.toInt64 a0))) fun x1 => (some (x1, (uI I 1 9 x1), L)))
set_option maxRecDepth 100000 in
set_option maxHeartbeats 4000000 in
theorem c_Es_push {G : xG} {S : List xSh} {Rf : Nat → Nat → Option Nat} (hT : xTH S Rf) {a0 : Int32} {I : Nat → Nat → Int32} {L : Nat → Nat → Int64} {q : (Int32 × (Nat → Nat → Int32) × (Nat → Nat → Int64))} (hf : f_Es_push a0 I L = some q) : CT G 2 m_Es_push [.ref (xP G 1), .int a0] (S, I, L, Rf) (some (.int q.1), (S, q.2.1, q.2.2, Rf)) := by
  refine CT.of (by decide +kernel) (Nat.le_of_ble_eq_true rfl) ?_
  show X G 2 m_Es_push 0 [(0, .ref (xP G 1)), (1, .int a0)] [] (S, I, L, Rf) (some (.int q.1), (S, q.2.1, q.2.2, Rf))
  replace hf := (f_Es_push.eq_1 _ _ _).symm.trans hf
  refine X_aload_n (pc := 0) (i := 0) 0 dX5_push_0 rfl rfl ?_
  refine X_aload_n (pc := 1) (i := 0) 0 dX5_push_1 rfl rfl ?_
  refine X_get (pc := 2) (a := 1) (ci := 5) (j := 9) (.int (I 1 9)) (sh_1 hT) (by decide) k_186 rfl dX5_push_2 ?_
  refine X_i2l (pc := 5) dX5_push_5 ?_
  refine X_iload_n (pc := 6) (i := 1) 1 dX5_push_6 rfl rfl ?_
  refine X_i2l (pc := 7) dX5_push_7 ?_
  refine X_ladd (pc := 8) dX5_push_8 ?_
  refine X_invS_i (pc := 9) (c_Es_held hT rfl) ok_Es_held k_743 k_744 nd_18 (by decide) rfl (Nat.le_of_ble_eq_true rfl) dX5_push_9 ?_
  obtain ⟨x1, ex1, hf⟩ := bnd_e hf
  refine X_tope ex1 ?_
  refine X_puti (pc := 12) (a := 1) (ci := 5) (j := 9) 9 rfl false (sh_1 hT) (by decide) k_186 rfl (fun h => by cases h) rfl dX5_push_12 ?_
  refine X_aload_n (pc := 15) (i := 0) 0 dX5_push_15 rfl rfl ?_
  refine X_get (pc := 16) (a := 1) (ci := 5) (j := 9) (.int x1) (sh_1 hT) (by decide) k_186 rfl dX5_push_16 ?_
  cases hf
  exact X_ireturn (pc := 19) rfl dX5_push_19
theorem u_Es_push {S : List xSh} {a0 : Int32} {I : Nat → Nat → Int32} {L : Nat → Nat → Int64} {q : (Int32 × (Nat → Nat → Int32) × (Nat → Nat → Int64))} (hf : f_Es_push a0 I L = some q) : FR S [1109] [] I q.2.1 L q.2.2 := by
  replace hf := (f_Es_push.eq_1 _ _ _).symm.trans hf
  obtain ⟨x1, ex1, hf⟩ := bnd_e hf
  cases hf
  exact (FR.fi FR.rf (by decide))
theorem dX11_shock_0 : decode cX11_shock 0 = .ok (.iload_n 1, 1) := by decide +kernel
theorem dX11_shock_1 : decode cX11_shock 1 = .ok (.ldc 179, 2) := by decide +kernel
theorem dX11_shock_3 : decode cX11_shock 3 = .ok (.ldc 133, 2) := by decide +kernel
theorem dX11_shock_5 : decode cX11_shock 5 = .ok (.invokestatic 113, 3) := by decide +kernel
theorem dX11_shock_8 : decode cX11_shock 8 = .ok (.ifCond .ne 5, 3) := by decide +kernel
theorem dX11_shock_11 : decode cX11_shock 11 = .ok (.iconst (-1), 1) := by decide +kernel
theorem dX11_shock_12 : decode cX11_shock 12 = .ok (.ireturn, 1) := by decide +kernel
theorem dX11_shock_13 : decode cX11_shock 13 = .ok (.aload_n 0, 1) := by decide +kernel
theorem dX11_shock_14 : decode cX11_shock 14 = .ok (.getfield 99, 3) := by decide +kernel
theorem dX11_shock_17 : decode cX11_shock 17 = .ok (.ifCond .ne 6, 3) := by decide +kernel
theorem dX11_shock_20 : decode cX11_shock 20 = .ok (.bipush (-2), 2) := by decide +kernel
theorem dX11_shock_22 : decode cX11_shock 22 = .ok (.ireturn, 1) := by decide +kernel
theorem dX11_shock_23 : decode cX11_shock 23 = .ok (.aload_n 0, 1) := by decide +kernel
theorem dX11_shock_24 : decode cX11_shock 24 = .ok (.iconst 1, 1) := by decide +kernel
theorem dX11_shock_25 : decode cX11_shock 25 = .ok (.iload_n 1, 1) := by decide +kernel
theorem dX11_shock_26 : decode cX11_shock 26 = .ok (.iconst 0, 1) := by decide +kernel
theorem dX11_shock_27 : decode cX11_shock 27 = .ok (.iconst 0, 1) := by decide +kernel
theorem dX11_shock_28 : decode cX11_shock 28 = .ok (.invokevirtual 171, 3) := by decide +kernel
theorem dX11_shock_31 : decode cX11_shock 31 = .ok (.ifCond .eq 14, 3) := by decide +kernel
theorem dX11_shock_34 : decode cX11_shock 34 = .ok (.aload_n 0, 1) := by decide +kernel
theorem dX11_shock_35 : decode cX11_shock 35 = .ok (.getfield 10, 3) := by decide +kernel
theorem dX11_shock_38 : decode cX11_shock 38 = .ok (.iload_n 1, 1) := by decide +kernel
theorem dX11_shock_39 : decode cX11_shock 39 = .ok (.invokevirtual 180, 3) := by decide +kernel
theorem dX11_shock_42 : decode cX11_shock 42 = .ok (.goto 5, 3) := by decide +kernel
theorem dX11_shock_45 : decode cX11_shock 45 = .ok (.bipush (-3), 2) := by decide +kernel
theorem dX11_shock_47 : decode cX11_shock 47 = .ok (.ireturn, 1) := by decide +kernel
def f_H_shock (a0 : Int32) (I : Nat → Nat → Int32) (L : Nat → Nat → Int64) : Option (Int32 × (Nat → Nat → Int32) × (Nat → Nat → Int64)) := (bnd (f_H_isWithin a0 (-1000000 : Int32) (1000000 : Int32)) fun x1 => (if x1 = (0 : Int32) then (some ((-1 : Int32), I, L)) else (if (I 0 8) = (0 : Int32) then (some ((-2 : Int32), I, L)) else ((f_H_enter (1 : Int32) a0 (0 : Int32) (0 : Int32) I L).bind fun q4 => (if q4.1 = (0 : Int32) then (some ((-3 : Int32), q4.2.1, q4.2.2)) else ((f_Es_push a0 q4.2.1 q4.2.2).bind fun q7 => (some (q7.1, q7.2.1, q7.2.2))))))))
set_option maxRecDepth 100000 in
set_option maxHeartbeats 4000000 in
theorem c_H_shock {G : xG} {S : List xSh} {Rf : Nat → Nat → Option Nat} (hT : xTH S Rf) {a0 : Int32} {I : Nat → Nat → Int32} {L : Nat → Nat → Int64} {q : (Int32 × (Nat → Nat → Int32) × (Nat → Nat → Int64))} (hf : f_H_shock a0 I L = some q) : CT G 3 m_H_shock [.ref (xP G 0), .int a0] (S, I, L, Rf) (some (.int q.1), (S, q.2.1, q.2.2, Rf)) := by
  refine CT.of (by decide +kernel) (Nat.le_of_ble_eq_true rfl) ?_
  show X G 3 m_H_shock 0 [(0, .ref (xP G 0)), (1, .int a0)] [] (S, I, L, Rf) (some (.int q.1), (S, q.2.1, q.2.2, Rf))
  replace hf := (f_H_shock.eq_1 _ _ _).symm.trans hf
  refine X_iload_n (pc := 0) (i := 1) 1 dX11_shock_0 rfl rfl ?_
  refine X_ldc (pc := 1) (-1000000 : Int32) k_837 dX11_shock_1 ?_
  refine X_ldc (pc := 3) (1000000 : Int32) k_636 dX11_shock_3 ?_
  refine X_invS_i (pc := 5) (c_H_isWithin hT rfl) ok_H_isWithin k_563 k_564 nd_6 (by decide) rfl (Nat.le_of_ble_eq_true rfl) dX11_shock_5 ?_
  obtain ⟨x1, ex1, hf⟩ := bnd_e hf
  refine X_tope ex1 ?_
  by_cases c2 : x1 = (0 : Int32)
  · replace hf := (if_pos c2).symm.trans hf
    refine X_if_ne_f (pc := 8) 13 dX11_shock_8 (by decide) c2 ?_
    refine X_iconst (pc := 11) (-1 : Int32) dX11_shock_11 (by decide) ?_
    cases hf
    exact X_ireturn (pc := 12) rfl dX11_shock_12
  · replace hf := (if_neg c2).symm.trans hf
    refine X_if_ne_t (pc := 8) 13 dX11_shock_8 (by decide) c2 ?_
    refine X_aload_n (pc := 13) (i := 0) 0 dX11_shock_13 rfl rfl ?_
    refine X_get (pc := 14) (a := 0) (ci := 10) (j := 11) (.int (I 0 8)) (sh_0 hT) (by decide) k_505 rfl dX11_shock_14 ?_
    by_cases c3 : (I 0 8) = (0 : Int32)
    · replace hf := (if_pos c3).symm.trans hf
      refine X_if_ne_f (pc := 17) 23 dX11_shock_17 (by decide) c3 ?_
      refine X_bipush (pc := 20) (-2 : Int32) dX11_shock_20 (by decide) ?_
      cases hf
      exact X_ireturn (pc := 22) rfl dX11_shock_22
    · replace hf := (if_neg c3).symm.trans hf
      refine X_if_ne_t (pc := 17) 23 dX11_shock_17 (by decide) c3 ?_
      refine X_aload_n (pc := 23) (i := 0) 0 dX11_shock_23 rfl rfl ?_
      refine X_iconst (pc := 24) (1 : Int32) dX11_shock_24 (by decide) ?_
      refine X_iload_n (pc := 25) (i := 1) 1 dX11_shock_25 rfl rfl ?_
      refine X_iconst (pc := 26) (0 : Int32) dX11_shock_26 (by decide) ?_
      refine X_iconst (pc := 27) (0 : Int32) dX11_shock_27 (by decide) ?_
      obtain ⟨q4, c5, hf⟩ := bd_some hf
      refine X_invV_i (pc := 28) (c_H_enter hT c5) ok_H_enter (ci := 10) (sh_0 hT) k_723 k_725 k_11 nd_17 (by decide) rfl (Nat.le_of_ble_eq_true rfl) dX11_shock_28 ?_
      by_cases c6 : q4.1 = (0 : Int32)
      · replace hf := (if_pos c6).symm.trans hf
        refine X_if_eq_t (pc := 31) 45 dX11_shock_31 (by decide) c6 ?_
        refine X_bipush (pc := 45) (-3 : Int32) dX11_shock_45 (by decide) ?_
        cases hf
        exact X_ireturn (pc := 47) rfl dX11_shock_47
      · replace hf := (if_neg c6).symm.trans hf
        refine X_if_eq_f (pc := 31) 45 dX11_shock_31 (by decide) c6 ?_
        refine X_aload_n (pc := 34) (i := 0) 0 dX11_shock_34 rfl rfl ?_
        refine X_getr (pc := 35) (a := 0) (ci := 10) (j := 0) (c := 1) (sh_0 hT) (by decide) k_494 (rf_0_0 hT) (fun _ h => h) dX11_shock_35 ?_
        refine X_iload_n (pc := 38) (i := 1) 1 dX11_shock_38 rfl rfl ?_
        obtain ⟨q7, c8, hf⟩ := bd_some hf
        refine X_invV_i (pc := 39) (c_Es_push hT c8) ok_Es_push (ci := 5) (sh_1 hT) k_838 k_839 k_840 nd_8 (by decide) rfl (Nat.le_of_ble_eq_true rfl) dX11_shock_39 ?_
        refine X_goto (pc := 42) 47 dX11_shock_42 (by decide) ?_
        cases hf
        exact X_ireturn (pc := 47) rfl dX11_shock_47
theorem u_H_shock {S : List xSh} {a0 : Int32} {I : Nat → Nat → Int32} {L : Nat → Nat → Int64} {q : (Int32 × (Nat → Nat → Int32) × (Nat → Nat → Int64))} (hf : f_H_shock a0 I L = some q) : FR S [16, 1109, 2503] [] I q.2.1 L q.2.2 := by
  replace hf := (f_H_shock.eq_1 _ _ _).symm.trans hf
  obtain ⟨x1, ex1, hf⟩ := bnd_e hf
  by_cases c2 : x1 = (0 : Int32)
  · replace hf := (if_pos c2).symm.trans hf
    cases hf
    exact FR.rf
  · replace hf := (if_neg c2).symm.trans hf
    by_cases c3 : (I 0 8) = (0 : Int32)
    · replace hf := (if_pos c3).symm.trans hf
      cases hf
      exact FR.rf
    · replace hf := (if_neg c3).symm.trans hf
      obtain ⟨q4, c5, hf⟩ := bd_some hf
      by_cases c6 : q4.1 = (0 : Int32)
      · replace hf := (if_pos c6).symm.trans hf
        cases hf
        exact (FR.tr FR.rf (u_H_enter (q := q4) c5) (by decide) (by decide))
      · replace hf := (if_neg c6).symm.trans hf
        obtain ⟨q7, c8, hf⟩ := bd_some hf
        cases hf
        exact (FR.tr (FR.tr FR.rf (u_H_enter (q := q4) c5) (by decide) (by decide)) (u_Es_push (q := q7) c8) (by decide) (by decide))
theorem dX5_windUp_0 : decode cX5_windUp 0 = .ok (.iload_n 1, 1) := by decide +kernel
theorem dX5_windUp_1 : decode cX5_windUp 1 = .ok (.i2l, 1) := by decide +kernel
theorem dX5_windUp_2 : decode cX5_windUp 2 = .ok (.aload_n 0, 1) := by decide +kernel
theorem dX5_windUp_3 : decode cX5_windUp 3 = .ok (.invokevirtual 91, 3) := by decide +kernel
theorem dX5_windUp_6 : decode cX5_windUp 6 = .ok (.invokestatic 95, 3) := by decide +kernel
theorem dX5_windUp_9 : decode cX5_windUp 9 = .ok (.lstore_n 2, 1) := by decide +kernel
theorem dX5_windUp_10 : decode cX5_windUp 10 = .ok (.aload_n 0, 1) := by decide +kernel
theorem dX5_windUp_11 : decode cX5_windUp 11 = .ok (.dup, 1) := by decide +kernel
theorem dX5_windUp_12 : decode cX5_windUp 12 = .ok (.getfield 59, 3) := by decide +kernel
theorem dX5_windUp_15 : decode cX5_windUp 15 = .ok (.lload_n 2, 1) := by decide +kernel
theorem dX5_windUp_16 : decode cX5_windUp 16 = .ok (.ladd, 1) := by decide +kernel
theorem dX5_windUp_17 : decode cX5_windUp 17 = .ok (.putfield 59, 3) := by decide +kernel
theorem dX5_windUp_20 : decode cX5_windUp 20 = .ok (.lload_n 2, 1) := by decide +kernel
theorem dX5_windUp_21 : decode cX5_windUp 21 = .ok (.l2i, 1) := by decide +kernel
theorem dX5_windUp_22 : decode cX5_windUp 22 = .ok (.ireturn, 1) := by decide +kernel
def f_Es_windUp (a0 : Int32) (I : Nat → Nat → Int32) (L : Nat → Nat → Int64) : Option (Int32 × (Nat → Nat → Int32) × (Nat → Nat → Int64)) := ((f_Es_letDown I L).bind fun q1 => (bnd (Jmin (Int32.toInt64 a0) q1) fun x3 => (bnd ((L 1 7) + x3) fun x4 => (some ((Int64.toInt32 x3), I, (uL L 1 7 x4))))))
set_option maxRecDepth 100000 in
set_option maxHeartbeats 4000000 in
theorem c_Es_windUp {G : xG} {S : List xSh} {Rf : Nat → Nat → Option Nat} (hT : xTH S Rf) {a0 : Int32} {I : Nat → Nat → Int32} {L : Nat → Nat → Int64} {q : (Int32 × (Nat → Nat → Int32) × (Nat → Nat → Int64))} (hf : f_Es_windUp a0 I L = some q) : CT G 3 m_Es_windUp [.ref (xP G 1), .int a0] (S, I, L, Rf) (some (.int q.1), (S, q.2.1, q.2.2, Rf)) := by
  refine CT.of (by decide +kernel) (Nat.le_of_ble_eq_true rfl) ?_
  show X G 3 m_Es_windUp 0 [(0, .ref (xP G 1)), (1, .int a0)] [] (S, I, L, Rf) (some (.int q.1), (S, q.2.1, q.2.2, Rf))
  replace hf := (f_Es_windUp.eq_1 _ _ _).symm.trans hf
  refine X_iload_n (pc := 0) (i := 1) 1 dX5_windUp_0 rfl rfl ?_
  refine X_i2l (pc := 1) dX5_windUp_1 ?_
  refine X_aload_n (pc := 2) (i := 0) 0 dX5_windUp_2 rfl rfl ?_
  obtain ⟨q1, c2, hf⟩ := bd_some hf
  refine X_invV_l (pc := 3) (c_Es_letDown hT c2) ok_Es_letDown (ci := 5) (sh_1 hT) k_767 k_768 k_769 nd_20 (by decide) rfl (Nat.le_of_ble_eq_true rfl) dX5_windUp_3 ?_
  refine X_Jmin (pc := 6) k_748 (by decide) (Nat.le_of_ble_eq_true rfl) dX5_windUp_6 ?_
  obtain ⟨x3, ex3, hf⟩ := bnd_e hf
  refine X_tople ex3 ?_
  refine X_lstore_n (pc := 9) (i := 2) [(2, .long x3), (0, .ref (xP G 1)), (1, .int a0)] dX5_windUp_9 rfl (by decide) rfl ?_
  refine X_aload_n (pc := 10) (i := 0) 1 dX5_windUp_10 rfl rfl ?_
  refine X_dup (pc := 11) dX5_windUp_11 rfl ?_
  refine X_get (pc := 12) (a := 1) (ci := 5) (j := 7) (.long (L 1 7)) (sh_1 hT) (by decide) k_183 rfl dX5_windUp_12 ?_
  refine X_lload_n (pc := 15) (i := 2) 0 dX5_windUp_15 rfl rfl ?_
  refine X_ladd (pc := 16) dX5_windUp_16 ?_
  obtain ⟨x4, ex4, hf⟩ := bnd_e hf
  refine X_tople ex4 ?_
  refine X_putl (pc := 17) (a := 1) (ci := 5) (j := 7) 7 rfl false (sh_1 hT) (by decide) k_183 rfl (fun h => by cases h) rfl dX5_windUp_17 ?_
  refine X_lload_n (pc := 20) (i := 2) 0 dX5_windUp_20 rfl rfl ?_
  refine X_l2i (pc := 21) dX5_windUp_21 ?_
  cases hf
  exact X_ireturn (pc := 22) rfl dX5_windUp_22
theorem u_Es_windUp {S : List xSh} {a0 : Int32} {I : Nat → Nat → Int32} {L : Nat → Nat → Int64} {q : (Int32 × (Nat → Nat → Int32) × (Nat → Nat → Int64))} (hf : f_Es_windUp a0 I L = some q) : FR S [] [1107] I q.2.1 L q.2.2 := by
  replace hf := (f_Es_windUp.eq_1 _ _ _).symm.trans hf
  obtain ⟨q1, c2, hf⟩ := bd_some hf
  obtain ⟨x3, ex3, hf⟩ := bnd_e hf
  obtain ⟨x4, ex4, hf⟩ := bnd_e hf
  cases hf
  exact (FR.fl FR.rf (by decide))
theorem dX11_wind_0 : decode cX11_wind 0 = .ok (.iload_n 1, 1) := by decide +kernel
theorem dX11_wind_1 : decode cX11_wind 1 = .ok (.iconst 0, 1) := by decide +kernel
theorem dX11_wind_2 : decode cX11_wind 2 = .ok (.ldc 183, 2) := by decide +kernel
theorem dX11_wind_4 : decode cX11_wind 4 = .ok (.invokestatic 113, 3) := by decide +kernel
theorem dX11_wind_7 : decode cX11_wind 7 = .ok (.ifCond .ne 5, 3) := by decide +kernel
theorem dX11_wind_10 : decode cX11_wind 10 = .ok (.iconst (-1), 1) := by decide +kernel
theorem dX11_wind_11 : decode cX11_wind 11 = .ok (.ireturn, 1) := by decide +kernel
theorem dX11_wind_12 : decode cX11_wind 12 = .ok (.aload_n 0, 1) := by decide +kernel
theorem dX11_wind_13 : decode cX11_wind 13 = .ok (.getfield 99, 3) := by decide +kernel
theorem dX11_wind_16 : decode cX11_wind 16 = .ok (.ifCond .eq 20, 3) := by decide +kernel
theorem dX11_wind_19 : decode cX11_wind 19 = .ok (.aload_n 0, 1) := by decide +kernel
theorem dX11_wind_20 : decode cX11_wind 20 = .ok (.getfield 20, 3) := by decide +kernel
theorem dX11_wind_23 : decode cX11_wind 23 = .ok (.aload_n 0, 1) := by decide +kernel
theorem dX11_wind_24 : decode cX11_wind 24 = .ok (.getfield 10, 3) := by decide +kernel
theorem dX11_wind_27 : decode cX11_wind 27 = .ok (.getfield 130, 3) := by decide +kernel
theorem dX11_wind_30 : decode cX11_wind 30 = .ok (.invokevirtual 184, 3) := by decide +kernel
theorem dX11_wind_33 : decode cX11_wind 33 = .ok (.ifCond .ne 6, 3) := by decide +kernel
theorem dX11_wind_36 : decode cX11_wind 36 = .ok (.bipush (-2), 2) := by decide +kernel
theorem dX11_wind_38 : decode cX11_wind 38 = .ok (.ireturn, 1) := by decide +kernel
theorem dX11_wind_39 : decode cX11_wind 39 = .ok (.aload_n 0, 1) := by decide +kernel
theorem dX11_wind_40 : decode cX11_wind 40 = .ok (.iconst 2, 1) := by decide +kernel
theorem dX11_wind_41 : decode cX11_wind 41 = .ok (.iload_n 1, 1) := by decide +kernel
theorem dX11_wind_42 : decode cX11_wind 42 = .ok (.iconst 0, 1) := by decide +kernel
theorem dX11_wind_43 : decode cX11_wind 43 = .ok (.iconst 0, 1) := by decide +kernel
theorem dX11_wind_44 : decode cX11_wind 44 = .ok (.invokevirtual 171, 3) := by decide +kernel
theorem dX11_wind_47 : decode cX11_wind 47 = .ok (.ifCond .eq 14, 3) := by decide +kernel
theorem dX11_wind_50 : decode cX11_wind 50 = .ok (.aload_n 0, 1) := by decide +kernel
theorem dX11_wind_51 : decode cX11_wind 51 = .ok (.getfield 10, 3) := by decide +kernel
theorem dX11_wind_54 : decode cX11_wind 54 = .ok (.iload_n 1, 1) := by decide +kernel
theorem dX11_wind_55 : decode cX11_wind 55 = .ok (.invokevirtual 187, 3) := by decide +kernel
theorem dX11_wind_58 : decode cX11_wind 58 = .ok (.goto 5, 3) := by decide +kernel
theorem dX11_wind_61 : decode cX11_wind 61 = .ok (.bipush (-3), 2) := by decide +kernel
theorem dX11_wind_63 : decode cX11_wind 63 = .ok (.ireturn, 1) := by decide +kernel
def f_H_wind (a0 : Int32) (I : Nat → Nat → Int32) (L : Nat → Nat → Int64) : Option (Int32 × (Nat → Nat → Int32) × (Nat → Nat → Int64)) := (bnd (f_H_isWithin a0 (0 : Int32) (100000 : Int32)) fun x1 => (if x1 = (0 : Int32) then (some ((-1 : Int32), I, L)) else (if (I 0 8) = (0 : Int32) then (some ((-2 : Int32), I, L)) else ((f_Ge_isKnown (I 1 5) I L).bind fun q4 => (if q4 = (0 : Int32) then (some ((-2 : Int32), I, L)) else ((f_H_enter (2 : Int32) a0 (0 : Int32) (0 : Int32) I L).bind fun q7 => (if q7.1 = (0 : Int32) then (some ((-3 : Int32), q7.2.1, q7.2.2)) else ((f_Es_windUp a0 q7.2.1 q7.2.2).bind fun q10 => (some (q10.1, q10.2.1, q10.2.2))))))))))
set_option maxRecDepth 100000 in
set_option maxHeartbeats 4000000 in
theorem c_H_wind {G : xG} {S : List xSh} {Rf : Nat → Nat → Option Nat} (hT : xTH S Rf) {a0 : Int32} {I : Nat → Nat → Int32} {L : Nat → Nat → Int64} {q : (Int32 × (Nat → Nat → Int32) × (Nat → Nat → Int64))} (hf : f_H_wind a0 I L = some q) : CT G 4 m_H_wind [.ref (xP G 0), .int a0] (S, I, L, Rf) (some (.int q.1), (S, q.2.1, q.2.2, Rf)) := by
  refine CT.of (by decide +kernel) (Nat.le_of_ble_eq_true rfl) ?_
  show X G 4 m_H_wind 0 [(0, .ref (xP G 0)), (1, .int a0)] [] (S, I, L, Rf) (some (.int q.1), (S, q.2.1, q.2.2, Rf))
  replace hf := (f_H_wind.eq_1 _ _ _).symm.trans hf
  refine X_iload_n (pc := 0) (i := 1) 1 dX11_wind_0 rfl rfl ?_
  refine X_iconst (pc := 1) (0 : Int32) dX11_wind_1 (by decide) ?_
  refine X_ldc (pc := 2) (100000 : Int32) k_846 dX11_wind_2 ?_
  refine X_invS_i (pc := 4) (c_H_isWithin hT rfl) ok_H_isWithin k_563 k_564 nd_6 (by decide) rfl (Nat.le_of_ble_eq_true rfl) dX11_wind_4 ?_
  obtain ⟨x1, ex1, hf⟩ := bnd_e hf
  refine X_tope ex1 ?_
  by_cases c2 : x1 = (0 : Int32)
  · replace hf := (if_pos c2).symm.trans hf
    refine X_if_ne_f (pc := 7) 12 dX11_wind_7 (by decide) c2 ?_
    refine X_iconst (pc := 10) (-1 : Int32) dX11_wind_10 (by decide) ?_
    cases hf
    exact X_ireturn (pc := 11) rfl dX11_wind_11
  · replace hf := (if_neg c2).symm.trans hf
    refine X_if_ne_t (pc := 7) 12 dX11_wind_7 (by decide) c2 ?_
    refine X_aload_n (pc := 12) (i := 0) 0 dX11_wind_12 rfl rfl ?_
    refine X_get (pc := 13) (a := 0) (ci := 10) (j := 11) (.int (I 0 8)) (sh_0 hT) (by decide) k_505 rfl dX11_wind_13 ?_
    by_cases c3 : (I 0 8) = (0 : Int32)
    · replace hf := (if_pos c3).symm.trans hf
      refine X_if_eq_t (pc := 16) 36 dX11_wind_16 (by decide) c3 ?_
      refine X_bipush (pc := 36) (-2 : Int32) dX11_wind_36 (by decide) ?_
      cases hf
      exact X_ireturn (pc := 38) rfl dX11_wind_38
    · replace hf := (if_neg c3).symm.trans hf
      refine X_if_eq_f (pc := 16) 36 dX11_wind_16 (by decide) c3 ?_
      refine X_aload_n (pc := 19) (i := 0) 0 dX11_wind_19 rfl rfl ?_
      refine X_getr (pc := 20) (a := 0) (ci := 10) (j := 1) (c := 2) (sh_0 hT) (by decide) k_495 (rf_0_1 hT) (fun _ h => h) dX11_wind_20 ?_
      refine X_aload_n (pc := 23) (i := 0) 0 dX11_wind_23 rfl rfl ?_
      refine X_getr (pc := 24) (a := 0) (ci := 10) (j := 0) (c := 1) (sh_0 hT) (by decide) k_494 (rf_0_0 hT) (fun _ h => h) dX11_wind_24 ?_
      refine X_get (pc := 27) (a := 1) (ci := 5) (j := 5) (.int (I 1 5)) (sh_1 hT) (by decide) k_180 rfl dX11_wind_27 ?_
      obtain ⟨q4, c5, hf⟩ := bd_some hf
      refine X_invV_i (pc := 30) (c_Ge_isKnown hT c5) ok_Ge_isKnown (ci := 6) (sh_2 hT) k_847 k_715 k_716 nd_5 (by decide) rfl (Nat.le_of_ble_eq_true rfl) dX11_wind_30 ?_
      by_cases c6 : q4 = (0 : Int32)
      · replace hf := (if_pos c6).symm.trans hf
        refine X_if_ne_f (pc := 33) 39 dX11_wind_33 (by decide) c6 ?_
        refine X_bipush (pc := 36) (-2 : Int32) dX11_wind_36 (by decide) ?_
        cases hf
        exact X_ireturn (pc := 38) rfl dX11_wind_38
      · replace hf := (if_neg c6).symm.trans hf
        refine X_if_ne_t (pc := 33) 39 dX11_wind_33 (by decide) c6 ?_
        refine X_aload_n (pc := 39) (i := 0) 0 dX11_wind_39 rfl rfl ?_
        refine X_iconst (pc := 40) (2 : Int32) dX11_wind_40 (by decide) ?_
        refine X_iload_n (pc := 41) (i := 1) 1 dX11_wind_41 rfl rfl ?_
        refine X_iconst (pc := 42) (0 : Int32) dX11_wind_42 (by decide) ?_
        refine X_iconst (pc := 43) (0 : Int32) dX11_wind_43 (by decide) ?_
        obtain ⟨q7, c8, hf⟩ := bd_some hf
        refine X_invV_i (pc := 44) (c_H_enter hT c8) ok_H_enter (ci := 10) (sh_0 hT) k_723 k_725 k_11 nd_17 (by decide) rfl (Nat.le_of_ble_eq_true rfl) dX11_wind_44 ?_
        by_cases c9 : q7.1 = (0 : Int32)
        · replace hf := (if_pos c9).symm.trans hf
          refine X_if_eq_t (pc := 47) 61 dX11_wind_47 (by decide) c9 ?_
          refine X_bipush (pc := 61) (-3 : Int32) dX11_wind_61 (by decide) ?_
          cases hf
          exact X_ireturn (pc := 63) rfl dX11_wind_63
        · replace hf := (if_neg c9).symm.trans hf
          refine X_if_eq_f (pc := 47) 61 dX11_wind_47 (by decide) c9 ?_
          refine X_aload_n (pc := 50) (i := 0) 0 dX11_wind_50 rfl rfl ?_
          refine X_getr (pc := 51) (a := 0) (ci := 10) (j := 0) (c := 1) (sh_0 hT) (by decide) k_494 (rf_0_0 hT) (fun _ h => h) dX11_wind_51 ?_
          refine X_iload_n (pc := 54) (i := 1) 1 dX11_wind_54 rfl rfl ?_
          obtain ⟨q10, c11, hf⟩ := bd_some hf
          refine X_invV_i (pc := 55) (c_Es_windUp hT c11) ok_Es_windUp (ci := 5) (sh_1 hT) k_848 k_849 k_850 nd_8 (by decide) rfl (Nat.le_of_ble_eq_true rfl) dX11_wind_55 ?_
          refine X_goto (pc := 58) 63 dX11_wind_58 (by decide) ?_
          cases hf
          exact X_ireturn (pc := 63) rfl dX11_wind_63
theorem u_H_wind {S : List xSh} {a0 : Int32} {I : Nat → Nat → Int32} {L : Nat → Nat → Int64} {q : (Int32 × (Nat → Nat → Int32) × (Nat → Nat → Int64))} (hf : f_H_wind a0 I L = some q) : FR S [16, 2503] [1107] I q.2.1 L q.2.2 := by
  replace hf := (f_H_wind.eq_1 _ _ _).symm.trans hf
  obtain ⟨x1, ex1, hf⟩ := bnd_e hf
  by_cases c2 : x1 = (0 : Int32)
  · replace hf := (if_pos c2).symm.trans hf
    cases hf
    exact FR.rf
  · replace hf := (if_neg c2).symm.trans hf
    by_cases c3 : (I 0 8) = (0 : Int32)
    · replace hf := (if_pos c3).symm.trans hf
      cases hf
      exact FR.rf
    · replace hf := (if_neg c3).symm.trans hf
      obtain ⟨q4, c5, hf⟩ := bd_some hf
      by_cases c6 : q4 = (0 : Int32)
      · replace hf := (if_pos c6).symm.trans hf
        cases hf
        exact FR.rf
      · replace hf := (if_neg c6).symm.trans hf
        obtain ⟨q7, c8, hf⟩ := bd_some hf
        by_cases c9 : q7.1 = (0 : Int32)
        · replace hf := (if_pos c9).symm.trans hf
          cases hf
          exact (FR.tr FR.rf (u_H_enter (q := q7) c8) (by decide) (by decide))
        · replace hf := (if_neg c9).symm.trans hf
          obtain ⟨q10, c11, hf⟩ := bd_some hf
          cases hf
          exact (FR.tr (FR.tr FR.rf (u_H_enter (q := q7) c8) (by decide) (by decide)) (u_Es_windUp (q := q10) c11) (by decide) (by decide))
theorem dX11_chronographAt_0 : decode cX11_chronographAt 0 = .ok (.iload_n 1, 1) := by decide +kernel
theorem dX11_chronographAt_1 : decode cX11_chronographAt 1 = .ok (.iconst 0, 1) := by decide +kernel
theorem dX11_chronographAt_2 : decode cX11_chronographAt 2 = .ok (.aload_n 0, 1) := by decide +kernel
theorem dX11_chronographAt_3 : decode cX11_chronographAt 3 = .ok (.getfield 154, 3) := by decide +kernel
theorem dX11_chronographAt_6 : decode cX11_chronographAt 6 = .ok (.iconst 1, 1) := by decide +kernel
theorem dX11_chronographAt_7 : decode cX11_chronographAt 7 = .ok (.isub, 1) := by decide +kernel
theorem dX11_chronographAt_8 : decode cX11_chronographAt 8 = .ok (.invokestatic 113, 3) := by decide +kernel
theorem dX11_chronographAt_11 : decode cX11_chronographAt 11 = .ok (.ifCond .eq 12, 3) := by decide +kernel
theorem dX11_chronographAt_14 : decode cX11_chronographAt 14 = .ok (.aload_n 0, 1) := by decide +kernel
theorem dX11_chronographAt_15 : decode cX11_chronographAt 15 = .ok (.getfield 47, 3) := by decide +kernel
theorem dX11_chronographAt_18 : decode cX11_chronographAt 18 = .ok (.iload_n 1, 1) := by decide +kernel
theorem dX11_chronographAt_19 : decode cX11_chronographAt 19 = .ok (.aaload, 1) := by decide +kernel
theorem dX11_chronographAt_20 : decode cX11_chronographAt 20 = .ok (.goto 4, 3) := by decide +kernel
theorem dX11_chronographAt_23 : decode cX11_chronographAt 23 = .ok (.aconst_null, 1) := by decide +kernel
theorem dX11_chronographAt_24 : decode cX11_chronographAt 24 = .ok (.areturn, 1) := by decide +kernel
def f_H_chronographAt (S : List xSh) (Rf : Nat → Nat → Option Nat) (a0 : Int32) (I : Nat → Nat → Int32) (L : Nat → Nat → Int64) : Option (Option Nat) := (bnd (f_H_isWithin a0 (0 : Int32) ((I 0 7) - (1 : Int32))) fun x1 => (if x1 = (0 : Int32) then (some none) else (if (0 ≤ a0 ∧ a0 < (4 : Int32)) then (oc (Rf 12 (a0.toNatClampNeg)) (some none) fun w4 => (if S[w4]? = some (.inl 3) then (some (some w4)) else none)) else none)))
set_option maxRecDepth 100000 in
set_option maxHeartbeats 4000000 in
theorem c_H_chronographAt {G : xG} {S : List xSh} {Rf : Nat → Nat → Option Nat} (hT : xTH S Rf) {a0 : Int32} {I : Nat → Nat → Int32} {L : Nat → Nat → Int64} {q : (Option Nat)} (hf : f_H_chronographAt S Rf a0 I L = some q) : CT G 2 m_H_chronographAt [.ref (xP G 0), .int a0] (S, I, L, Rf) (some (xr G q), (S, I, L, Rf)) := by
  refine CT.of (by decide +kernel) (Nat.le_of_ble_eq_true rfl) ?_
  show X G 2 m_H_chronographAt 0 [(0, .ref (xP G 0)), (1, .int a0)] [] (S, I, L, Rf) (some (xr G q), (S, I, L, Rf))
  replace hf := (f_H_chronographAt.eq_1 _ _ _ _ _).symm.trans hf
  refine X_iload_n (pc := 0) (i := 1) 1 dX11_chronographAt_0 rfl rfl ?_
  refine X_iconst (pc := 1) (0 : Int32) dX11_chronographAt_1 (by decide) ?_
  refine X_aload_n (pc := 2) (i := 0) 0 dX11_chronographAt_2 rfl rfl ?_
  refine X_get (pc := 3) (a := 0) (ci := 10) (j := 10) (.int (I 0 7)) (sh_0 hT) (by decide) k_504 rfl dX11_chronographAt_3 ?_
  refine X_iconst (pc := 6) (1 : Int32) dX11_chronographAt_6 (by decide) ?_
  refine X_isub (pc := 7) dX11_chronographAt_7 ?_
  refine X_invS_i (pc := 8) (c_H_isWithin hT rfl) ok_H_isWithin k_563 k_564 nd_6 (by decide) rfl (Nat.le_of_ble_eq_true rfl) dX11_chronographAt_8 ?_
  obtain ⟨x1, ex1, hf⟩ := bnd_e hf
  refine X_tope ex1 ?_
  by_cases c2 : x1 = (0 : Int32)
  · replace hf := (if_pos c2).symm.trans hf
    refine X_if_eq_t (pc := 11) 23 dX11_chronographAt_11 (by decide) c2 ?_
    refine X_null (pc := 23) dX11_chronographAt_23 ?_
    cases hf
    exact X_areturn (pc := 24) (r := none) rfl dX11_chronographAt_24
  · replace hf := (if_neg c2).symm.trans hf
    refine X_if_eq_f (pc := 11) 23 dX11_chronographAt_11 (by decide) c2 ?_
    refine X_aload_n (pc := 14) (i := 0) 0 dX11_chronographAt_14 rfl rfl ?_
    refine X_getr (pc := 15) (a := 0) (ci := 10) (j := 6) (c := 12) (sh_0 hT) (by decide) k_500 (rf_0_3 hT) (fun _ h => h) dX11_chronographAt_15 ?_
    refine X_iload_n (pc := 18) (i := 1) 1 dX11_chronographAt_18 rfl rfl ?_
    obtain ⟨c3, hf⟩ := gd_some hf
    rcases oc_cases hf with ⟨hr5, hf⟩ | ⟨w4, hr5, hf⟩
    · refine X_aaldN (pc := 19) (by decide) (sh_12 hT) (vp_in_lit (N := 4) c3 (by decide)) hr5 dX11_chronographAt_19 ?_
      refine X_goto (pc := 20) 24 dX11_chronographAt_20 (by decide) ?_
      cases hf
      exact X_areturn (pc := 24) (r := none) rfl dX11_chronographAt_24
    · obtain ⟨hs6, hf⟩ := gd_some hf
      refine X_aaldS (pc := 19) (by decide) (sh_12 hT) (vp_in_lit (N := 4) c3 (by decide)) hr5 dX11_chronographAt_19 ?_
      refine X_goto (pc := 20) 24 dX11_chronographAt_20 (by decide) ?_
      cases hf
      exact X_areturn (pc := 24) (r := (some w4)) rfl dX11_chronographAt_24
theorem dX3_gives_0 : decode cX3_gives 0 = .ok (.iload_n 1, 1) := by decide +kernel
theorem dX3_gives_1 : decode cX3_gives 1 = .ok (.tableswitch 94 0 2 #[27, 29, 66], 27) := by decide +kernel
theorem dX3_gives_28 : decode cX3_gives 28 = .ok (.iconst 1, 1) := by decide +kernel
theorem dX3_gives_29 : decode cX3_gives 29 = .ok (.ireturn, 1) := by decide +kernel
theorem dX3_gives_30 : decode cX3_gives 30 = .ok (.aload_n 0, 1) := by decide +kernel
theorem dX3_gives_31 : decode cX3_gives 31 = .ok (.getfield 19, 3) := by decide +kernel
theorem dX3_gives_34 : decode cX3_gives 34 = .ok (.ifCond .ne 31, 3) := by decide +kernel
theorem dX3_gives_37 : decode cX3_gives 37 = .ok (.aload_n 0, 1) := by decide +kernel
theorem dX3_gives_38 : decode cX3_gives 38 = .ok (.getfield 16, 3) := by decide +kernel
theorem dX3_gives_41 : decode cX3_gives 41 = .ok (.iconst 2, 1) := by decide +kernel
theorem dX3_gives_42 : decode cX3_gives 42 = .ok (.if_icmp .eq 19, 3) := by decide +kernel
theorem dX3_gives_45 : decode cX3_gives 45 = .ok (.aload_n 0, 1) := by decide +kernel
theorem dX3_gives_46 : decode cX3_gives 46 = .ok (.getfield 16, 3) := by decide +kernel
theorem dX3_gives_49 : decode cX3_gives 49 = .ok (.iconst 1, 1) := by decide +kernel
theorem dX3_gives_50 : decode cX3_gives 50 = .ok (.if_icmp .ne 15, 3) := by decide +kernel
theorem dX3_gives_53 : decode cX3_gives 53 = .ok (.aload_n 0, 1) := by decide +kernel
theorem dX3_gives_54 : decode cX3_gives 54 = .ok (.getfield 7, 3) := by decide +kernel
theorem dX3_gives_57 : decode cX3_gives 57 = .ok (.iconst 1, 1) := by decide +kernel
theorem dX3_gives_58 : decode cX3_gives 58 = .ok (.if_icmp .ne 7, 3) := by decide +kernel
theorem dX3_gives_61 : decode cX3_gives 61 = .ok (.iconst 1, 1) := by decide +kernel
theorem dX3_gives_62 : decode cX3_gives 62 = .ok (.goto 4, 3) := by decide +kernel
theorem dX3_gives_65 : decode cX3_gives 65 = .ok (.iconst 0, 1) := by decide +kernel
theorem dX3_gives_66 : decode cX3_gives 66 = .ok (.ireturn, 1) := by decide +kernel
theorem dX3_gives_67 : decode cX3_gives 67 = .ok (.aload_n 0, 1) := by decide +kernel
theorem dX3_gives_68 : decode cX3_gives 68 = .ok (.getfield 7, 3) := by decide +kernel
theorem dX3_gives_71 : decode cX3_gives 71 = .ok (.iconst 2, 1) := by decide +kernel
theorem dX3_gives_72 : decode cX3_gives 72 = .ok (.if_icmp .ne 21, 3) := by decide +kernel
theorem dX3_gives_75 : decode cX3_gives 75 = .ok (.aload_n 0, 1) := by decide +kernel
theorem dX3_gives_76 : decode cX3_gives 76 = .ok (.getfield 19, 3) := by decide +kernel
theorem dX3_gives_79 : decode cX3_gives 79 = .ok (.ifCond .ne 10, 3) := by decide +kernel
theorem dX3_gives_82 : decode cX3_gives 82 = .ok (.aload_n 0, 1) := by decide +kernel
theorem dX3_gives_83 : decode cX3_gives 83 = .ok (.getfield 16, 3) := by decide +kernel
theorem dX3_gives_86 : decode cX3_gives 86 = .ok (.ifCond .eq 7, 3) := by decide +kernel
theorem dX3_gives_89 : decode cX3_gives 89 = .ok (.iconst 1, 1) := by decide +kernel
theorem dX3_gives_90 : decode cX3_gives 90 = .ok (.goto 4, 3) := by decide +kernel
theorem dX3_gives_93 : decode cX3_gives 93 = .ok (.iconst 0, 1) := by decide +kernel
theorem dX3_gives_94 : decode cX3_gives 94 = .ok (.ireturn, 1) := by decide +kernel
theorem dX3_gives_95 : decode cX3_gives 95 = .ok (.iconst 0, 1) := by decide +kernel
theorem dX3_gives_96 : decode cX3_gives 96 = .ok (.ireturn, 1) := by decide +kernel
def f_Cr_gives (w0 : Nat) (a0 : Int32) (I : Nat → Nat → Int32) (L : Nat → Nat → Int64) : Int32 := (if a0 = (0 : Int32) then (1 : Int32) else (if a0 = (1 : Int32) then (if (I w0 4) = (0 : Int32) then (if (I w0 1) = (2 : Int32) then (1 : Int32) else (if (I w0 1) = (1 : Int32) then (if (I w0 0) = (1 : Int32) then (1 : Int32) else (0 : Int32)) else (0 : Int32))) else (0 : Int32)) else (if a0 = (2 : Int32) then (if (I w0 0) = (2 : Int32) then (if (I w0 4) = (0 : Int32) then (if (I w0 1) = (0 : Int32) then (0 : Int32) else (1 : Int32)) else (1 : Int32)) else (0 : Int32)) else (0 : Int32))))
set_option maxRecDepth 100000 in
set_option maxHeartbeats 4000000 in
theorem c_Cr_gives {G : xG} {S : List xSh} {Rf : Nat → Nat → Option Nat} (hT : xTH S Rf) {w0 : Nat} {a0 : Int32} (hw0 : S[w0]? = some (.inl 3)) {I : Nat → Nat → Int32} {L : Nat → Nat → Int64} {q : Int32} (hf : f_Cr_gives w0 a0 I L = q) : CT G 1 m_Cr_gives [.ref (xP G w0), .int a0] (S, I, L, Rf) (some (.int q), (S, I, L, Rf)) := by
  refine CT.of (by decide +kernel) (Nat.le_of_ble_eq_true rfl) ?_
  show X G 1 m_Cr_gives 0 [(0, .ref (xP G w0)), (1, .int a0)] [] (S, I, L, Rf) (some (.int q), (S, I, L, Rf))
  replace hf := (f_Cr_gives.eq_1 _ _ _ _).symm.trans hf
  refine X_iload_n (pc := 0) (i := 1) 1 dX3_gives_0 rfl rfl ?_
  by_cases c1 : a0 = (0 : Int32)
  · replace hf := (if_pos c1).symm.trans hf
    refine X_tabIn (pc := 1) (off := 27) (0) 28 dX3_gives_1 (by rw [c1]; rfl) (by decide) ?_
    refine X_iconst (pc := 28) (1 : Int32) dX3_gives_28 (by decide) ?_
    subst hf
    exact X_zreturn (pc := 29) rfl (nar_b (by decide)) dX3_gives_29
  · replace hf := (if_neg c1).symm.trans hf
    by_cases c2 : a0 = (1 : Int32)
    · replace hf := (if_pos c2).symm.trans hf
      refine X_tabIn (pc := 1) (off := 29) (1) 30 dX3_gives_1 (by rw [c2]; rfl) (by decide) ?_
      refine X_aload_n (pc := 30) (i := 0) 0 dX3_gives_30 rfl rfl ?_
      refine X_get (pc := 31) (a := w0) (ci := 3) (j := 4) (.int (I w0 4)) hw0 (by decide) k_450 rfl dX3_gives_31 ?_
      by_cases c4 : (I w0 4) = (0 : Int32)
      · replace hf := (if_pos c4).symm.trans hf
        refine X_if_ne_f (pc := 34) 65 dX3_gives_34 (by decide) c4 ?_
        refine X_aload_n (pc := 37) (i := 0) 0 dX3_gives_37 rfl rfl ?_
        refine X_get (pc := 38) (a := w0) (ci := 3) (j := 1) (.int (I w0 1)) hw0 (by decide) k_444 rfl dX3_gives_38 ?_
        refine X_iconst (pc := 41) (2 : Int32) dX3_gives_41 (by decide) ?_
        by_cases c5 : (I w0 1) = (2 : Int32)
        · replace hf := (if_pos c5).symm.trans hf
          refine X_icmp_eq_t (pc := 42) 61 dX3_gives_42 (by decide) c5 ?_
          refine X_iconst (pc := 61) (1 : Int32) dX3_gives_61 (by decide) ?_
          refine X_goto (pc := 62) 66 dX3_gives_62 (by decide) ?_
          subst hf
          exact X_zreturn (pc := 66) rfl (nar_b (by decide)) dX3_gives_66
        · replace hf := (if_neg c5).symm.trans hf
          refine X_icmp_eq_f (pc := 42) 61 dX3_gives_42 (by decide) c5 ?_
          refine X_aload_n (pc := 45) (i := 0) 0 dX3_gives_45 rfl rfl ?_
          refine X_get (pc := 46) (a := w0) (ci := 3) (j := 1) (.int (I w0 1)) hw0 (by decide) k_444 rfl dX3_gives_46 ?_
          refine X_iconst (pc := 49) (1 : Int32) dX3_gives_49 (by decide) ?_
          by_cases c6 : (I w0 1) = (1 : Int32)
          · replace hf := (if_pos c6).symm.trans hf
            refine X_icmp_ne_f (pc := 50) 65 dX3_gives_50 (by decide) c6 ?_
            refine X_aload_n (pc := 53) (i := 0) 0 dX3_gives_53 rfl rfl ?_
            refine X_get (pc := 54) (a := w0) (ci := 3) (j := 0) (.int (I w0 0)) hw0 (by decide) k_443 rfl dX3_gives_54 ?_
            refine X_iconst (pc := 57) (1 : Int32) dX3_gives_57 (by decide) ?_
            by_cases c7 : (I w0 0) = (1 : Int32)
            · replace hf := (if_pos c7).symm.trans hf
              refine X_icmp_ne_f (pc := 58) 65 dX3_gives_58 (by decide) c7 ?_
              refine X_iconst (pc := 61) (1 : Int32) dX3_gives_61 (by decide) ?_
              refine X_goto (pc := 62) 66 dX3_gives_62 (by decide) ?_
              subst hf
              exact X_zreturn (pc := 66) rfl (nar_b (by decide)) dX3_gives_66
            · replace hf := (if_neg c7).symm.trans hf
              refine X_icmp_ne_t (pc := 58) 65 dX3_gives_58 (by decide) c7 ?_
              refine X_iconst (pc := 65) (0 : Int32) dX3_gives_65 (by decide) ?_
              subst hf
              exact X_zreturn (pc := 66) rfl (nar_b (by decide)) dX3_gives_66
          · replace hf := (if_neg c6).symm.trans hf
            refine X_icmp_ne_t (pc := 50) 65 dX3_gives_50 (by decide) c6 ?_
            refine X_iconst (pc := 65) (0 : Int32) dX3_gives_65 (by decide) ?_
            subst hf
            exact X_zreturn (pc := 66) rfl (nar_b (by decide)) dX3_gives_66
      · replace hf := (if_neg c4).symm.trans hf
        refine X_if_ne_t (pc := 34) 65 dX3_gives_34 (by decide) c4 ?_
        refine X_iconst (pc := 65) (0 : Int32) dX3_gives_65 (by decide) ?_
        subst hf
        exact X_zreturn (pc := 66) rfl (nar_b (by decide)) dX3_gives_66
    · replace hf := (if_neg c2).symm.trans hf
      by_cases c3 : a0 = (2 : Int32)
      · replace hf := (if_pos c3).symm.trans hf
        refine X_tabIn (pc := 1) (off := 66) (2) 67 dX3_gives_1 (by rw [c3]; rfl) (by decide) ?_
        refine X_aload_n (pc := 67) (i := 0) 0 dX3_gives_67 rfl rfl ?_
        refine X_get (pc := 68) (a := w0) (ci := 3) (j := 0) (.int (I w0 0)) hw0 (by decide) k_443 rfl dX3_gives_68 ?_
        refine X_iconst (pc := 71) (2 : Int32) dX3_gives_71 (by decide) ?_
        by_cases c8 : (I w0 0) = (2 : Int32)
        · replace hf := (if_pos c8).symm.trans hf
          refine X_icmp_ne_f (pc := 72) 93 dX3_gives_72 (by decide) c8 ?_
          refine X_aload_n (pc := 75) (i := 0) 0 dX3_gives_75 rfl rfl ?_
          refine X_get (pc := 76) (a := w0) (ci := 3) (j := 4) (.int (I w0 4)) hw0 (by decide) k_450 rfl dX3_gives_76 ?_
          by_cases c9 : (I w0 4) = (0 : Int32)
          · replace hf := (if_pos c9).symm.trans hf
            refine X_if_ne_f (pc := 79) 89 dX3_gives_79 (by decide) c9 ?_
            refine X_aload_n (pc := 82) (i := 0) 0 dX3_gives_82 rfl rfl ?_
            refine X_get (pc := 83) (a := w0) (ci := 3) (j := 1) (.int (I w0 1)) hw0 (by decide) k_444 rfl dX3_gives_83 ?_
            by_cases c10 : (I w0 1) = (0 : Int32)
            · replace hf := (if_pos c10).symm.trans hf
              refine X_if_eq_t (pc := 86) 93 dX3_gives_86 (by decide) c10 ?_
              refine X_iconst (pc := 93) (0 : Int32) dX3_gives_93 (by decide) ?_
              subst hf
              exact X_zreturn (pc := 94) rfl (nar_b (by decide)) dX3_gives_94
            · replace hf := (if_neg c10).symm.trans hf
              refine X_if_eq_f (pc := 86) 93 dX3_gives_86 (by decide) c10 ?_
              refine X_iconst (pc := 89) (1 : Int32) dX3_gives_89 (by decide) ?_
              refine X_goto (pc := 90) 94 dX3_gives_90 (by decide) ?_
              subst hf
              exact X_zreturn (pc := 94) rfl (nar_b (by decide)) dX3_gives_94
          · replace hf := (if_neg c9).symm.trans hf
            refine X_if_ne_t (pc := 79) 89 dX3_gives_79 (by decide) c9 ?_
            refine X_iconst (pc := 89) (1 : Int32) dX3_gives_89 (by decide) ?_
            refine X_goto (pc := 90) 94 dX3_gives_90 (by decide) ?_
            subst hf
            exact X_zreturn (pc := 94) rfl (nar_b (by decide)) dX3_gives_94
        · replace hf := (if_neg c8).symm.trans hf
          refine X_icmp_ne_t (pc := 72) 93 dX3_gives_72 (by decide) c8 ?_
          refine X_iconst (pc := 93) (0 : Int32) dX3_gives_93 (by decide) ?_
          subst hf
          exact X_zreturn (pc := 94) rfl (nar_b (by decide)) dX3_gives_94
      · replace hf := (if_neg c3).symm.trans hf
        refine X_tabOut (pc := 1) 95 dX3_gives_1 (by have zc1 := lv_neT (a := 0) c1 rfl; have zc2 := lv_neT (a := 1) c2 rfl; have zc3 := lv_neT (a := 2) c3 rfl; omega) (by decide) ?_
        refine X_iconst (pc := 95) (0 : Int32) dX3_gives_95 (by decide) ?_
        subst hf
        exact X_zreturn (pc := 96) rfl (nar_b (by decide)) dX3_gives_96
theorem dX3_push_0 : decode cX3_push 0 = .ok (.iload_n 1, 1) := by decide +kernel
theorem dX3_push_1 : decode cX3_push 1 = .ok (.tableswitch 102 0 2 #[27, 47, 75], 27) := by decide +kernel
theorem dX3_push_28 : decode cX3_push 28 = .ok (.aload_n 0, 1) := by decide +kernel
theorem dX3_push_29 : decode cX3_push 29 = .ok (.aload_n 0, 1) := by decide +kernel
theorem dX3_push_30 : decode cX3_push 30 = .ok (.getfield 16, 3) := by decide +kernel
theorem dX3_push_33 : decode cX3_push 33 = .ok (.iconst 1, 1) := by decide +kernel
theorem dX3_push_34 : decode cX3_push 34 = .ok (.if_icmp .ne 7, 3) := by decide +kernel
theorem dX3_push_37 : decode cX3_push 37 = .ok (.iconst 2, 1) := by decide +kernel
theorem dX3_push_38 : decode cX3_push 38 = .ok (.goto 4, 3) := by decide +kernel
theorem dX3_push_41 : decode cX3_push 41 = .ok (.iconst 1, 1) := by decide +kernel
theorem dX3_push_42 : decode cX3_push 42 = .ok (.putfield 16, 3) := by decide +kernel
theorem dX3_push_45 : decode cX3_push 45 = .ok (.goto 58, 3) := by decide +kernel
theorem dX3_push_48 : decode cX3_push 48 = .ok (.aload_n 0, 1) := by decide +kernel
theorem dX3_push_49 : decode cX3_push 49 = .ok (.aload_n 0, 1) := by decide +kernel
theorem dX3_push_50 : decode cX3_push 50 = .ok (.getfield 16, 3) := by decide +kernel
theorem dX3_push_53 : decode cX3_push 53 = .ok (.iconst 2, 1) := by decide +kernel
theorem dX3_push_54 : decode cX3_push 54 = .ok (.if_icmp .ne 7, 3) := by decide +kernel
theorem dX3_push_57 : decode cX3_push 57 = .ok (.iconst 0, 1) := by decide +kernel
theorem dX3_push_58 : decode cX3_push 58 = .ok (.goto 7, 3) := by decide +kernel
theorem dX3_push_61 : decode cX3_push 61 = .ok (.aload_n 0, 1) := by decide +kernel
theorem dX3_push_62 : decode cX3_push 62 = .ok (.getfield 16, 3) := by decide +kernel
theorem dX3_push_65 : decode cX3_push 65 = .ok (.putfield 16, 3) := by decide +kernel
theorem dX3_push_68 : decode cX3_push 68 = .ok (.aload_n 0, 1) := by decide +kernel
theorem dX3_push_69 : decode cX3_push 69 = .ok (.iconst 0, 1) := by decide +kernel
theorem dX3_push_70 : decode cX3_push 70 = .ok (.invokevirtual 23, 3) := by decide +kernel
theorem dX3_push_73 : decode cX3_push 73 = .ok (.goto 30, 3) := by decide +kernel
theorem dX3_push_76 : decode cX3_push 76 = .ok (.aload_n 0, 1) := by decide +kernel
theorem dX3_push_77 : decode cX3_push 77 = .ok (.aload_n 0, 1) := by decide +kernel
theorem dX3_push_78 : decode cX3_push 78 = .ok (.getfield 19, 3) := by decide +kernel
theorem dX3_push_81 : decode cX3_push 81 = .ok (.ifCond .ne 7, 3) := by decide +kernel
theorem dX3_push_84 : decode cX3_push 84 = .ok (.iconst 1, 1) := by decide +kernel
theorem dX3_push_85 : decode cX3_push 85 = .ok (.goto 4, 3) := by decide +kernel
theorem dX3_push_88 : decode cX3_push 88 = .ok (.iconst 0, 1) := by decide +kernel
theorem dX3_push_89 : decode cX3_push 89 = .ok (.putfield 19, 3) := by decide +kernel
theorem dX3_push_92 : decode cX3_push 92 = .ok (.aload_n 0, 1) := by decide +kernel
theorem dX3_push_93 : decode cX3_push 93 = .ok (.aload_n 0, 1) := by decide +kernel
theorem dX3_push_94 : decode cX3_push 94 = .ok (.getfield 27, 3) := by decide +kernel
theorem dX3_push_97 : decode cX3_push 97 = .ok (.invokevirtual 23, 3) := by decide +kernel
theorem dX3_push_100 : decode cX3_push 100 = .ok (.goto 3, 3) := by decide +kernel
theorem dX3_push_103 : decode cX3_push 103 = .ok (.aload_n 0, 1) := by decide +kernel
theorem dX3_push_104 : decode cX3_push 104 = .ok (.getfield 16, 3) := by decide +kernel
theorem dX3_push_107 : decode cX3_push 107 = .ok (.ireturn, 1) := by decide +kernel
def f_Cr_push_L65 (w0 : Nat) (l0 : Nat) (s0 : Nat) (s1 : Int32) (I : (Nat → Nat → Int32)) (L : (Nat → Nat → Int64)) : Option (Int32 × (Nat → Nat → Int32) × (Nat → Nat → Int64)) := ((f_Cr_setCount l0 (0 : Int32) (uI I s0 1 s1) L).bind fun q6 => (some ((q6.1 l0 1), q6.1, q6.2)))
set_option maxRecDepth 100000 in
set_option maxHeartbeats 4000000 in
theorem x_Cr_push_L65 {G : xG} {S : List xSh} {Rf : Nat → Nat → Option Nat} (hT : xTH S Rf) {w0 : Nat} (hw0 : S[w0]? = some (.inl 3)) {l0 : Nat} {s0 : Nat} {s1 : Int32} {I : Nat → Nat → Int32} {L : Nat → Nat → Int64} {q : (Int32 × (Nat → Nat → Int32) × (Nat → Nat → Int64))} (hl0 : S[l0]? = some (.inl 3)) (hs0 : S[s0]? = some (.inl 3)) (hf : f_Cr_push_L65 w0 l0 s0 s1 I L = some q) : X G 2 m_Cr_push 65 [(0, .ref (xP G l0))] [.int s1, .ref (xP G s0)] (S, I, L, Rf) (some (.int q.1), (S, q.2.1, q.2.2, Rf)) := by
  replace hf := (f_Cr_push_L65.eq_1 _ _ _ _ _ _).symm.trans hf
  refine X_puti (pc := 65) (a := s0) (ci := 3) (j := 1) 1 rfl false hs0 (by decide) k_444 rfl (fun h => by cases h) rfl dX3_push_65 ?_
  refine X_aload_n (pc := 68) (i := 0) 0 dX3_push_68 rfl rfl ?_
  refine X_iconst (pc := 69) (0 : Int32) dX3_push_69 (by decide) ?_
  obtain ⟨q6, c7, hf⟩ := bd_some hf
  refine X_invV_v (pc := 70) (c_Cr_setCount hT hl0 c7) ok_Cr_setCount (ci := 3) hl0 k_702 k_704 k_10 nd_13 (by decide) rfl (Nat.le_of_ble_eq_true rfl) dX3_push_70 ?_
  refine X_goto (pc := 73) 103 dX3_push_73 (by decide) ?_
  refine X_aload_n (pc := 103) (i := 0) 0 dX3_push_103 rfl rfl ?_
  refine X_get (pc := 104) (a := l0) (ci := 3) (j := 1) (.int (q6.1 l0 1)) hl0 (by decide) k_444 rfl dX3_push_104 ?_
  cases hf
  exact X_ireturn (pc := 107) rfl dX3_push_107
theorem u_Cr_push_L65 {S : List xSh} {w0 : Nat} (hw0 : S[w0]? = some (.inl 3)) {l0 : Nat} {s0 : Nat} {s1 : Int32} {I : Nat → Nat → Int32} {L : Nat → Nat → Int64} {q : (Int32 × (Nat → Nat → Int32) × (Nat → Nat → Int64))} (hl0 : S[l0]? = some (.inl 3)) (hs0 : S[s0]? = some (.inl 3)) (hf : f_Cr_push_L65 w0 l0 s0 s1 I L = some q) : FR S [] [] I q.2.1 L q.2.2 := by
  replace hf := (f_Cr_push_L65.eq_1 _ _ _ _ _ _).symm.trans hf
  obtain ⟨q6, c7, hf⟩ := bd_some hf
  cases hf
  exact (FR.tr (FR.dy FR.rf hs0 (by decide)) (u_Cr_setCount hl0 (q := q6) c7) (by decide) (by decide))
def f_Cr_push_L89 (w0 : Nat) (l0 : Nat) (s0 : Nat) (s1 : Int32) (I : (Nat → Nat → Int32)) (L : (Nat → Nat → Int64)) : Option (Int32 × (Nat → Nat → Int32) × (Nat → Nat → Int64)) := (if (s1 = (0 : Int32) ∨ s1 = (1 : Int32)) then ((f_Cr_setCount l0 ((uI I s0 4 s1) l0 2) (uI I s0 4 s1) L).bind fun q10 => (some ((q10.1 l0 1), q10.1, q10.2))) else none)
set_option maxRecDepth 100000 in
set_option maxHeartbeats 4000000 in
theorem x_Cr_push_L89 {G : xG} {S : List xSh} {Rf : Nat → Nat → Option Nat} (hT : xTH S Rf) {w0 : Nat} (hw0 : S[w0]? = some (.inl 3)) {l0 : Nat} {s0 : Nat} {s1 : Int32} {I : Nat → Nat → Int32} {L : Nat → Nat → Int64} {q : (Int32 × (Nat → Nat → Int32) × (Nat → Nat → Int64))} (hl0 : S[l0]? = some (.inl 3)) (hs0 : S[s0]? = some (.inl 3)) (hf : f_Cr_push_L89 w0 l0 s0 s1 I L = some q) : X G 2 m_Cr_push 89 [(0, .ref (xP G l0))] [.int s1, .ref (xP G s0)] (S, I, L, Rf) (some (.int q.1), (S, q.2.1, q.2.2, Rf)) := by
  replace hf := (f_Cr_push_L89.eq_1 _ _ _ _ _ _).symm.trans hf
  obtain ⟨c9, hf⟩ := gd_some hf
  refine X_putz (pc := 89) (a := s0) (ci := 3) (j := 4) 4 rfl false hs0 (by decide) k_450 rfl (fun h => by cases h) rfl c9 dX3_push_89 ?_
  refine X_aload_n (pc := 92) (i := 0) 0 dX3_push_92 rfl rfl ?_
  refine X_aload_n (pc := 93) (i := 0) 0 dX3_push_93 rfl rfl ?_
  refine X_get (pc := 94) (a := l0) (ci := 3) (j := 2) (.int ((uI I s0 4 s1) l0 2)) hl0 (by decide) k_446 rfl dX3_push_94 ?_
  obtain ⟨q10, c11, hf⟩ := bd_some hf
  refine X_invV_v (pc := 97) (c_Cr_setCount hT hl0 c11) ok_Cr_setCount (ci := 3) hl0 k_702 k_704 k_10 nd_13 (by decide) rfl (Nat.le_of_ble_eq_true rfl) dX3_push_97 ?_
  refine X_goto (pc := 100) 103 dX3_push_100 (by decide) ?_
  refine X_aload_n (pc := 103) (i := 0) 0 dX3_push_103 rfl rfl ?_
  refine X_get (pc := 104) (a := l0) (ci := 3) (j := 1) (.int (q10.1 l0 1)) hl0 (by decide) k_444 rfl dX3_push_104 ?_
  cases hf
  exact X_ireturn (pc := 107) rfl dX3_push_107
theorem u_Cr_push_L89 {S : List xSh} {w0 : Nat} (hw0 : S[w0]? = some (.inl 3)) {l0 : Nat} {s0 : Nat} {s1 : Int32} {I : Nat → Nat → Int32} {L : Nat → Nat → Int64} {q : (Int32 × (Nat → Nat → Int32) × (Nat → Nat → Int64))} (hl0 : S[l0]? = some (.inl 3)) (hs0 : S[s0]? = some (.inl 3)) (hf : f_Cr_push_L89 w0 l0 s0 s1 I L = some q) : FR S [] [] I q.2.1 L q.2.2 := by
  replace hf := (f_Cr_push_L89.eq_1 _ _ _ _ _ _).symm.trans hf
  obtain ⟨c9, hf⟩ := gd_some hf
  obtain ⟨q10, c11, hf⟩ := bd_some hf
  cases hf
  exact (FR.tr (FR.dy FR.rf hs0 (by decide)) (u_Cr_setCount hl0 (q := q10) c11) (by decide) (by decide))
def f_Cr_push (w0 : Nat) (a0 : Int32) (I : Nat → Nat → Int32) (L : Nat → Nat → Int64) : Option (Int32 × (Nat → Nat → Int32) × (Nat → Nat → Int64)) := (if a0 = (0 : Int32) then (if (I w0 1) = (1 : Int32) then (some (((uI I w0 1 (2 : Int32)) w0 1), (uI I w0 1 (2 : Int32)), L)) else (some (((uI I w0 1 (1 : Int32)) w0 1), (uI I w0 1 (1 : Int32)), L))) else (if a0 = (1 : Int32) then (if (I w0 1) = (2 : Int32) then (f_Cr_push_L65 w0 w0 w0 (0 : Int32) I L) else (f_Cr_push_L65 w0 w0 w0 (I w0 1) I L)) else (if a0 = (2 : Int32) then (if (I w0 4) = (0 : Int32) then (f_Cr_push_L89 w0 w0 w0 (1 : Int32) I L) else (f_Cr_push_L89 w0 w0 w0 (0 : Int32) I L)) else (some ((I w0 1), I, L)))))
set_option maxRecDepth 100000 in
set_option maxHeartbeats 4000000 in
theorem c_Cr_push {G : xG} {S : List xSh} {Rf : Nat → Nat → Option Nat} (hT : xTH S Rf) {w0 : Nat} {a0 : Int32} (hw0 : S[w0]? = some (.inl 3)) {I : Nat → Nat → Int32} {L : Nat → Nat → Int64} {q : (Int32 × (Nat → Nat → Int32) × (Nat → Nat → Int64))} (hf : f_Cr_push w0 a0 I L = some q) : CT G 2 m_Cr_push [.ref (xP G w0), .int a0] (S, I, L, Rf) (some (.int q.1), (S, q.2.1, q.2.2, Rf)) := by
  refine CT.of (by decide +kernel) (Nat.le_of_ble_eq_true rfl) ?_
  show X G 2 m_Cr_push 0 [(0, .ref (xP G w0)), (1, .int a0)] [] (S, I, L, Rf) (some (.int q.1), (S, q.2.1, q.2.2, Rf))
  replace hf := (f_Cr_push.eq_1 _ _ _ _).symm.trans hf
  refine X_iload_n (pc := 0) (i := 1) 1 dX3_push_0 rfl rfl ?_
  by_cases c1 : a0 = (0 : Int32)
  · replace hf := (if_pos c1).symm.trans hf
    refine X_tabIn (pc := 1) (off := 27) (0) 28 dX3_push_1 (by rw [c1]; rfl) (by decide) ?_
    refine X_aload_n (pc := 28) (i := 0) 0 dX3_push_28 rfl rfl ?_
    refine X_aload_n (pc := 29) (i := 0) 0 dX3_push_29 rfl rfl ?_
    refine X_get (pc := 30) (a := w0) (ci := 3) (j := 1) (.int (I w0 1)) hw0 (by decide) k_444 rfl dX3_push_30 ?_
    refine X_iconst (pc := 33) (1 : Int32) dX3_push_33 (by decide) ?_
    by_cases c4 : (I w0 1) = (1 : Int32)
    · replace hf := (if_pos c4).symm.trans hf
      refine X_icmp_ne_f (pc := 34) 41 dX3_push_34 (by decide) c4 ?_
      refine X_iconst (pc := 37) (2 : Int32) dX3_push_37 (by decide) ?_
      refine X_goto (pc := 38) 42 dX3_push_38 (by decide) ?_
      refine X_puti (pc := 42) (a := w0) (ci := 3) (j := 1) 1 rfl false hw0 (by decide) k_444 rfl (fun h => by cases h) rfl dX3_push_42 ?_
      refine X_goto (pc := 45) 103 dX3_push_45 (by decide) ?_
      refine X_aload_n (pc := 103) (i := 0) 0 dX3_push_103 rfl rfl ?_
      refine X_get (pc := 104) (a := w0) (ci := 3) (j := 1) (.int ((uI I w0 1 (2 : Int32)) w0 1)) hw0 (by decide) k_444 rfl dX3_push_104 ?_
      cases hf
      exact X_ireturn (pc := 107) rfl dX3_push_107
    · replace hf := (if_neg c4).symm.trans hf
      refine X_icmp_ne_t (pc := 34) 41 dX3_push_34 (by decide) c4 ?_
      refine X_iconst (pc := 41) (1 : Int32) dX3_push_41 (by decide) ?_
      refine X_puti (pc := 42) (a := w0) (ci := 3) (j := 1) 1 rfl false hw0 (by decide) k_444 rfl (fun h => by cases h) rfl dX3_push_42 ?_
      refine X_goto (pc := 45) 103 dX3_push_45 (by decide) ?_
      refine X_aload_n (pc := 103) (i := 0) 0 dX3_push_103 rfl rfl ?_
      refine X_get (pc := 104) (a := w0) (ci := 3) (j := 1) (.int ((uI I w0 1 (1 : Int32)) w0 1)) hw0 (by decide) k_444 rfl dX3_push_104 ?_
      cases hf
      exact X_ireturn (pc := 107) rfl dX3_push_107
  · replace hf := (if_neg c1).symm.trans hf
    by_cases c2 : a0 = (1 : Int32)
    · replace hf := (if_pos c2).symm.trans hf
      refine X_tabIn (pc := 1) (off := 47) (1) 48 dX3_push_1 (by rw [c2]; rfl) (by decide) ?_
      refine X_aload_n (pc := 48) (i := 0) 0 dX3_push_48 rfl rfl ?_
      refine X_aload_n (pc := 49) (i := 0) 0 dX3_push_49 rfl rfl ?_
      refine X_get (pc := 50) (a := w0) (ci := 3) (j := 1) (.int (I w0 1)) hw0 (by decide) k_444 rfl dX3_push_50 ?_
      refine X_iconst (pc := 53) (2 : Int32) dX3_push_53 (by decide) ?_
      by_cases c5 : (I w0 1) = (2 : Int32)
      · replace hf := (if_pos c5).symm.trans hf
        refine X_icmp_ne_f (pc := 54) 61 dX3_push_54 (by decide) c5 ?_
        refine X_iconst (pc := 57) (0 : Int32) dX3_push_57 (by decide) ?_
        refine X_goto (pc := 58) 65 dX3_push_58 (by decide) ?_
        exact X_lvs [0] rfl (x_Cr_push_L65 hT hw0 hw0 hw0 hf)
      · replace hf := (if_neg c5).symm.trans hf
        refine X_icmp_ne_t (pc := 54) 61 dX3_push_54 (by decide) c5 ?_
        refine X_aload_n (pc := 61) (i := 0) 0 dX3_push_61 rfl rfl ?_
        refine X_get (pc := 62) (a := w0) (ci := 3) (j := 1) (.int (I w0 1)) hw0 (by decide) k_444 rfl dX3_push_62 ?_
        exact X_lvs [0] rfl (x_Cr_push_L65 hT hw0 hw0 hw0 hf)
    · replace hf := (if_neg c2).symm.trans hf
      by_cases c3 : a0 = (2 : Int32)
      · replace hf := (if_pos c3).symm.trans hf
        refine X_tabIn (pc := 1) (off := 75) (2) 76 dX3_push_1 (by rw [c3]; rfl) (by decide) ?_
        refine X_aload_n (pc := 76) (i := 0) 0 dX3_push_76 rfl rfl ?_
        refine X_aload_n (pc := 77) (i := 0) 0 dX3_push_77 rfl rfl ?_
        refine X_get (pc := 78) (a := w0) (ci := 3) (j := 4) (.int (I w0 4)) hw0 (by decide) k_450 rfl dX3_push_78 ?_
        by_cases c8 : (I w0 4) = (0 : Int32)
        · replace hf := (if_pos c8).symm.trans hf
          refine X_if_ne_f (pc := 81) 88 dX3_push_81 (by decide) c8 ?_
          refine X_iconst (pc := 84) (1 : Int32) dX3_push_84 (by decide) ?_
          refine X_goto (pc := 85) 89 dX3_push_85 (by decide) ?_
          exact X_lvs [0] rfl (x_Cr_push_L89 hT hw0 hw0 hw0 hf)
        · replace hf := (if_neg c8).symm.trans hf
          refine X_if_ne_t (pc := 81) 88 dX3_push_81 (by decide) c8 ?_
          refine X_iconst (pc := 88) (0 : Int32) dX3_push_88 (by decide) ?_
          exact X_lvs [0] rfl (x_Cr_push_L89 hT hw0 hw0 hw0 hf)
      · replace hf := (if_neg c3).symm.trans hf
        refine X_tabOut (pc := 1) 103 dX3_push_1 (by have zc1 := lv_neT (a := 0) c1 rfl; have zc2 := lv_neT (a := 1) c2 rfl; have zc3 := lv_neT (a := 2) c3 rfl; omega) (by decide) ?_
        refine X_aload_n (pc := 103) (i := 0) 0 dX3_push_103 rfl rfl ?_
        refine X_get (pc := 104) (a := w0) (ci := 3) (j := 1) (.int (I w0 1)) hw0 (by decide) k_444 rfl dX3_push_104 ?_
        cases hf
        exact X_ireturn (pc := 107) rfl dX3_push_107
theorem u_Cr_push {S : List xSh} {w0 : Nat} {a0 : Int32} (hw0 : S[w0]? = some (.inl 3)) {I : Nat → Nat → Int32} {L : Nat → Nat → Int64} {q : (Int32 × (Nat → Nat → Int32) × (Nat → Nat → Int64))} (hf : f_Cr_push w0 a0 I L = some q) : FR S [] [] I q.2.1 L q.2.2 := by
  replace hf := (f_Cr_push.eq_1 _ _ _ _).symm.trans hf
  by_cases c1 : a0 = (0 : Int32)
  · replace hf := (if_pos c1).symm.trans hf
    by_cases c4 : (I w0 1) = (1 : Int32)
    · replace hf := (if_pos c4).symm.trans hf
      cases hf
      exact (FR.dy FR.rf hw0 (by decide))
    · replace hf := (if_neg c4).symm.trans hf
      cases hf
      exact (FR.dy FR.rf hw0 (by decide))
  · replace hf := (if_neg c1).symm.trans hf
    by_cases c2 : a0 = (1 : Int32)
    · replace hf := (if_pos c2).symm.trans hf
      by_cases c5 : (I w0 1) = (2 : Int32)
      · replace hf := (if_pos c5).symm.trans hf
        exact FR.tr FR.rf (u_Cr_push_L65 hw0 hw0 hw0 hf) (by decide) (by decide)
      · replace hf := (if_neg c5).symm.trans hf
        exact FR.tr FR.rf (u_Cr_push_L65 hw0 hw0 hw0 hf) (by decide) (by decide)
    · replace hf := (if_neg c2).symm.trans hf
      by_cases c3 : a0 = (2 : Int32)
      · replace hf := (if_pos c3).symm.trans hf
        by_cases c8 : (I w0 4) = (0 : Int32)
        · replace hf := (if_pos c8).symm.trans hf
          exact FR.tr FR.rf (u_Cr_push_L89 hw0 hw0 hw0 hf) (by decide) (by decide)
        · replace hf := (if_neg c8).symm.trans hf
          exact FR.tr FR.rf (u_Cr_push_L89 hw0 hw0 hw0 hf) (by decide) (by decide)
      · replace hf := (if_neg c3).symm.trans hf
        cases hf
        exact FR.rf
theorem dX11_press_0 : decode cX11_press 0 = .ok (.aload_n 0, 1) := by decide +kernel
theorem dX11_press_1 : decode cX11_press 1 = .ok (.iload_n 1, 1) := by decide +kernel
theorem dX11_press_2 : decode cX11_press 2 = .ok (.invokevirtual 190, 3) := by decide +kernel
theorem dX11_press_5 : decode cX11_press 5 = .ok (.astore_n 3, 1) := by decide +kernel
theorem dX11_press_6 : decode cX11_press 6 = .ok (.aload_n 3, 1) := by decide +kernel
theorem dX11_press_7 : decode cX11_press 7 = .ok (.ifnull 12, 3) := by decide +kernel
theorem dX11_press_10 : decode cX11_press 10 = .ok (.iload_n 2, 1) := by decide +kernel
theorem dX11_press_11 : decode cX11_press 11 = .ok (.iconst 0, 1) := by decide +kernel
theorem dX11_press_12 : decode cX11_press 12 = .ok (.iconst 2, 1) := by decide +kernel
theorem dX11_press_13 : decode cX11_press 13 = .ok (.invokestatic 113, 3) := by decide +kernel
theorem dX11_press_16 : decode cX11_press 16 = .ok (.ifCond .ne 5, 3) := by decide +kernel
theorem dX11_press_19 : decode cX11_press 19 = .ok (.iconst (-1), 1) := by decide +kernel
theorem dX11_press_20 : decode cX11_press 20 = .ok (.ireturn, 1) := by decide +kernel
theorem dX11_press_21 : decode cX11_press 21 = .ok (.aload_n 0, 1) := by decide +kernel
theorem dX11_press_22 : decode cX11_press 22 = .ok (.getfield 99, 3) := by decide +kernel
theorem dX11_press_25 : decode cX11_press 25 = .ok (.ifCond .eq 11, 3) := by decide +kernel
theorem dX11_press_28 : decode cX11_press 28 = .ok (.aload_n 3, 1) := by decide +kernel
theorem dX11_press_29 : decode cX11_press 29 = .ok (.iload_n 2, 1) := by decide +kernel
theorem dX11_press_30 : decode cX11_press 30 = .ok (.invokevirtual 194, 3) := by decide +kernel
theorem dX11_press_33 : decode cX11_press 33 = .ok (.ifCond .ne 6, 3) := by decide +kernel
theorem dX11_press_36 : decode cX11_press 36 = .ok (.bipush (-2), 2) := by decide +kernel
theorem dX11_press_38 : decode cX11_press 38 = .ok (.ireturn, 1) := by decide +kernel
theorem dX11_press_39 : decode cX11_press 39 = .ok (.aload_n 0, 1) := by decide +kernel
theorem dX11_press_40 : decode cX11_press 40 = .ok (.iconst 3, 1) := by decide +kernel
theorem dX11_press_41 : decode cX11_press 41 = .ok (.iload_n 1, 1) := by decide +kernel
theorem dX11_press_42 : decode cX11_press 42 = .ok (.iload_n 2, 1) := by decide +kernel
theorem dX11_press_43 : decode cX11_press 43 = .ok (.iconst 0, 1) := by decide +kernel
theorem dX11_press_44 : decode cX11_press 44 = .ok (.invokevirtual 171, 3) := by decide +kernel
theorem dX11_press_47 : decode cX11_press 47 = .ok (.ifCond .eq 11, 3) := by decide +kernel
theorem dX11_press_50 : decode cX11_press 50 = .ok (.aload_n 3, 1) := by decide +kernel
theorem dX11_press_51 : decode cX11_press 51 = .ok (.iload_n 2, 1) := by decide +kernel
theorem dX11_press_52 : decode cX11_press 52 = .ok (.invokevirtual 197, 3) := by decide +kernel
theorem dX11_press_55 : decode cX11_press 55 = .ok (.goto 5, 3) := by decide +kernel
theorem dX11_press_58 : decode cX11_press 58 = .ok (.bipush (-3), 2) := by decide +kernel
theorem dX11_press_60 : decode cX11_press 60 = .ok (.ireturn, 1) := by decide +kernel
def f_H_press (S : List xSh) (Rf : Nat → Nat → Option Nat) (a0 : Int32) (a1 : Int32) (I : Nat → Nat → Int32) (L : Nat → Nat → Int64) : Option (Int32 × (Nat → Nat → Int32) × (Nat → Nat → Int64)) := ((f_H_chronographAt S Rf a0 I L).bind fun q1 => (oc q1 (some ((-1 : Int32), I, L)) fun w3 => (if S[w3]? = some (.inl 3) then (bnd (f_H_isWithin a1 (0 : Int32) (2 : Int32)) fun x6 => (if x6 = (0 : Int32) then (some ((-1 : Int32), I, L)) else (if (I 0 8) = (0 : Int32) then (some ((-2 : Int32), I, L)) else (if (f_Cr_gives w3 a1 I L) = (0 : Int32) then (some ((-2 : Int32), I, L)) else ((f_H_enter (3 : Int32) a0 a1 (0 : Int32) I L).bind fun q10 => (if q10.1 = (0 : Int32) then (some ((-3 : Int32), q10.2.1, q10.2.2)) else ((f_Cr_push w3 a1 q10.2.1 q10.2.2).bind fun q13 => (some (q13.1, q13.2.1, q13.2.2))))))))) else none)))
set_option maxRecDepth 100000 in
set_option maxHeartbeats 4000000 in
theorem c_H_press {G : xG} {S : List xSh} {Rf : Nat → Nat → Option Nat} (hT : xTH S Rf) {a0 : Int32} {a1 : Int32} {I : Nat → Nat → Int32} {L : Nat → Nat → Int64} {q : (Int32 × (Nat → Nat → Int32) × (Nat → Nat → Int64))} (hf : f_H_press S Rf a0 a1 I L = some q) : CT G 3 m_H_press [.ref (xP G 0), .int a0, .int a1] (S, I, L, Rf) (some (.int q.1), (S, q.2.1, q.2.2, Rf)) := by
  refine CT.of (by decide +kernel) (Nat.le_of_ble_eq_true rfl) ?_
  show X G 3 m_H_press 0 [(0, .ref (xP G 0)), (1, .int a0), (2, .int a1)] [] (S, I, L, Rf) (some (.int q.1), (S, q.2.1, q.2.2, Rf))
  replace hf := (f_H_press.eq_1 _ _ _ _ _ _).symm.trans hf
  refine X_aload_n (pc := 0) (i := 0) 0 dX11_press_0 rfl rfl ?_
  refine X_iload_n (pc := 1) (i := 1) 1 dX11_press_1 rfl rfl ?_
  obtain ⟨q1, c2, hf⟩ := bd_some hf
  rcases oc_cases hf with ⟨hr4, hf⟩ | ⟨w3, hr4, hf⟩
  · rw [hr4] at c2
    refine X_invV_aN (pc := 2) (c_H_chronographAt hT c2) ok_H_chronographAt (ci := 10) (sh_0 hT) k_856 k_858 k_18 nd_23 (by decide) rfl (Nat.le_of_ble_eq_true rfl) dX11_press_2 ?_
    refine X_astore_nN (pc := 5) (i := 3) [(3, .null), (0, .ref (xP G 0)), (1, .int a0), (2, .int a1)] dX11_press_5 rfl (by decide) rfl ?_
    refine X_aload_nN (pc := 6) (i := 3) 0 dX11_press_6 rfl rfl ?_
    refine X_ifnull_t (pc := 7) 19 dX11_press_7 (by decide) ?_
    refine X_iconst (pc := 19) (-1 : Int32) dX11_press_19 (by decide) ?_
    cases hf
    exact X_ireturn (pc := 20) rfl dX11_press_20
  · obtain ⟨hs5, hf⟩ := gd_some hf
    rw [hr4] at c2
    refine X_invV_aS (pc := 2) (c_H_chronographAt hT c2) ok_H_chronographAt (ci := 10) (sh_0 hT) k_856 k_858 k_18 nd_23 (by decide) rfl (Nat.le_of_ble_eq_true rfl) dX11_press_2 ?_
    refine X_astore_n (pc := 5) (i := 3) [(3, .ref (xP G w3)), (0, .ref (xP G 0)), (1, .int a0), (2, .int a1)] dX11_press_5 rfl (by decide) rfl ?_
    refine X_aload_n (pc := 6) (i := 3) 0 dX11_press_6 rfl rfl ?_
    refine X_ifnull_f (pc := 7) dX11_press_7 ?_
    refine X_iload_n (pc := 10) (i := 2) 3 dX11_press_10 rfl rfl ?_
    refine X_iconst (pc := 11) (0 : Int32) dX11_press_11 (by decide) ?_
    refine X_iconst (pc := 12) (2 : Int32) dX11_press_12 (by decide) ?_
    refine X_invS_i (pc := 13) (c_H_isWithin hT rfl) ok_H_isWithin k_563 k_564 nd_6 (by decide) rfl (Nat.le_of_ble_eq_true rfl) dX11_press_13 ?_
    obtain ⟨x6, ex6, hf⟩ := bnd_e hf
    refine X_tope ex6 ?_
    by_cases c7 : x6 = (0 : Int32)
    · replace hf := (if_pos c7).symm.trans hf
      refine X_if_ne_f (pc := 16) 21 dX11_press_16 (by decide) c7 ?_
      refine X_iconst (pc := 19) (-1 : Int32) dX11_press_19 (by decide) ?_
      cases hf
      exact X_ireturn (pc := 20) rfl dX11_press_20
    · replace hf := (if_neg c7).symm.trans hf
      refine X_if_ne_t (pc := 16) 21 dX11_press_16 (by decide) c7 ?_
      refine X_aload_n (pc := 21) (i := 0) 1 dX11_press_21 rfl rfl ?_
      refine X_get (pc := 22) (a := 0) (ci := 10) (j := 11) (.int (I 0 8)) (sh_0 hT) (by decide) k_505 rfl dX11_press_22 ?_
      by_cases c8 : (I 0 8) = (0 : Int32)
      · replace hf := (if_pos c8).symm.trans hf
        refine X_if_eq_t (pc := 25) 36 dX11_press_25 (by decide) c8 ?_
        refine X_bipush (pc := 36) (-2 : Int32) dX11_press_36 (by decide) ?_
        cases hf
        exact X_ireturn (pc := 38) rfl dX11_press_38
      · replace hf := (if_neg c8).symm.trans hf
        refine X_if_eq_f (pc := 25) 36 dX11_press_25 (by decide) c8 ?_
        refine X_aload_n (pc := 28) (i := 3) 0 dX11_press_28 rfl rfl ?_
        refine X_iload_n (pc := 29) (i := 2) 3 dX11_press_29 rfl rfl ?_
        refine X_invV_i (pc := 30) (c_Cr_gives hT hs5 rfl) ok_Cr_gives (ci := 3) hs5 k_860 k_861 k_862 nd_5 (by decide) rfl (Nat.le_of_ble_eq_true rfl) dX11_press_30 ?_
        by_cases c9 : (f_Cr_gives w3 a1 I L) = (0 : Int32)
        · replace hf := (if_pos c9).symm.trans hf
          refine X_if_ne_f (pc := 33) 39 dX11_press_33 (by decide) c9 ?_
          refine X_bipush (pc := 36) (-2 : Int32) dX11_press_36 (by decide) ?_
          cases hf
          exact X_ireturn (pc := 38) rfl dX11_press_38
        · replace hf := (if_neg c9).symm.trans hf
          refine X_if_ne_t (pc := 33) 39 dX11_press_33 (by decide) c9 ?_
          refine X_aload_n (pc := 39) (i := 0) 1 dX11_press_39 rfl rfl ?_
          refine X_iconst (pc := 40) (3 : Int32) dX11_press_40 (by decide) ?_
          refine X_iload_n (pc := 41) (i := 1) 2 dX11_press_41 rfl rfl ?_
          refine X_iload_n (pc := 42) (i := 2) 3 dX11_press_42 rfl rfl ?_
          refine X_iconst (pc := 43) (0 : Int32) dX11_press_43 (by decide) ?_
          obtain ⟨q10, c11, hf⟩ := bd_some hf
          refine X_invV_i (pc := 44) (c_H_enter hT c11) ok_H_enter (ci := 10) (sh_0 hT) k_723 k_725 k_11 nd_17 (by decide) rfl (Nat.le_of_ble_eq_true rfl) dX11_press_44 ?_
          by_cases c12 : q10.1 = (0 : Int32)
          · replace hf := (if_pos c12).symm.trans hf
            refine X_if_eq_t (pc := 47) 58 dX11_press_47 (by decide) c12 ?_
            refine X_bipush (pc := 58) (-3 : Int32) dX11_press_58 (by decide) ?_
            cases hf
            exact X_ireturn (pc := 60) rfl dX11_press_60
          · replace hf := (if_neg c12).symm.trans hf
            refine X_if_eq_f (pc := 47) 58 dX11_press_47 (by decide) c12 ?_
            refine X_aload_n (pc := 50) (i := 3) 0 dX11_press_50 rfl rfl ?_
            refine X_iload_n (pc := 51) (i := 2) 3 dX11_press_51 rfl rfl ?_
            obtain ⟨q13, c14, hf⟩ := bd_some hf
            refine X_invV_i (pc := 52) (c_Cr_push hT hs5 c14) ok_Cr_push (ci := 3) hs5 k_864 k_865 k_866 nd_8 (by decide) rfl (Nat.le_of_ble_eq_true rfl) dX11_press_52 ?_
            refine X_goto (pc := 55) 60 dX11_press_55 (by decide) ?_
            cases hf
            exact X_ireturn (pc := 60) rfl dX11_press_60
theorem u_H_press {S : List xSh} {Rf : Nat → Nat → Option Nat} {a0 : Int32} {a1 : Int32} {I : Nat → Nat → Int32} {L : Nat → Nat → Int64} {q : (Int32 × (Nat → Nat → Int32) × (Nat → Nat → Int64))} (hf : f_H_press S Rf a0 a1 I L = some q) : FR S [16, 2503] [] I q.2.1 L q.2.2 := by
  replace hf := (f_H_press.eq_1 _ _ _ _ _ _).symm.trans hf
  obtain ⟨q1, c2, hf⟩ := bd_some hf
  rcases oc_cases hf with ⟨hr4, hf⟩ | ⟨w3, hr4, hf⟩
  · rw [hr4] at c2
    cases hf
    exact FR.rf
  · obtain ⟨hs5, hf⟩ := gd_some hf
    rw [hr4] at c2
    obtain ⟨x6, ex6, hf⟩ := bnd_e hf
    by_cases c7 : x6 = (0 : Int32)
    · replace hf := (if_pos c7).symm.trans hf
      cases hf
      exact FR.rf
    · replace hf := (if_neg c7).symm.trans hf
      by_cases c8 : (I 0 8) = (0 : Int32)
      · replace hf := (if_pos c8).symm.trans hf
        cases hf
        exact FR.rf
      · replace hf := (if_neg c8).symm.trans hf
        by_cases c9 : (f_Cr_gives w3 a1 I L) = (0 : Int32)
        · replace hf := (if_pos c9).symm.trans hf
          cases hf
          exact FR.rf
        · replace hf := (if_neg c9).symm.trans hf
          obtain ⟨q10, c11, hf⟩ := bd_some hf
          by_cases c12 : q10.1 = (0 : Int32)
          · replace hf := (if_pos c12).symm.trans hf
            cases hf
            exact (FR.tr FR.rf (u_H_enter (q := q10) c11) (by decide) (by decide))
          · replace hf := (if_neg c12).symm.trans hf
            obtain ⟨q13, c14, hf⟩ := bd_some hf
            cases hf
            exact (FR.tr (FR.tr FR.rf (u_H_enter (q := q10) c11) (by decide) (by decide)) (u_Cr_push hs5 (q := q13) c14) (by decide) (by decide))
theorem dX11_workAt_0 : decode cX11_workAt 0 = .ok (.iload_n 1, 1) := by decide +kernel
theorem dX11_workAt_1 : decode cX11_workAt 1 = .ok (.iconst 0, 1) := by decide +kernel
theorem dX11_workAt_2 : decode cX11_workAt 2 = .ok (.aload_n 0, 1) := by decide +kernel
theorem dX11_workAt_3 : decode cX11_workAt 3 = .ok (.getfield 137, 3) := by decide +kernel
theorem dX11_workAt_6 : decode cX11_workAt 6 = .ok (.iconst 1, 1) := by decide +kernel
theorem dX11_workAt_7 : decode cX11_workAt 7 = .ok (.isub, 1) := by decide +kernel
theorem dX11_workAt_8 : decode cX11_workAt 8 = .ok (.invokestatic 113, 3) := by decide +kernel
theorem dX11_workAt_11 : decode cX11_workAt 11 = .ok (.ifCond .eq 12, 3) := by decide +kernel
theorem dX11_workAt_14 : decode cX11_workAt 14 = .ok (.aload_n 0, 1) := by decide +kernel
theorem dX11_workAt_15 : decode cX11_workAt 15 = .ok (.getfield 23, 3) := by decide +kernel
theorem dX11_workAt_18 : decode cX11_workAt 18 = .ok (.iload_n 1, 1) := by decide +kernel
theorem dX11_workAt_19 : decode cX11_workAt 19 = .ok (.aaload, 1) := by decide +kernel
theorem dX11_workAt_20 : decode cX11_workAt 20 = .ok (.goto 4, 3) := by decide +kernel
theorem dX11_workAt_23 : decode cX11_workAt 23 = .ok (.aconst_null, 1) := by decide +kernel
theorem dX11_workAt_24 : decode cX11_workAt 24 = .ok (.areturn, 1) := by decide +kernel
def f_H_workAt (S : List xSh) (Rf : Nat → Nat → Option Nat) (a0 : Int32) (I : Nat → Nat → Int32) (L : Nat → Nat → Int64) : Option (Option Nat) := (bnd (f_H_isWithin a0 (0 : Int32) ((I 0 6) - (1 : Int32))) fun x1 => (if x1 = (0 : Int32) then (some none) else (if (0 ≤ a0 ∧ a0 < (8 : Int32)) then (oc (Rf 11 (a0.toNatClampNeg)) (some none) fun w4 => (some (some w4))) else none)))
set_option maxRecDepth 100000 in
set_option maxHeartbeats 4000000 in
theorem c_H_workAt {G : xG} {S : List xSh} {Rf : Nat → Nat → Option Nat} (hT : xTH S Rf) {a0 : Int32} {I : Nat → Nat → Int32} {L : Nat → Nat → Int64} {q : (Option Nat)} (hf : f_H_workAt S Rf a0 I L = some q) : CT G 2 m_H_workAt [.ref (xP G 0), .int a0] (S, I, L, Rf) (some (xr G q), (S, I, L, Rf)) := by
  refine CT.of (by decide +kernel) (Nat.le_of_ble_eq_true rfl) ?_
  show X G 2 m_H_workAt 0 [(0, .ref (xP G 0)), (1, .int a0)] [] (S, I, L, Rf) (some (xr G q), (S, I, L, Rf))
  replace hf := (f_H_workAt.eq_1 _ _ _ _ _).symm.trans hf
  refine X_iload_n (pc := 0) (i := 1) 1 dX11_workAt_0 rfl rfl ?_
  refine X_iconst (pc := 1) (0 : Int32) dX11_workAt_1 (by decide) ?_
  refine X_aload_n (pc := 2) (i := 0) 0 dX11_workAt_2 rfl rfl ?_
  refine X_get (pc := 3) (a := 0) (ci := 10) (j := 9) (.int (I 0 6)) (sh_0 hT) (by decide) k_503 rfl dX11_workAt_3 ?_
  refine X_iconst (pc := 6) (1 : Int32) dX11_workAt_6 (by decide) ?_
  refine X_isub (pc := 7) dX11_workAt_7 ?_
  refine X_invS_i (pc := 8) (c_H_isWithin hT rfl) ok_H_isWithin k_563 k_564 nd_6 (by decide) rfl (Nat.le_of_ble_eq_true rfl) dX11_workAt_8 ?_
  obtain ⟨x1, ex1, hf⟩ := bnd_e hf
  refine X_tope ex1 ?_
  by_cases c2 : x1 = (0 : Int32)
  · replace hf := (if_pos c2).symm.trans hf
    refine X_if_eq_t (pc := 11) 23 dX11_workAt_11 (by decide) c2 ?_
    refine X_null (pc := 23) dX11_workAt_23 ?_
    cases hf
    exact X_areturn (pc := 24) (r := none) rfl dX11_workAt_24
  · replace hf := (if_neg c2).symm.trans hf
    refine X_if_eq_f (pc := 11) 23 dX11_workAt_11 (by decide) c2 ?_
    refine X_aload_n (pc := 14) (i := 0) 0 dX11_workAt_14 rfl rfl ?_
    refine X_getr (pc := 15) (a := 0) (ci := 10) (j := 2) (c := 11) (sh_0 hT) (by decide) k_496 (rf_0_2 hT) (fun _ h => h) dX11_workAt_15 ?_
    refine X_iload_n (pc := 18) (i := 1) 1 dX11_workAt_18 rfl rfl ?_
    obtain ⟨c3, hf⟩ := gd_some hf
    rcases oc_cases hf with ⟨hr5, hf⟩ | ⟨w4, hr5, hf⟩
    · refine X_aaldN (pc := 19) (by decide) (sh_11 hT) (vp_in_lit (N := 8) c3 (by decide)) hr5 dX11_workAt_19 ?_
      refine X_goto (pc := 20) 24 dX11_workAt_20 (by decide) ?_
      cases hf
      exact X_areturn (pc := 24) (r := none) rfl dX11_workAt_24
    · refine X_aaldS (pc := 19) (by decide) (sh_11 hT) (vp_in_lit (N := 8) c3 (by decide)) hr5 dX11_workAt_19 ?_
      refine X_goto (pc := 20) 24 dX11_workAt_20 (by decide) ?_
      cases hf
      exact X_areturn (pc := 24) (r := (some w4)) rfl dX11_workAt_24

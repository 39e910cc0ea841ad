theorem dX0_countConflicts_0 : decode cX0_countConflicts 0 = .ok (.iconst 0, 1) := by decide +kernel
theorem dX0_countConflicts_1 : decode cX0_countConflicts 1 = .ok (.istore_n 2, 1) := by decide +kernel
theorem dX0_countConflicts_2 : decode cX0_countConflicts 2 = .ok (.iconst 0, 1) := by decide +kernel
theorem dX0_countConflicts_3 : decode cX0_countConflicts 3 = .ok (.istore_n 3, 1) := by decide +kernel
theorem dX0_countConflicts_4 : decode cX0_countConflicts 4 = .ok (.iload_n 3, 1) := by decide +kernel
theorem dX0_countConflicts_5 : decode cX0_countConflicts 5 = .ok (.bipush 32, 2) := by decide +kernel
theorem dX0_countConflicts_7 : decode cX0_countConflicts 7 = .ok (.if_icmp .ge 21, 3) := by decide +kernel
theorem dX0_countConflicts_10 : decode cX0_countConflicts 10 = .ok (.aload_n 0, 1) := by decide +kernel
theorem dX0_countConflicts_11 : decode cX0_countConflicts 11 = .ok (.iload_n 1, 1) := by decide +kernel
theorem dX0_countConflicts_12 : decode cX0_countConflicts 12 = .ok (.iload_n 3, 1) := by decide +kernel
theorem dX0_countConflicts_13 : decode cX0_countConflicts 13 = .ok (.invokevirtual 58, 3) := by decide +kernel
theorem dX0_countConflicts_16 : decode cX0_countConflicts 16 = .ok (.ifCond .eq 6, 3) := by decide +kernel
theorem dX0_countConflicts_19 : decode cX0_countConflicts 19 = .ok (.iinc 2 1, 3) := by decide +kernel
theorem dX0_countConflicts_22 : decode cX0_countConflicts 22 = .ok (.iinc 3 1, 3) := by decide +kernel
theorem dX0_countConflicts_25 : decode cX0_countConflicts 25 = .ok (.goto (-21), 3) := by decide +kernel
theorem dX0_countConflicts_28 : decode cX0_countConflicts 28 = .ok (.iload_n 2, 1) := by decide +kernel
theorem dX0_countConflicts_29 : decode cX0_countConflicts 29 = .ok (.ireturn, 1) := by decide +kernel
def f_Be_countConflicts_L4 : Nat → Int32 → Int32 → Int32 → (Nat → Nat → Int32) → (Nat → Nat → Int64) → Option Int32
  | 0, _, _, _, _, _ => none
  | n + 1, l1, l2, l3, I, L => (if (32 : Int32) ≤ l3 then (some l2) else ((f_Be_isConflict l1 l3 I L).bind fun q2 => (if q2 = (0 : Int32) then (f_Be_countConflicts_L4 n l1 l2 (l3 + (1 : Int32)) I L) else (f_Be_countConflicts_L4 n l1 (l2 + (1 : Int32)) (l3 + (1 : Int32)) I L))))
set_option maxRecDepth 100000 in
set_option maxHeartbeats 4000000 in
theorem x_Be_countConflicts_L4 {G : xG} {S : List xSh} {Rf : Nat → Nat → Option Nat} (hT : xTH S Rf) : ∀ (n : Nat) {l1 : Int32} {l2 : Int32} {l3 : Int32} {I : Nat → Nat → Int32} {L : Nat → Nat → Int64} {q : Int32}, f_Be_countConflicts_L4 n l1 l2 l3 I L = some q → X G 3 m_Be_countConflicts 4 [(0, .ref (xP G 29)), (1, .int l1), (2, .int l2), (3, .int l3)] [] (S, I, L, Rf) (some (.int q), (S, I, L, Rf)) := by
  intro n
  induction n with
  | zero =>
    intro l1 l2 l3 I L q hf
    exact absurd (show none = some q from hf) (by simp)
  | succ n ih =>
    intro l1 l2 l3 I L q hf
    replace hf := (f_Be_countConflicts_L4.eq_2 _ _ _ _ _ _).symm.trans hf
    refine X_iload_n (pc := 4) (i := 3) 3 dX0_countConflicts_4 rfl rfl ?_
    refine X_bipush (pc := 5) (32 : Int32) dX0_countConflicts_5 (by decide) ?_
    by_cases c1 : (32 : Int32) ≤ l3
    · replace hf := (if_pos c1).symm.trans hf
      refine X_icmp_ge_t (pc := 7) 28 dX0_countConflicts_7 (by decide) c1 ?_
      refine X_iload_n (pc := 28) (i := 2) 2 dX0_countConflicts_28 rfl rfl ?_
      cases hf
      exact X_ireturn (pc := 29) rfl dX0_countConflicts_29
    · replace hf := (if_neg c1).symm.trans hf
      refine X_icmp_ge_f (pc := 7) 28 dX0_countConflicts_7 (by decide) c1 ?_
      refine X_aload_n (pc := 10) (i := 0) 0 dX0_countConflicts_10 rfl rfl ?_
      refine X_iload_n (pc := 11) (i := 1) 1 dX0_countConflicts_11 rfl rfl ?_
      refine X_iload_n (pc := 12) (i := 3) 3 dX0_countConflicts_12 rfl rfl ?_
      obtain ⟨q2, c3, hf⟩ := bd_some hf
      refine X_invV_i (pc := 13) (c_Be_isConflict hT c3) ok_Be_isConflict (ci := 0) (sh_29 hT) k_1148 k_1149 k_1150 nd_25 (by decide) rfl (Nat.le_of_ble_eq_true rfl) dX0_countConflicts_13 ?_
      by_cases c4 : q2 = (0 : Int32)
      · replace hf := (if_pos c4).symm.trans hf
        refine X_if_eq_t (pc := 16) 22 dX0_countConflicts_16 (by decide) c4 ?_
        refine X_iinc (pc := 22) (i := 3) (q := 3) (v := (l3 + (1 : Int32))) [(3, .int (l3 + (1 : Int32))), (0, .ref (xP G 29)), (1, .int l1), (2, .int l2)] dX0_countConflicts_22 rfl rfl (by decide) rfl ?_
        refine X_goto (pc := 25) 4 dX0_countConflicts_25 (by decide) ?_
        exact X_lvs [1, 2, 3, 0] rfl (ih hf)
      · replace hf := (if_neg c4).symm.trans hf
        refine X_if_eq_f (pc := 16) 22 dX0_countConflicts_16 (by decide) c4 ?_
        refine X_iinc (pc := 19) (i := 2) (q := 2) (v := (l2 + (1 : Int32))) [(2, .int (l2 + (1 : Int32))), (0, .ref (xP G 29)), (1, .int l1), (3, .int l3)] dX0_countConflicts_19 rfl rfl (by decide) rfl ?_
        refine X_iinc (pc := 22) (i := 3) (q := 3) (v := (l3 + (1 : Int32))) [(3, .int (l3 + (1 : Int32))), (2, .int (l2 + (1 : Int32))), (0, .ref (xP G 29)), (1, .int l1)] dX0_countConflicts_22 rfl rfl (by decide) rfl ?_
        refine X_goto (pc := 25) 4 dX0_countConflicts_25 (by decide) ?_
        exact X_lvs [2, 3, 1, 0] rfl (ih hf)
def f_Be_countConflicts (a0 : Int32) (I : Nat → Nat → Int32) (L : Nat → Nat → Int64) : Option Int32 := (f_Be_countConflicts_L4 xF a0 (0 : Int32) (0 : Int32) I L)
set_option maxRecDepth 100000 in
set_option maxHeartbeats 4000000 in
theorem c_Be_countConflicts {G : xG} {S : List xSh} {Rf : Nat → Nat → Option Nat} (hT : xTH S Rf) {a0 : Int32} {I : Nat → Nat → Int32} {L : Nat → Nat → Int64} {q : Int32} (hf : f_Be_countConflicts a0 I L = some q) : CT G 3 m_Be_countConflicts [.ref (xP G 29), .int a0] (S, I, L, Rf) (some (.int q), (S, I, L, Rf)) := by
  refine CT.of (by decide +kernel) (Nat.le_of_ble_eq_true rfl) ?_
  show X G 3 m_Be_countConflicts 0 [(0, .ref (xP G 29)), (1, .int a0)] [] (S, I, L, Rf) (some (.int q), (S, I, L, Rf))
  replace hf := (f_Be_countConflicts.eq_1 _ _ _).symm.trans hf
  refine X_iconst (pc := 0) (0 : Int32) dX0_countConflicts_0 (by decide) ?_
  refine X_istore_n (pc := 1) (i := 2) [(2, .int (0 : Int32)), (0, .ref (xP G 29)), (1, .int a0)] dX0_countConflicts_1 rfl (by decide) rfl ?_
  refine X_iconst (pc := 2) (0 : Int32) dX0_countConflicts_2 (by decide) ?_
  refine X_istore_n (pc := 3) (i := 3) [(3, .int (0 : Int32)), (2, .int (0 : Int32)), (0, .ref (xP G 29)), (1, .int a0)] dX0_countConflicts_3 rfl (by decide) rfl ?_
  exact X_lvs [2, 3, 1, 0] rfl (x_Be_countConflicts_L4 hT xF hf)
theorem dX0_keepsOwn_0 : decode cX0_keepsOwn 0 = .ok (.iconst 0, 1) := by decide +kernel
theorem dX0_keepsOwn_1 : decode cX0_keepsOwn 1 = .ok (.istore_n 2, 1) := by decide +kernel
theorem dX0_keepsOwn_2 : decode cX0_keepsOwn 2 = .ok (.iload_n 2, 1) := by decide +kernel
theorem dX0_keepsOwn_3 : decode cX0_keepsOwn 3 = .ok (.bipush 32, 2) := by decide +kernel
theorem dX0_keepsOwn_5 : decode cX0_keepsOwn 5 = .ok (.if_icmp .ge 46, 3) := by decide +kernel
theorem dX0_keepsOwn_8 : decode cX0_keepsOwn 8 = .ok (.aload_n 0, 1) := by decide +kernel
theorem dX0_keepsOwn_9 : decode cX0_keepsOwn 9 = .ok (.iload_n 1, 1) := by decide +kernel
theorem dX0_keepsOwn_10 : decode cX0_keepsOwn 10 = .ok (.iload_n 2, 1) := by decide +kernel
theorem dX0_keepsOwn_11 : decode cX0_keepsOwn 11 = .ok (.invokevirtual 33, 3) := by decide +kernel
theorem dX0_keepsOwn_14 : decode cX0_keepsOwn 14 = .ok (.istore_n 3, 1) := by decide +kernel
theorem dX0_keepsOwn_15 : decode cX0_keepsOwn 15 = .ok (.iload_n 3, 1) := by decide +kernel
theorem dX0_keepsOwn_16 : decode cX0_keepsOwn 16 = .ok (.aload_n 0, 1) := by decide +kernel
theorem dX0_keepsOwn_17 : decode cX0_keepsOwn 17 = .ok (.aload_n 0, 1) := by decide +kernel
theorem dX0_keepsOwn_18 : decode cX0_keepsOwn 18 = .ok (.getfield 11, 3) := by decide +kernel
theorem dX0_keepsOwn_21 : decode cX0_keepsOwn 21 = .ok (.iload_n 1, 1) := by decide +kernel
theorem dX0_keepsOwn_22 : decode cX0_keepsOwn 22 = .ok (.iaload, 1) := by decide +kernel
theorem dX0_keepsOwn_23 : decode cX0_keepsOwn 23 = .ok (.iload_n 2, 1) := by decide +kernel
theorem dX0_keepsOwn_24 : decode cX0_keepsOwn 24 = .ok (.invokevirtual 29, 3) := by decide +kernel
theorem dX0_keepsOwn_27 : decode cX0_keepsOwn 27 = .ok (.if_icmp .eq 18, 3) := by decide +kernel
theorem dX0_keepsOwn_30 : decode cX0_keepsOwn 30 = .ok (.iload_n 3, 1) := by decide +kernel
theorem dX0_keepsOwn_31 : decode cX0_keepsOwn 31 = .ok (.aload_n 0, 1) := by decide +kernel
theorem dX0_keepsOwn_32 : decode cX0_keepsOwn 32 = .ok (.aload_n 0, 1) := by decide +kernel
theorem dX0_keepsOwn_33 : decode cX0_keepsOwn 33 = .ok (.getfield 36, 3) := by decide +kernel
theorem dX0_keepsOwn_36 : decode cX0_keepsOwn 36 = .ok (.iload_n 2, 1) := by decide +kernel
theorem dX0_keepsOwn_37 : decode cX0_keepsOwn 37 = .ok (.invokevirtual 29, 3) := by decide +kernel
theorem dX0_keepsOwn_40 : decode cX0_keepsOwn 40 = .ok (.if_icmp .eq 5, 3) := by decide +kernel
theorem dX0_keepsOwn_43 : decode cX0_keepsOwn 43 = .ok (.iconst 1, 1) := by decide +kernel
theorem dX0_keepsOwn_44 : decode cX0_keepsOwn 44 = .ok (.ireturn, 1) := by decide +kernel
theorem dX0_keepsOwn_45 : decode cX0_keepsOwn 45 = .ok (.iinc 2 1, 3) := by decide +kernel
theorem dX0_keepsOwn_48 : decode cX0_keepsOwn 48 = .ok (.goto (-46), 3) := by decide +kernel
theorem dX0_keepsOwn_51 : decode cX0_keepsOwn 51 = .ok (.iconst 0, 1) := by decide +kernel
theorem dX0_keepsOwn_52 : decode cX0_keepsOwn 52 = .ok (.ireturn, 1) := by decide +kernel
def f_Be_keepsOwn_L2 : Nat → Int32 → Int32 → (Nat → Nat → Int32) → (Nat → Nat → Int64) → Option Int32
  | 0, _, _, _, _ => none
  | n + 1, l1, l2, I, L => (if (32 : Int32) ≤ l2 then (some (0 : Int32)) else ((f_Be_ofCopy l1 l2 I L).bind fun q2 => (if (0 ≤ l1 ∧ l1 < (4 : Int32)) then ((f_Be_ofVersion (I 30 (l1.toNatClampNeg)) l2 I L).bind fun q5 => (if q2 = q5 then (f_Be_keepsOwn_L2 n l1 (l2 + (1 : Int32)) I L) else ((f_Be_ofVersion (I 29 0) l2 I L).bind fun q8 => (if q2 = q8 then (f_Be_keepsOwn_L2 n l1 (l2 + (1 : Int32)) I L) else (some (1 : Int32)))))) else none)))
set_option maxRecDepth 100000 in
set_option maxHeartbeats 4000000 in
theorem x_Be_keepsOwn_L2 {G : xG} {S : List xSh} {Rf : Nat → Nat → Option Nat} (hT : xTH S Rf) : ∀ (n : Nat) {l1 : Int32} {l2 : Int32} {I : Nat → Nat → Int32} {L : Nat → Nat → Int64} {q : Int32}, f_Be_keepsOwn_L2 n l1 l2 I L = some q → X G 2 m_Be_keepsOwn 2 [(0, .ref (xP G 29)), (1, .int l1), (2, .int l2)] [] (S, I, L, Rf) (some (.int q), (S, I, L, Rf)) := by
  intro n
  induction n with
  | zero =>
    intro l1 l2 I L q hf
    exact absurd (show none = some q from hf) (by simp)
  | succ n ih =>
    intro l1 l2 I L q hf
    replace hf := (f_Be_keepsOwn_L2.eq_2 _ _ _ _ _).symm.trans hf
    refine X_iload_n (pc := 2) (i := 2) 2 dX0_keepsOwn_2 rfl rfl ?_
    refine X_bipush (pc := 3) (32 : Int32) dX0_keepsOwn_3 (by decide) ?_
    by_cases c1 : (32 : Int32) ≤ l2
    · replace hf := (if_pos c1).symm.trans hf
      refine X_icmp_ge_t (pc := 5) 51 dX0_keepsOwn_5 (by decide) c1 ?_
      refine X_iconst (pc := 51) (0 : Int32) dX0_keepsOwn_51 (by decide) ?_
      cases hf
      exact X_zreturn (pc := 52) rfl (nar_b (by decide)) dX0_keepsOwn_52
    · replace hf := (if_neg c1).symm.trans hf
      refine X_icmp_ge_f (pc := 5) 51 dX0_keepsOwn_5 (by decide) c1 ?_
      refine X_aload_n (pc := 8) (i := 0) 0 dX0_keepsOwn_8 rfl rfl ?_
      refine X_iload_n (pc := 9) (i := 1) 1 dX0_keepsOwn_9 rfl rfl ?_
      refine X_iload_n (pc := 10) (i := 2) 2 dX0_keepsOwn_10 rfl rfl ?_
      obtain ⟨q2, c3, hf⟩ := bd_some hf
      refine X_invV_i (pc := 11) (c_Be_ofCopy hT c3) ok_Be_ofCopy (ci := 0) (sh_29 hT) k_1156 k_1157 k_1158 nd_21 (by decide) rfl (Nat.le_of_ble_eq_true rfl) dX0_keepsOwn_11 ?_
      refine X_istore_n (pc := 14) (i := 3) [(3, .int q2), (0, .ref (xP G 29)), (1, .int l1), (2, .int l2)] dX0_keepsOwn_14 rfl (by decide) rfl ?_
      refine X_iload_n (pc := 15) (i := 3) 0 dX0_keepsOwn_15 rfl rfl ?_
      refine X_aload_n (pc := 16) (i := 0) 1 dX0_keepsOwn_16 rfl rfl ?_
      refine X_aload_n (pc := 17) (i := 0) 1 dX0_keepsOwn_17 rfl rfl ?_
      refine X_getr (pc := 18) (a := 29) (ci := 0) (j := 1) (c := 30) (sh_29 hT) (by decide) k_336 (rf_29_1 hT) (fun _ h => h) dX0_keepsOwn_18 ?_
      refine X_iload_n (pc := 21) (i := 1) 2 dX0_keepsOwn_21 rfl rfl ?_
      obtain ⟨c4, hf⟩ := gd_some hf
      refine X_ialdj (pc := 22) (j := l1.toNatClampNeg) (I 30 (l1.toNatClampNeg)) (sh_30 hT) (vp_in_lit (N := 4) c4 (by decide)) rfl rfl dX0_keepsOwn_22 ?_
      refine X_iload_n (pc := 23) (i := 2) 3 dX0_keepsOwn_23 rfl rfl ?_
      obtain ⟨q5, c6, hf⟩ := bd_some hf
      refine X_invV_i (pc := 24) (c_Be_ofVersion hT c6) ok_Be_ofVersion (ci := 0) (sh_29 hT) k_1152 k_1153 k_1154 nd_21 (by decide) rfl (Nat.le_of_ble_eq_true rfl) dX0_keepsOwn_24 ?_
      by_cases c7 : q2 = q5
      · replace hf := (if_pos c7).symm.trans hf
        refine X_icmp_eq_t (pc := 27) 45 dX0_keepsOwn_27 (by decide) c7 ?_
        refine X_iinc (pc := 45) (i := 2) (q := 3) (v := (l2 + (1 : Int32))) [(2, .int (l2 + (1 : Int32))), (3, .int q2), (0, .ref (xP G 29)), (1, .int l1)] dX0_keepsOwn_45 rfl rfl (by decide) rfl ?_
        refine X_goto (pc := 48) 2 dX0_keepsOwn_48 (by decide) ?_
        exact X_lvs [2, 3, 0] rfl (ih hf)
      · replace hf := (if_neg c7).symm.trans hf
        refine X_icmp_eq_f (pc := 27) 45 dX0_keepsOwn_27 (by decide) c7 ?_
        refine X_iload_n (pc := 30) (i := 3) 0 dX0_keepsOwn_30 rfl rfl ?_
        refine X_aload_n (pc := 31) (i := 0) 1 dX0_keepsOwn_31 rfl rfl ?_
        refine X_aload_n (pc := 32) (i := 0) 1 dX0_keepsOwn_32 rfl rfl ?_
        refine X_get (pc := 33) (a := 29) (ci := 0) (j := 0) (.int (I 29 0)) (sh_29 hT) (by decide) k_334 rfl dX0_keepsOwn_33 ?_
        refine X_iload_n (pc := 36) (i := 2) 3 dX0_keepsOwn_36 rfl rfl ?_
        obtain ⟨q8, c9, hf⟩ := bd_some hf
        refine X_invV_i (pc := 37) (c_Be_ofVersion hT c9) ok_Be_ofVersion (ci := 0) (sh_29 hT) k_1152 k_1153 k_1154 nd_21 (by decide) rfl (Nat.le_of_ble_eq_true rfl) dX0_keepsOwn_37 ?_
        by_cases c10 : q2 = q8
        · replace hf := (if_pos c10).symm.trans hf
          refine X_icmp_eq_t (pc := 40) 45 dX0_keepsOwn_40 (by decide) c10 ?_
          refine X_iinc (pc := 45) (i := 2) (q := 3) (v := (l2 + (1 : Int32))) [(2, .int (l2 + (1 : Int32))), (3, .int q2), (0, .ref (xP G 29)), (1, .int l1)] dX0_keepsOwn_45 rfl rfl (by decide) rfl ?_
          refine X_goto (pc := 48) 2 dX0_keepsOwn_48 (by decide) ?_
          exact X_lvs [2, 3, 0] rfl (ih hf)
        · replace hf := (if_neg c10).symm.trans hf
          refine X_icmp_eq_f (pc := 40) 45 dX0_keepsOwn_40 (by decide) c10 ?_
          refine X_iconst (pc := 43) (1 : Int32) dX0_keepsOwn_43 (by decide) ?_
          cases hf
          exact X_zreturn (pc := 44) rfl (nar_b (by decide)) dX0_keepsOwn_44
def f_Be_keepsOwn (a0 : Int32) (I : Nat → Nat → Int32) (L : Nat → Nat → Int64) : Option Int32 := (f_Be_keepsOwn_L2 xF a0 (0 : Int32) I L)
set_option maxRecDepth 100000 in
set_option maxHeartbeats 4000000 in
theorem c_Be_keepsOwn {G : xG} {S : List xSh} {Rf : Nat → Nat → Option Nat} (hT : xTH S Rf) {a0 : Int32} {I : Nat → Nat → Int32} {L : Nat → Nat → Int64} {q : Int32} (hf : f_Be_keepsOwn a0 I L = some q) : CT G 2 m_Be_keepsOwn [.ref (xP G 29), .int a0] (S, I, L, Rf) (some (.int q), (S, I, L, Rf)) := by
  refine CT.of (by decide +kernel) (Nat.le_of_ble_eq_true rfl) ?_
  show X G 2 m_Be_keepsOwn 0 [(0, .ref (xP G 29)), (1, .int a0)] [] (S, I, L, Rf) (some (.int q), (S, I, L, Rf))
  replace hf := (f_Be_keepsOwn.eq_1 _ _ _).symm.trans hf
  refine X_iconst (pc := 0) (0 : Int32) dX0_keepsOwn_0 (by decide) ?_
  refine X_istore_n (pc := 1) (i := 2) [(2, .int (0 : Int32)), (0, .ref (xP G 29)), (1, .int a0)] dX0_keepsOwn_1 rfl (by decide) rfl ?_
  exact X_lvs [1, 2, 0] rfl (x_Be_keepsOwn_L2 hT xF hf)
theorem dX0_takeOthers_0 : decode cX0_takeOthers 0 = .ok (.iconst 0, 1) := by decide +kernel
theorem dX0_takeOthers_1 : decode cX0_takeOthers 1 = .ok (.istore_n 2, 1) := by decide +kernel
theorem dX0_takeOthers_2 : decode cX0_takeOthers 2 = .ok (.iload_n 2, 1) := by decide +kernel
theorem dX0_takeOthers_3 : decode cX0_takeOthers 3 = .ok (.bipush 32, 2) := by decide +kernel
theorem dX0_takeOthers_5 : decode cX0_takeOthers 5 = .ok (.if_icmp .ge 61, 3) := by decide +kernel
theorem dX0_takeOthers_8 : decode cX0_takeOthers 8 = .ok (.aload_n 0, 1) := by decide +kernel
theorem dX0_takeOthers_9 : decode cX0_takeOthers 9 = .ok (.iload_n 1, 1) := by decide +kernel
theorem dX0_takeOthers_10 : decode cX0_takeOthers 10 = .ok (.iload_n 2, 1) := by decide +kernel
theorem dX0_takeOthers_11 : decode cX0_takeOthers 11 = .ok (.invokevirtual 33, 3) := by decide +kernel
theorem dX0_takeOthers_14 : decode cX0_takeOthers 14 = .ok (.aload_n 0, 1) := by decide +kernel
theorem dX0_takeOthers_15 : decode cX0_takeOthers 15 = .ok (.aload_n 0, 1) := by decide +kernel
theorem dX0_takeOthers_16 : decode cX0_takeOthers 16 = .ok (.getfield 11, 3) := by decide +kernel
theorem dX0_takeOthers_19 : decode cX0_takeOthers 19 = .ok (.iload_n 1, 1) := by decide +kernel
theorem dX0_takeOthers_20 : decode cX0_takeOthers 20 = .ok (.iaload, 1) := by decide +kernel
theorem dX0_takeOthers_21 : decode cX0_takeOthers 21 = .ok (.iload_n 2, 1) := by decide +kernel
theorem dX0_takeOthers_22 : decode cX0_takeOthers 22 = .ok (.invokevirtual 29, 3) := by decide +kernel
theorem dX0_takeOthers_25 : decode cX0_takeOthers 25 = .ok (.if_icmp .ne 23, 3) := by decide +kernel
theorem dX0_takeOthers_28 : decode cX0_takeOthers 28 = .ok (.aload_n 0, 1) := by decide +kernel
theorem dX0_takeOthers_29 : decode cX0_takeOthers 29 = .ok (.getfield 18, 3) := by decide +kernel
theorem dX0_takeOthers_32 : decode cX0_takeOthers 32 = .ok (.iload_n 1, 1) := by decide +kernel
theorem dX0_takeOthers_33 : decode cX0_takeOthers 33 = .ok (.bipush 32, 2) := by decide +kernel
theorem dX0_takeOthers_35 : decode cX0_takeOthers 35 = .ok (.imul, 1) := by decide +kernel
theorem dX0_takeOthers_36 : decode cX0_takeOthers 36 = .ok (.iload_n 2, 1) := by decide +kernel
theorem dX0_takeOthers_37 : decode cX0_takeOthers 37 = .ok (.iadd, 1) := by decide +kernel
theorem dX0_takeOthers_38 : decode cX0_takeOthers 38 = .ok (.aload_n 0, 1) := by decide +kernel
theorem dX0_takeOthers_39 : decode cX0_takeOthers 39 = .ok (.aload_n 0, 1) := by decide +kernel
theorem dX0_takeOthers_40 : decode cX0_takeOthers 40 = .ok (.getfield 36, 3) := by decide +kernel
theorem dX0_takeOthers_43 : decode cX0_takeOthers 43 = .ok (.iload_n 2, 1) := by decide +kernel
theorem dX0_takeOthers_44 : decode cX0_takeOthers 44 = .ok (.invokevirtual 29, 3) := by decide +kernel
theorem dX0_takeOthers_47 : decode cX0_takeOthers 47 = .ok (.iastore, 1) := by decide +kernel
theorem dX0_takeOthers_48 : decode cX0_takeOthers 48 = .ok (.aload_n 0, 1) := by decide +kernel
theorem dX0_takeOthers_49 : decode cX0_takeOthers 49 = .ok (.getfield 21, 3) := by decide +kernel
theorem dX0_takeOthers_52 : decode cX0_takeOthers 52 = .ok (.iload_n 1, 1) := by decide +kernel
theorem dX0_takeOthers_53 : decode cX0_takeOthers 53 = .ok (.bipush 32, 2) := by decide +kernel
theorem dX0_takeOthers_55 : decode cX0_takeOthers 55 = .ok (.imul, 1) := by decide +kernel
theorem dX0_takeOthers_56 : decode cX0_takeOthers 56 = .ok (.iload_n 2, 1) := by decide +kernel
theorem dX0_takeOthers_57 : decode cX0_takeOthers 57 = .ok (.iadd, 1) := by decide +kernel
theorem dX0_takeOthers_58 : decode cX0_takeOthers 58 = .ok (.iconst 0, 1) := by decide +kernel
theorem dX0_takeOthers_59 : decode cX0_takeOthers 59 = .ok (.bastore, 1) := by decide +kernel
theorem dX0_takeOthers_60 : decode cX0_takeOthers 60 = .ok (.iinc 2 1, 3) := by decide +kernel
theorem dX0_takeOthers_63 : decode cX0_takeOthers 63 = .ok (.goto (-61), 3) := by decide +kernel
theorem dX0_takeOthers_66 : decode cX0_takeOthers 66 = .ok (.return_, 1) := by decide +kernel
def f_Be_takeOthers_L2 : Nat → Int32 → Int32 → (Nat → Nat → Int32) → (Nat → Nat → Int64) → Option ((Nat → Nat → Int32) × (Nat → Nat → Int64))
  | 0, _, _, _, _ => none
  | n + 1, l1, l2, I, L => (if (32 : Int32) ≤ l2 then (some (I, L)) else ((f_Be_ofCopy l1 l2 I L).bind fun q2 => (if (0 ≤ l1 ∧ l1 < (4 : Int32)) then ((f_Be_ofVersion (I 30 (l1.toNatClampNeg)) l2 I L).bind fun q5 => (if q2 = q5 then ((f_Be_ofVersion (I 29 0) l2 I L).bind fun q8 => (if (0 ≤ ((l1 * (32 : Int32)) + l2) ∧ ((l1 * (32 : Int32)) + l2) < (128 : Int32)) then (if (0 ≤ ((l1 * (32 : Int32)) + l2) ∧ ((l1 * (32 : Int32)) + l2) < (128 : Int32)) then (f_Be_takeOthers_L2 n l1 (l2 + (1 : Int32)) (uI (uI I 32 (((l1 * (32 : Int32)) + l2).toNatClampNeg) q8) 33 (((l1 * (32 : Int32)) + l2).toNatClampNeg) (0 : Int32)) L) else none) else none)) else (if (0 ≤ ((l1 * (32 : Int32)) + l2) ∧ ((l1 * (32 : Int32)) + l2) < (128 : Int32)) then (f_Be_takeOthers_L2 n l1 (l2 + (1 : Int32)) (uI I 33 (((l1 * (32 : Int32)) + l2).toNatClampNeg) (0 : Int32)) L) else none))) else none)))
set_option maxRecDepth 100000 in
set_option maxHeartbeats 4000000 in
theorem x_Be_takeOthers_L2 {G : xG} {S : List xSh} {Rf : Nat → Nat → Option Nat} (hT : xTH S Rf) : ∀ (n : Nat) {l1 : Int32} {l2 : Int32} {I : Nat → Nat → Int32} {L : Nat → Nat → Int64} {q : ((Nat → Nat → Int32) × (Nat → Nat → Int64))}, f_Be_takeOthers_L2 n l1 l2 I L = some q → X G 2 m_Be_takeOthers 2 [(0, .ref (xP G 29)), (1, .int l1), (2, .int l2)] [] (S, I, L, Rf) (none, (S, q.1, q.2, Rf)) := by
  intro n
  induction n with
  | zero =>
    intro l1 l2 I L q hf
    exact absurd (show none = some q from hf) (by simp)
  | succ n ih =>
    intro l1 l2 I L q hf
    replace hf := (f_Be_takeOthers_L2.eq_2 _ _ _ _ _).symm.trans hf
    refine X_iload_n (pc := 2) (i := 2) 2 dX0_takeOthers_2 rfl rfl ?_
    refine X_bipush (pc := 3) (32 : Int32) dX0_takeOthers_3 (by decide) ?_
    by_cases c1 : (32 : Int32) ≤ l2
    · replace hf := (if_pos c1).symm.trans hf
      refine X_icmp_ge_t (pc := 5) 66 dX0_takeOthers_5 (by decide) c1 ?_
      cases hf
      exact X_return (pc := 66) rfl dX0_takeOthers_66
    · replace hf := (if_neg c1).symm.trans hf
      refine X_icmp_ge_f (pc := 5) 66 dX0_takeOthers_5 (by decide) c1 ?_
      refine X_aload_n (pc := 8) (i := 0) 0 dX0_takeOthers_8 rfl rfl ?_
      refine X_iload_n (pc := 9) (i := 1) 1 dX0_takeOthers_9 rfl rfl ?_
      refine X_iload_n (pc := 10) (i := 2) 2 dX0_takeOthers_10 rfl rfl ?_
      obtain ⟨q2, c3, hf⟩ := bd_some hf
      refine X_invV_i (pc := 11) (c_Be_ofCopy hT c3) ok_Be_ofCopy (ci := 0) (sh_29 hT) k_1156 k_1157 k_1158 nd_21 (by decide) rfl (Nat.le_of_ble_eq_true rfl) dX0_takeOthers_11 ?_
      refine X_aload_n (pc := 14) (i := 0) 0 dX0_takeOthers_14 rfl rfl ?_
      refine X_aload_n (pc := 15) (i := 0) 0 dX0_takeOthers_15 rfl rfl ?_
      refine X_getr (pc := 16) (a := 29) (ci := 0) (j := 1) (c := 30) (sh_29 hT) (by decide) k_336 (rf_29_1 hT) (fun _ h => h) dX0_takeOthers_16 ?_
      refine X_iload_n (pc := 19) (i := 1) 1 dX0_takeOthers_19 rfl rfl ?_
      obtain ⟨c4, hf⟩ := gd_some hf
      refine X_ialdj (pc := 20) (j := l1.toNatClampNeg) (I 30 (l1.toNatClampNeg)) (sh_30 hT) (vp_in_lit (N := 4) c4 (by decide)) rfl rfl dX0_takeOthers_20 ?_
      refine X_iload_n (pc := 21) (i := 2) 2 dX0_takeOthers_21 rfl rfl ?_
      obtain ⟨q5, c6, hf⟩ := bd_some hf
      refine X_invV_i (pc := 22) (c_Be_ofVersion hT c6) ok_Be_ofVersion (ci := 0) (sh_29 hT) k_1152 k_1153 k_1154 nd_21 (by decide) rfl (Nat.le_of_ble_eq_true rfl) dX0_takeOthers_22 ?_
      by_cases c7 : q2 = q5
      · replace hf := (if_pos c7).symm.trans hf
        refine X_icmp_ne_f (pc := 25) 48 dX0_takeOthers_25 (by decide) c7 ?_
        refine X_aload_n (pc := 28) (i := 0) 0 dX0_takeOthers_28 rfl rfl ?_
        refine X_getr (pc := 29) (a := 29) (ci := 0) (j := 3) (c := 32) (sh_29 hT) (by decide) k_339 (rf_29_3 hT) (fun _ h => h) dX0_takeOthers_29 ?_
        refine X_iload_n (pc := 32) (i := 1) 1 dX0_takeOthers_32 rfl rfl ?_
        refine X_bipush (pc := 33) (32 : Int32) dX0_takeOthers_33 (by decide) ?_
        refine X_imul (pc := 35) dX0_takeOthers_35 ?_
        refine X_iload_n (pc := 36) (i := 2) 2 dX0_takeOthers_36 rfl rfl ?_
        refine X_iadd (pc := 37) dX0_takeOthers_37 ?_
        refine X_aload_n (pc := 38) (i := 0) 0 dX0_takeOthers_38 rfl rfl ?_
        refine X_aload_n (pc := 39) (i := 0) 0 dX0_takeOthers_39 rfl rfl ?_
        refine X_get (pc := 40) (a := 29) (ci := 0) (j := 0) (.int (I 29 0)) (sh_29 hT) (by decide) k_334 rfl dX0_takeOthers_40 ?_
        refine X_iload_n (pc := 43) (i := 2) 2 dX0_takeOthers_43 rfl rfl ?_
        obtain ⟨q8, c9, hf⟩ := bd_some hf
        refine X_invV_i (pc := 44) (c_Be_ofVersion hT c9) ok_Be_ofVersion (ci := 0) (sh_29 hT) k_1152 k_1153 k_1154 nd_21 (by decide) rfl (Nat.le_of_ble_eq_true rfl) dX0_takeOthers_44 ?_
        obtain ⟨c10, hf⟩ := gd_some hf
        refine X_iastj (pc := 47) (j := (((l1 * (32 : Int32)) + l2).toNatClampNeg)) (sh_32 hT) (vp_in_lit (N := 128) c10 (by decide)) rfl dX0_takeOthers_47 ?_
        refine X_aload_n (pc := 48) (i := 0) 0 dX0_takeOthers_48 rfl rfl ?_
        refine X_getr (pc := 49) (a := 29) (ci := 0) (j := 4) (c := 33) (sh_29 hT) (by decide) k_340 (rf_29_4 hT) (fun _ h => h) dX0_takeOthers_49 ?_
        refine X_iload_n (pc := 52) (i := 1) 1 dX0_takeOthers_52 rfl rfl ?_
        refine X_bipush (pc := 53) (32 : Int32) dX0_takeOthers_53 (by decide) ?_
        refine X_imul (pc := 55) dX0_takeOthers_55 ?_
        refine X_iload_n (pc := 56) (i := 2) 2 dX0_takeOthers_56 rfl rfl ?_
        refine X_iadd (pc := 57) dX0_takeOthers_57 ?_
        refine X_iconst (pc := 58) (0 : Int32) dX0_takeOthers_58 (by decide) ?_
        obtain ⟨c11, hf⟩ := gd_some hf
        refine X_zastj (pc := 59) (j := (((l1 * (32 : Int32)) + l2).toNatClampNeg)) (by decide) (sh_33 hT) (vp_in_lit (N := 128) c11 (by decide)) rfl dX0_takeOthers_59 ?_
        refine X_iinc (pc := 60) (i := 2) (q := 2) (v := (l2 + (1 : Int32))) [(2, .int (l2 + (1 : Int32))), (0, .ref (xP G 29)), (1, .int l1)] dX0_takeOthers_60 rfl rfl (by decide) rfl ?_
        refine X_goto (pc := 63) 2 dX0_takeOthers_63 (by decide) ?_
        exact X_lvs [1, 2, 0] rfl (ih hf)
      · replace hf := (if_neg c7).symm.trans hf
        refine X_icmp_ne_t (pc := 25) 48 dX0_takeOthers_25 (by decide) c7 ?_
        refine X_aload_n (pc := 48) (i := 0) 0 dX0_takeOthers_48 rfl rfl ?_
        refine X_getr (pc := 49) (a := 29) (ci := 0) (j := 4) (c := 33) (sh_29 hT) (by decide) k_340 (rf_29_4 hT) (fun _ h => h) dX0_takeOthers_49 ?_
        refine X_iload_n (pc := 52) (i := 1) 1 dX0_takeOthers_52 rfl rfl ?_
        refine X_bipush (pc := 53) (32 : Int32) dX0_takeOthers_53 (by decide) ?_
        refine X_imul (pc := 55) dX0_takeOthers_55 ?_
        refine X_iload_n (pc := 56) (i := 2) 2 dX0_takeOthers_56 rfl rfl ?_
        refine X_iadd (pc := 57) dX0_takeOthers_57 ?_
        refine X_iconst (pc := 58) (0 : Int32) dX0_takeOthers_58 (by decide) ?_
        obtain ⟨c12, hf⟩ := gd_some hf
        refine X_zastj (pc := 59) (j := (((l1 * (32 : Int32)) + l2).toNatClampNeg)) (by decide) (sh_33 hT) (vp_in_lit (N := 128) c12 (by decide)) rfl dX0_takeOthers_59 ?_
        refine X_iinc (pc := 60) (i := 2) (q := 2) (v := (l2 + (1 : Int32))) [(2, .int (l2 + (1 : Int32))), (0, .ref (xP G 29)), (1, .int l1)] dX0_takeOthers_60 rfl rfl (by decide) rfl ?_
        refine X_goto (pc := 63) 2 dX0_takeOthers_63 (by decide) ?_
        exact X_lvs [1, 2, 0] rfl (ih hf)
theorem u_Be_takeOthers_L2 {S : List xSh} : ∀ (n : Nat) {l1 : Int32} {l2 : Int32} {I : Nat → Nat → Int32} {L : Nat → Nat → Int64} {q : ((Nat → Nat → Int32) × (Nat → Nat → Int64))}, f_Be_takeOthers_L2 n l1 l2 I L = some q → FR S [32, 33] [] I q.1 L q.2 := by
  intro n
  induction n with
  | zero =>
    intro l1 l2 I L q hf
    exact absurd (show none = some q from hf) (by simp)
  | succ n ih =>
    intro l1 l2 I L q hf
    replace hf := (f_Be_takeOthers_L2.eq_2 _ _ _ _ _).symm.trans hf
    by_cases c1 : (32 : Int32) ≤ l2
    · replace hf := (if_pos c1).symm.trans hf
      cases hf
      exact FR.rf
    · replace hf := (if_neg c1).symm.trans hf
      obtain ⟨q2, c3, hf⟩ := bd_some hf
      obtain ⟨c4, hf⟩ := gd_some hf
      obtain ⟨q5, c6, hf⟩ := bd_some hf
      by_cases c7 : q2 = q5
      · replace hf := (if_pos c7).symm.trans hf
        obtain ⟨q8, c9, hf⟩ := bd_some hf
        obtain ⟨c10, hf⟩ := gd_some hf
        obtain ⟨c11, hf⟩ := gd_some hf
        exact FR.tr (FR.ai (FR.ai FR.rf (by decide)) (by decide)) (ih hf) (by decide) (by decide)
      · replace hf := (if_neg c7).symm.trans hf
        obtain ⟨c12, hf⟩ := gd_some hf
        exact FR.tr (FR.ai FR.rf (by decide)) (ih hf) (by decide) (by decide)
def f_Be_takeOthers (a0 : Int32) (I : Nat → Nat → Int32) (L : Nat → Nat → Int64) : Option ((Nat → Nat → Int32) × (Nat → Nat → Int64)) := (f_Be_takeOthers_L2 xF a0 (0 : Int32) I L)
set_option maxRecDepth 100000 in
set_option maxHeartbeats 4000000 in
theorem c_Be_takeOthers {G : xG} {S : List xSh} {Rf : Nat → Nat → Option Nat} (hT : xTH S Rf) {a0 : Int32} {I : Nat → Nat → Int32} {L : Nat → Nat → Int64} {q : ((Nat → Nat → Int32) × (Nat → Nat → Int64))} (hf : f_Be_takeOthers a0 I L = some q) : CT G 2 m_Be_takeOthers [.ref (xP G 29), .int a0] (S, I, L, Rf) (none, (S, q.1, q.2, Rf)) := by
  refine CT.of (by decide +kernel) (Nat.le_of_ble_eq_true rfl) ?_
  show X G 2 m_Be_takeOthers 0 [(0, .ref (xP G 29)), (1, .int a0)] [] (S, I, L, Rf) (none, (S, q.1, q.2, Rf))
  replace hf := (f_Be_takeOthers.eq_1 _ _ _).symm.trans hf
  refine X_iconst (pc := 0) (0 : Int32) dX0_takeOthers_0 (by decide) ?_
  refine X_istore_n (pc := 1) (i := 2) [(2, .int (0 : Int32)), (0, .ref (xP G 29)), (1, .int a0)] dX0_takeOthers_1 rfl (by decide) rfl ?_
  exact X_lvs [1, 2, 0] rfl (x_Be_takeOthers_L2 hT xF hf)
theorem u_Be_takeOthers {S : List xSh} {a0 : Int32} {I : Nat → Nat → Int32} {L : Nat → Nat → Int64} {q : ((Nat → Nat → Int32) × (Nat → Nat → Int64))} (hf : f_Be_takeOthers a0 I L = some q) : FR S [32, 33] [] I q.1 L q.2 := by
  replace hf := (f_Be_takeOthers.eq_1 _ _ _).symm.trans hf
  exact FR.tr FR.rf (u_Be_takeOthers_L2 xF hf) (by decide) (by decide)
theorem dX0_mergeCopy_0 : decode cX0_mergeCopy 0 = .ok (.aload_n 0, 1) := by decide +kernel
theorem dX0_mergeCopy_1 : decode cX0_mergeCopy 1 = .ok (.iload_n 1, 1) := by decide +kernel
theorem dX0_mergeCopy_2 : decode cX0_mergeCopy 2 = .ok (.invokevirtual 40, 3) := by decide +kernel
theorem dX0_mergeCopy_5 : decode cX0_mergeCopy 5 = .ok (.istore_n 2, 1) := by decide +kernel
theorem dX0_mergeCopy_6 : decode cX0_mergeCopy 6 = .ok (.iload_n 2, 1) := by decide +kernel
theorem dX0_mergeCopy_7 : decode cX0_mergeCopy 7 = .ok (.ifCond .le 5, 3) := by decide +kernel
theorem dX0_mergeCopy_10 : decode cX0_mergeCopy 10 = .ok (.iload_n 2, 1) := by decide +kernel
theorem dX0_mergeCopy_11 : decode cX0_mergeCopy 11 = .ok (.ireturn, 1) := by decide +kernel
theorem dX0_mergeCopy_12 : decode cX0_mergeCopy 12 = .ok (.aload_n 0, 1) := by decide +kernel
theorem dX0_mergeCopy_13 : decode cX0_mergeCopy 13 = .ok (.iload_n 1, 1) := by decide +kernel
theorem dX0_mergeCopy_14 : decode cX0_mergeCopy 14 = .ok (.invokevirtual 44, 3) := by decide +kernel
theorem dX0_mergeCopy_17 : decode cX0_mergeCopy 17 = .ok (.istore_n 3, 1) := by decide +kernel
theorem dX0_mergeCopy_18 : decode cX0_mergeCopy 18 = .ok (.iload_n 3, 1) := by decide +kernel
theorem dX0_mergeCopy_19 : decode cX0_mergeCopy 19 = .ok (.ifCond .eq 16, 3) := by decide +kernel
theorem dX0_mergeCopy_22 : decode cX0_mergeCopy 22 = .ok (.aload_n 0, 1) := by decide +kernel
theorem dX0_mergeCopy_23 : decode cX0_mergeCopy 23 = .ok (.getfield 36, 3) := by decide +kernel
theorem dX0_mergeCopy_26 : decode cX0_mergeCopy 26 = .ok (.sipush 500, 3) := by decide +kernel
theorem dX0_mergeCopy_29 : decode cX0_mergeCopy 29 = .ok (.if_icmp .lt 6, 3) := by decide +kernel
theorem dX0_mergeCopy_32 : decode cX0_mergeCopy 32 = .ok (.bipush (-3), 2) := by decide +kernel
theorem dX0_mergeCopy_34 : decode cX0_mergeCopy 34 = .ok (.ireturn, 1) := by decide +kernel
theorem dX0_mergeCopy_35 : decode cX0_mergeCopy 35 = .ok (.aload_n 0, 1) := by decide +kernel
theorem dX0_mergeCopy_36 : decode cX0_mergeCopy 36 = .ok (.iload_n 1, 1) := by decide +kernel
theorem dX0_mergeCopy_37 : decode cX0_mergeCopy 37 = .ok (.invokevirtual 48, 3) := by decide +kernel
theorem dX0_mergeCopy_40 : decode cX0_mergeCopy 40 = .ok (.iload_n 3, 1) := by decide +kernel
theorem dX0_mergeCopy_41 : decode cX0_mergeCopy 41 = .ok (.ifCond .eq 37, 3) := by decide +kernel
theorem dX0_mergeCopy_44 : decode cX0_mergeCopy 44 = .ok (.aload_n 0, 1) := by decide +kernel
theorem dX0_mergeCopy_45 : decode cX0_mergeCopy 45 = .ok (.dup, 1) := by decide +kernel
theorem dX0_mergeCopy_46 : decode cX0_mergeCopy 46 = .ok (.getfield 36, 3) := by decide +kernel
theorem dX0_mergeCopy_49 : decode cX0_mergeCopy 49 = .ok (.iconst 1, 1) := by decide +kernel
theorem dX0_mergeCopy_50 : decode cX0_mergeCopy 50 = .ok (.iadd, 1) := by decide +kernel
theorem dX0_mergeCopy_51 : decode cX0_mergeCopy 51 = .ok (.putfield 36, 3) := by decide +kernel
theorem dX0_mergeCopy_54 : decode cX0_mergeCopy 54 = .ok (.aload_n 0, 1) := by decide +kernel
theorem dX0_mergeCopy_55 : decode cX0_mergeCopy 55 = .ok (.getfield 18, 3) := by decide +kernel
theorem dX0_mergeCopy_58 : decode cX0_mergeCopy 58 = .ok (.iload_n 1, 1) := by decide +kernel
theorem dX0_mergeCopy_59 : decode cX0_mergeCopy 59 = .ok (.bipush 32, 2) := by decide +kernel
theorem dX0_mergeCopy_61 : decode cX0_mergeCopy 61 = .ok (.imul, 1) := by decide +kernel
theorem dX0_mergeCopy_62 : decode cX0_mergeCopy 62 = .ok (.aload_n 0, 1) := by decide +kernel
theorem dX0_mergeCopy_63 : decode cX0_mergeCopy 63 = .ok (.getfield 15, 3) := by decide +kernel
theorem dX0_mergeCopy_66 : decode cX0_mergeCopy 66 = .ok (.aload_n 0, 1) := by decide +kernel
theorem dX0_mergeCopy_67 : decode cX0_mergeCopy 67 = .ok (.getfield 36, 3) := by decide +kernel
theorem dX0_mergeCopy_70 : decode cX0_mergeCopy 70 = .ok (.bipush 32, 2) := by decide +kernel
theorem dX0_mergeCopy_72 : decode cX0_mergeCopy 72 = .ok (.imul, 1) := by decide +kernel
theorem dX0_mergeCopy_73 : decode cX0_mergeCopy 73 = .ok (.bipush 32, 2) := by decide +kernel
theorem dX0_mergeCopy_75 : decode cX0_mergeCopy 75 = .ok (.invokestatic 52, 3) := by decide +kernel
theorem dX0_mergeCopy_78 : decode cX0_mergeCopy 78 = .ok (.aload_n 0, 1) := by decide +kernel
theorem dX0_mergeCopy_79 : decode cX0_mergeCopy 79 = .ok (.getfield 11, 3) := by decide +kernel
theorem dX0_mergeCopy_82 : decode cX0_mergeCopy 82 = .ok (.iload_n 1, 1) := by decide +kernel
theorem dX0_mergeCopy_83 : decode cX0_mergeCopy 83 = .ok (.aload_n 0, 1) := by decide +kernel
theorem dX0_mergeCopy_84 : decode cX0_mergeCopy 84 = .ok (.getfield 36, 3) := by decide +kernel
theorem dX0_mergeCopy_87 : decode cX0_mergeCopy 87 = .ok (.iastore, 1) := by decide +kernel
theorem dX0_mergeCopy_88 : decode cX0_mergeCopy 88 = .ok (.iconst 0, 1) := by decide +kernel
theorem dX0_mergeCopy_89 : decode cX0_mergeCopy 89 = .ok (.ireturn, 1) := by decide +kernel
def f_Be_mergeCopy_L35 (l1 : Int32) (l3 : Int32) (I : (Nat → Nat → Int32)) (L : (Nat → Nat → Int64)) : Option (Int32 × (Nat → Nat → Int32) × (Nat → Nat → Int64)) := ((f_Be_takeOthers l1 I L).bind fun q7 => (if l3 = (0 : Int32) then (bnd (q7.1 29 0) fun x10 => (if (0 ≤ l1 ∧ l1 < (4 : Int32)) then (some ((0 : Int32), (uI q7.1 30 (l1.toNatClampNeg) x10), q7.2)) else none)) else (bnd ((q7.1 29 0) + (1 : Int32)) fun x12 => (if ¬ (l1 * (32 : Int32)) < (0 : Int32) then (if ¬ (x12 * (32 : Int32)) < (0 : Int32) then (if (Int32.toNatClampNeg (l1 * (32 : Int32))) + (Int32.toNatClampNeg (32 : Int32)) ≤ 128 then (if (Int32.toNatClampNeg (x12 * (32 : Int32))) + (Int32.toNatClampNeg (32 : Int32)) ≤ 16032 then (if (0 ≤ l1 ∧ l1 < (4 : Int32)) then (some ((0 : Int32), (uI (uC (uI q7.1 29 0 x12) 32 (Int32.toNatClampNeg (l1 * (32 : Int32))) 31 (Int32.toNatClampNeg (x12 * (32 : Int32))) (Int32.toNatClampNeg (32 : Int32))) 30 (l1.toNatClampNeg) x12), q7.2)) else none) else none) else none) else none) else none))))
set_option maxRecDepth 100000 in
set_option maxHeartbeats 4000000 in
theorem x_Be_mergeCopy_L35 {G : xG} {S : List xSh} {Rf : Nat → Nat → Option Nat} (hT : xTH S Rf) {l1 : Int32} {l3 : Int32} {I : Nat → Nat → Int32} {L : Nat → Nat → Int64} {q : (Int32 × (Nat → Nat → Int32) × (Nat → Nat → Int64))} (hf : f_Be_mergeCopy_L35 l1 l3 I L = some q) : X G 4 m_Be_mergeCopy 35 [(0, .ref (xP G 29)), (1, .int l1), (3, .int l3)] [] (S, I, L, Rf) (some (.int q.1), (S, q.2.1, q.2.2, Rf)) := by
  replace hf := (f_Be_mergeCopy_L35.eq_1 _ _ _ _).symm.trans hf
  refine X_aload_n (pc := 35) (i := 0) 0 dX0_mergeCopy_35 rfl rfl ?_
  refine X_iload_n (pc := 36) (i := 1) 1 dX0_mergeCopy_36 rfl rfl ?_
  obtain ⟨q7, c8, hf⟩ := bd_some hf
  refine X_invV_v (pc := 37) (c_Be_takeOthers hT c8) ok_Be_takeOthers (ci := 0) (sh_29 hT) k_1164 k_1166 k_39 nd_13 (by decide) rfl (Nat.le_of_ble_eq_true rfl) dX0_mergeCopy_37 ?_
  refine X_iload_n (pc := 40) (i := 3) 2 dX0_mergeCopy_40 rfl rfl ?_
  by_cases c9 : l3 = (0 : Int32)
  · replace hf := (if_pos c9).symm.trans hf
    refine X_if_eq_t (pc := 41) 78 dX0_mergeCopy_41 (by decide) c9 ?_
    refine X_aload_n (pc := 78) (i := 0) 0 dX0_mergeCopy_78 rfl rfl ?_
    refine X_getr (pc := 79) (a := 29) (ci := 0) (j := 1) (c := 30) (sh_29 hT) (by decide) k_336 (rf_29_1 hT) (fun _ h => h) dX0_mergeCopy_79 ?_
    refine X_iload_n (pc := 82) (i := 1) 1 dX0_mergeCopy_82 rfl rfl ?_
    refine X_aload_n (pc := 83) (i := 0) 0 dX0_mergeCopy_83 rfl rfl ?_
    refine X_get (pc := 84) (a := 29) (ci := 0) (j := 0) (.int (q7.1 29 0)) (sh_29 hT) (by decide) k_334 rfl dX0_mergeCopy_84 ?_
    obtain ⟨x10, ex10, hf⟩ := bnd_e hf
    refine X_tope ex10 ?_
    obtain ⟨c11, hf⟩ := gd_some hf
    refine X_iastj (pc := 87) (j := (l1.toNatClampNeg)) (sh_30 hT) (vp_in_lit (N := 4) c11 (by decide)) rfl dX0_mergeCopy_87 ?_
    refine X_iconst (pc := 88) (0 : Int32) dX0_mergeCopy_88 (by decide) ?_
    cases hf
    exact X_ireturn (pc := 89) rfl dX0_mergeCopy_89
  · replace hf := (if_neg c9).symm.trans hf
    refine X_if_eq_f (pc := 41) 78 dX0_mergeCopy_41 (by decide) c9 ?_
    refine X_aload_n (pc := 44) (i := 0) 0 dX0_mergeCopy_44 rfl rfl ?_
    refine X_dup (pc := 45) dX0_mergeCopy_45 rfl ?_
    refine X_get (pc := 46) (a := 29) (ci := 0) (j := 0) (.int (q7.1 29 0)) (sh_29 hT) (by decide) k_334 rfl dX0_mergeCopy_46 ?_
    refine X_iconst (pc := 49) (1 : Int32) dX0_mergeCopy_49 (by decide) ?_
    refine X_iadd (pc := 50) dX0_mergeCopy_50 ?_
    obtain ⟨x12, ex12, hf⟩ := bnd_e hf
    refine X_tope ex12 ?_
    refine X_puti (pc := 51) (a := 29) (ci := 0) (j := 0) 0 rfl false (sh_29 hT) (by decide) k_334 rfl (fun h => by cases h) rfl dX0_mergeCopy_51 ?_
    refine X_aload_n (pc := 54) (i := 0) 0 dX0_mergeCopy_54 rfl rfl ?_
    refine X_getr (pc := 55) (a := 29) (ci := 0) (j := 3) (c := 32) (sh_29 hT) (by decide) k_339 (rf_29_3 hT) (fun _ h => h) dX0_mergeCopy_55 ?_
    refine X_iload_n (pc := 58) (i := 1) 1 dX0_mergeCopy_58 rfl rfl ?_
    refine X_bipush (pc := 59) (32 : Int32) dX0_mergeCopy_59 (by decide) ?_
    refine X_imul (pc := 61) dX0_mergeCopy_61 ?_
    refine X_aload_n (pc := 62) (i := 0) 0 dX0_mergeCopy_62 rfl rfl ?_
    refine X_getr (pc := 63) (a := 29) (ci := 0) (j := 2) (c := 31) (sh_29 hT) (by decide) k_338 (rf_29_2 hT) (fun _ h => h) dX0_mergeCopy_63 ?_
    refine X_aload_n (pc := 66) (i := 0) 0 dX0_mergeCopy_66 rfl rfl ?_
    refine X_get (pc := 67) (a := 29) (ci := 0) (j := 0) (.int x12) (sh_29 hT) (by decide) k_334 rfl dX0_mergeCopy_67 ?_
    refine X_bipush (pc := 70) (32 : Int32) dX0_mergeCopy_70 (by decide) ?_
    refine X_imul (pc := 72) dX0_mergeCopy_72 ?_
    refine X_bipush (pc := 73) (32 : Int32) dX0_mergeCopy_73 (by decide) ?_
    obtain ⟨c13, hf⟩ := gd_some hf
    obtain ⟨c14, hf⟩ := gd_some hf
    obtain ⟨c15, hf⟩ := gd_some hf
    obtain ⟨c16, hf⟩ := gd_some hf
    refine X_copyi (pc := 75) (sh_32 hT) (sh_31 hT) k_1168 k_1037 k_1036 k_86 c13 c14 (by decide) c15 c16 (by decide) (Nat.le_of_ble_eq_true rfl) dX0_mergeCopy_75 ?_
    refine X_aload_n (pc := 78) (i := 0) 0 dX0_mergeCopy_78 rfl rfl ?_
    refine X_getr (pc := 79) (a := 29) (ci := 0) (j := 1) (c := 30) (sh_29 hT) (by decide) k_336 (rf_29_1 hT) (fun _ h => h) dX0_mergeCopy_79 ?_
    refine X_iload_n (pc := 82) (i := 1) 1 dX0_mergeCopy_82 rfl rfl ?_
    refine X_aload_n (pc := 83) (i := 0) 0 dX0_mergeCopy_83 rfl rfl ?_
    refine X_get (pc := 84) (a := 29) (ci := 0) (j := 0) (.int x12) (sh_29 hT) (by decide) k_334 rfl dX0_mergeCopy_84 ?_
    obtain ⟨c17, hf⟩ := gd_some hf
    refine X_iastj (pc := 87) (j := (l1.toNatClampNeg)) (sh_30 hT) (vp_in_lit (N := 4) c17 (by decide)) rfl dX0_mergeCopy_87 ?_
    refine X_iconst (pc := 88) (0 : Int32) dX0_mergeCopy_88 (by decide) ?_
    cases hf
    exact X_ireturn (pc := 89) rfl dX0_mergeCopy_89
theorem u_Be_mergeCopy_L35 {S : List xSh} {l1 : Int32} {l3 : Int32} {I : Nat → Nat → Int32} {L : Nat → Nat → Int64} {q : (Int32 × (Nat → Nat → Int32) × (Nat → Nat → Int64))} (hf : f_Be_mergeCopy_L35 l1 l3 I L = some q) : FR S [30, 31, 32, 33, 3900] [] I q.2.1 L q.2.2 := by
  replace hf := (f_Be_mergeCopy_L35.eq_1 _ _ _ _).symm.trans hf
  obtain ⟨q7, c8, hf⟩ := bd_some hf
  by_cases c9 : l3 = (0 : Int32)
  · replace hf := (if_pos c9).symm.trans hf
    obtain ⟨x10, ex10, hf⟩ := bnd_e hf
    obtain ⟨c11, hf⟩ := gd_some hf
    cases hf
    exact (FR.ai (FR.tr FR.rf (u_Be_takeOthers (q := q7) c8) (by decide) (by decide)) (by decide))
  · replace hf := (if_neg c9).symm.trans hf
    obtain ⟨x12, ex12, hf⟩ := bnd_e hf
    obtain ⟨c13, hf⟩ := gd_some hf
    obtain ⟨c14, hf⟩ := gd_some hf
    obtain ⟨c15, hf⟩ := gd_some hf
    obtain ⟨c16, hf⟩ := gd_some hf
    obtain ⟨c17, hf⟩ := gd_some hf
    cases hf
    exact (FR.ai (FR.ci (FR.fi (FR.tr FR.rf (u_Be_takeOthers (q := q7) c8) (by decide) (by decide)) (by decide)) (by decide)) (by decide))
def f_Be_mergeCopy (a0 : Int32) (I : Nat → Nat → Int32) (L : Nat → Nat → Int64) : Option (Int32 × (Nat → Nat → Int32) × (Nat → Nat → Int64)) := ((f_Be_countConflicts a0 I L).bind fun q1 => (if q1 ≤ (0 : Int32) then ((f_Be_keepsOwn a0 I L).bind fun q4 => (if q4 = (0 : Int32) then (f_Be_mergeCopy_L35 a0 q4 I L) else (if (I 29 0) < (500 : Int32) then (f_Be_mergeCopy_L35 a0 q4 I L) else (some ((-3 : Int32), I, L))))) else (some (q1, I, L))))
set_option maxRecDepth 100000 in
set_option maxHeartbeats 4000000 in
theorem c_Be_mergeCopy {G : xG} {S : List xSh} {Rf : Nat → Nat → Option Nat} (hT : xTH S Rf) {a0 : Int32} {I : Nat → Nat → Int32} {L : Nat → Nat → Int64} {q : (Int32 × (Nat → Nat → Int32) × (Nat → Nat → Int64))} (hf : f_Be_mergeCopy a0 I L = some q) : CT G 4 m_Be_mergeCopy [.ref (xP G 29), .int a0] (S, I, L, Rf) (some (.int q.1), (S, q.2.1, q.2.2, Rf)) := by
  refine CT.of (by decide +kernel) (Nat.le_of_ble_eq_true rfl) ?_
  show X G 4 m_Be_mergeCopy 0 [(0, .ref (xP G 29)), (1, .int a0)] [] (S, I, L, Rf) (some (.int q.1), (S, q.2.1, q.2.2, Rf))
  replace hf := (f_Be_mergeCopy.eq_1 _ _ _).symm.trans hf
  refine X_aload_n (pc := 0) (i := 0) 0 dX0_mergeCopy_0 rfl rfl ?_
  refine X_iload_n (pc := 1) (i := 1) 1 dX0_mergeCopy_1 rfl rfl ?_
  obtain ⟨q1, c2, hf⟩ := bd_some hf
  refine X_invV_i (pc := 2) (c_Be_countConflicts hT c2) ok_Be_countConflicts (ci := 0) (sh_29 hT) k_1144 k_1146 k_37 nd_8 (by decide) rfl (Nat.le_of_ble_eq_true rfl) dX0_mergeCopy_2 ?_
  refine X_istore_n (pc := 5) (i := 2) [(2, .int q1), (0, .ref (xP G 29)), (1, .int a0)] dX0_mergeCopy_5 rfl (by decide) rfl ?_
  refine X_iload_n (pc := 6) (i := 2) 0 dX0_mergeCopy_6 rfl rfl ?_
  by_cases c3 : q1 ≤ (0 : Int32)
  · replace hf := (if_pos c3).symm.trans hf
    refine X_if_le_t (pc := 7) 12 dX0_mergeCopy_7 (by decide) c3 ?_
    refine X_aload_n (pc := 12) (i := 0) 1 dX0_mergeCopy_12 rfl rfl ?_
    refine X_iload_n (pc := 13) (i := 1) 2 dX0_mergeCopy_13 rfl rfl ?_
    obtain ⟨q4, c5, hf⟩ := bd_some hf
    refine X_invV_i (pc := 14) (c_Be_keepsOwn hT c5) ok_Be_keepsOwn (ci := 0) (sh_29 hT) k_1160 k_1162 k_38 nd_5 (by decide) rfl (Nat.le_of_ble_eq_true rfl) dX0_mergeCopy_14 ?_
    refine X_istore_n (pc := 17) (i := 3) [(3, .int q4), (2, .int q1), (0, .ref (xP G 29)), (1, .int a0)] dX0_mergeCopy_17 rfl (by decide) rfl ?_
    refine X_iload_n (pc := 18) (i := 3) 0 dX0_mergeCopy_18 rfl rfl ?_
    by_cases c6 : q4 = (0 : Int32)
    · replace hf := (if_pos c6).symm.trans hf
      refine X_if_eq_t (pc := 19) 35 dX0_mergeCopy_19 (by decide) c6 ?_
      exact X_lvs [2, 3, 0] rfl (x_Be_mergeCopy_L35 hT hf)
    · replace hf := (if_neg c6).symm.trans hf
      refine X_if_eq_f (pc := 19) 35 dX0_mergeCopy_19 (by decide) c6 ?_
      refine X_aload_n (pc := 22) (i := 0) 2 dX0_mergeCopy_22 rfl rfl ?_
      refine X_get (pc := 23) (a := 29) (ci := 0) (j := 0) (.int (I 29 0)) (sh_29 hT) (by decide) k_334 rfl dX0_mergeCopy_23 ?_
      refine X_sipush (pc := 26) (500 : Int32) dX0_mergeCopy_26 (by decide) ?_
      by_cases c18 : (I 29 0) < (500 : Int32)
      · replace hf := (if_pos c18).symm.trans hf
        refine X_icmp_lt_t (pc := 29) 35 dX0_mergeCopy_29 (by decide) c18 ?_
        exact X_lvs [2, 3, 0] rfl (x_Be_mergeCopy_L35 hT hf)
      · replace hf := (if_neg c18).symm.trans hf
        refine X_icmp_lt_f (pc := 29) 35 dX0_mergeCopy_29 (by decide) c18 ?_
        refine X_bipush (pc := 32) (-3 : Int32) dX0_mergeCopy_32 (by decide) ?_
        cases hf
        exact X_ireturn (pc := 34) rfl dX0_mergeCopy_34
  · replace hf := (if_neg c3).symm.trans hf
    refine X_if_le_f (pc := 7) 12 dX0_mergeCopy_7 (by decide) c3 ?_
    refine X_iload_n (pc := 10) (i := 2) 0 dX0_mergeCopy_10 rfl rfl ?_
    cases hf
    exact X_ireturn (pc := 11) rfl dX0_mergeCopy_11
theorem u_Be_mergeCopy {S : List xSh} {a0 : Int32} {I : Nat → Nat → Int32} {L : Nat → Nat → Int64} {q : (Int32 × (Nat → Nat → Int32) × (Nat → Nat → Int64))} (hf : f_Be_mergeCopy a0 I L = some q) : FR S [30, 31, 32, 33, 3900] [] I q.2.1 L q.2.2 := by
  replace hf := (f_Be_mergeCopy.eq_1 _ _ _).symm.trans hf
  obtain ⟨q1, c2, hf⟩ := bd_some hf
  by_cases c3 : q1 ≤ (0 : Int32)
  · replace hf := (if_pos c3).symm.trans hf
    obtain ⟨q4, c5, hf⟩ := bd_some hf
    by_cases c6 : q4 = (0 : Int32)
    · replace hf := (if_pos c6).symm.trans hf
      exact FR.tr FR.rf (u_Be_mergeCopy_L35 hf) (by decide) (by decide)
    · replace hf := (if_neg c6).symm.trans hf
      by_cases c18 : (I 29 0) < (500 : Int32)
      · replace hf := (if_pos c18).symm.trans hf
        exact FR.tr FR.rf (u_Be_mergeCopy_L35 hf) (by decide) (by decide)
      · replace hf := (if_neg c18).symm.trans hf
        cases hf
        exact FR.rf
  · replace hf := (if_neg c3).symm.trans hf
    cases hf
    exact FR.rf
theorem dX11_merge_0 : decode cX11_merge 0 = .ok (.iload_n 1, 1) := by decide +kernel
theorem dX11_merge_1 : decode cX11_merge 1 = .ok (.iconst 0, 1) := by decide +kernel
theorem dX11_merge_2 : decode cX11_merge 2 = .ok (.invokestatic 342, 3) := by decide +kernel
theorem dX11_merge_5 : decode cX11_merge 5 = .ok (.ifCond .eq 14, 3) := by decide +kernel
theorem dX11_merge_8 : decode cX11_merge 8 = .ok (.aload_n 0, 1) := by decide +kernel
theorem dX11_merge_9 : decode cX11_merge 9 = .ok (.getfield 84, 3) := by decide +kernel
theorem dX11_merge_12 : decode cX11_merge 12 = .ok (.iload_n 1, 1) := by decide +kernel
theorem dX11_merge_13 : decode cX11_merge 13 = .ok (.invokevirtual 346, 3) := by decide +kernel
theorem dX11_merge_16 : decode cX11_merge 16 = .ok (.goto 4, 3) := by decide +kernel
theorem dX11_merge_19 : decode cX11_merge 19 = .ok (.iconst (-1), 1) := by decide +kernel
theorem dX11_merge_20 : decode cX11_merge 20 = .ok (.ireturn, 1) := by decide +kernel
def f_H_merge (a0 : Int32) (I : Nat → Nat → Int32) (L : Nat → Nat → Int64) : Option (Int32 × (Nat → Nat → Int32) × (Nat → Nat → Int64)) := (if (f_Be_has a0 (0 : Int32)) = (0 : Int32) then (some ((-1 : Int32), I, L)) else ((f_Be_mergeCopy a0 I L).bind fun q2 => (some (q2.1, q2.2.1, q2.2.2))))
set_option maxRecDepth 100000 in
set_option maxHeartbeats 4000000 in
theorem c_H_merge {G : xG} {S : List xSh} {Rf : Nat → Nat → Option Nat} (hT : xTH S Rf) {a0 : Int32} {I : Nat → Nat → Int32} {L : Nat → Nat → Int64} {q : (Int32 × (Nat → Nat → Int32) × (Nat → Nat → Int64))} (hf : f_H_merge a0 I L = some q) : CT G 5 m_H_merge [.ref (xP G 0), .int a0] (S, I, L, Rf) (some (.int q.1), (S, q.2.1, q.2.2, Rf)) := by
  refine CT.of (by decide +kernel) (Nat.le_of_ble_eq_true rfl) ?_
  show X G 5 m_H_merge 0 [(0, .ref (xP G 0)), (1, .int a0)] [] (S, I, L, Rf) (some (.int q.1), (S, q.2.1, q.2.2, Rf))
  replace hf := (f_H_merge.eq_1 _ _ _).symm.trans hf
  refine X_iload_n (pc := 0) (i := 1) 1 dX11_merge_0 rfl rfl ?_
  refine X_iconst (pc := 1) (0 : Int32) dX11_merge_1 (by decide) ?_
  refine X_invS_i (pc := 2) (c_Be_has hT rfl) ok_Be_has k_1128 k_1129 nd_25 (by decide) rfl (Nat.le_of_ble_eq_true rfl) dX11_merge_2 ?_
  by_cases c1 : (f_Be_has a0 (0 : Int32)) = (0 : Int32)
  · replace hf := (if_pos c1).symm.trans hf
    refine X_if_eq_t (pc := 5) 19 dX11_merge_5 (by decide) c1 ?_
    refine X_iconst (pc := 19) (-1 : Int32) dX11_merge_19 (by decide) ?_
    cases hf
    exact X_ireturn (pc := 20) rfl dX11_merge_20
  · replace hf := (if_neg c1).symm.trans hf
    refine X_if_eq_f (pc := 5) 19 dX11_merge_5 (by decide) c1 ?_
    refine X_aload_n (pc := 8) (i := 0) 0 dX11_merge_8 rfl rfl ?_
    refine X_getr (pc := 9) (a := 0) (ci := 10) (j := 15) (c := 29) (sh_0 hT) (by decide) k_509 (rf_0_12 hT) (fun _ h => h) dX11_merge_9 ?_
    refine X_iload_n (pc := 12) (i := 1) 1 dX11_merge_12 rfl rfl ?_
    obtain ⟨q2, c3, hf⟩ := bd_some hf
    refine X_invV_i (pc := 13) (c_Be_mergeCopy hT c3) ok_Be_mergeCopy (ci := 0) (sh_29 hT) k_1140 k_1141 k_1142 nd_8 (by decide) rfl (Nat.le_of_ble_eq_true rfl) dX11_merge_13 ?_
    refine X_goto (pc := 16) 20 dX11_merge_16 (by decide) ?_
    cases hf
    exact X_ireturn (pc := 20) rfl dX11_merge_20
theorem u_H_merge {S : List xSh} {a0 : Int32} {I : Nat → Nat → Int32} {L : Nat → Nat → Int64} {q : (Int32 × (Nat → Nat → Int32) × (Nat → Nat → Int64))} (hf : f_H_merge a0 I L = some q) : FR S [30, 31, 32, 33, 3900] [] I q.2.1 L q.2.2 := by
  replace hf := (f_H_merge.eq_1 _ _ _).symm.trans hf
  by_cases c1 : (f_Be_has a0 (0 : Int32)) = (0 : Int32)
  · replace hf := (if_pos c1).symm.trans hf
    cases hf
    exact FR.rf
  · replace hf := (if_neg c1).symm.trans hf
    obtain ⟨q2, c3, hf⟩ := bd_some hf
    cases hf
    exact (FR.tr FR.rf (u_Be_mergeCopy (q := q2) c3) (by decide) (by decide))
theorem dX11_conflict_0 : decode cX11_conflict 0 = .ok (.iload_n 1, 1) := by decide +kernel
theorem dX11_conflict_1 : decode cX11_conflict 1 = .ok (.iload_n 2, 1) := by decide +kernel
theorem dX11_conflict_2 : decode cX11_conflict 2 = .ok (.invokestatic 342, 3) := by decide +kernel
theorem dX11_conflict_5 : decode cX11_conflict 5 = .ok (.ifCond .ne 5, 3) := by decide +kernel
theorem dX11_conflict_8 : decode cX11_conflict 8 = .ok (.iconst (-1), 1) := by decide +kernel
theorem dX11_conflict_9 : decode cX11_conflict 9 = .ok (.ireturn, 1) := by decide +kernel
theorem dX11_conflict_10 : decode cX11_conflict 10 = .ok (.aload_n 0, 1) := by decide +kernel
theorem dX11_conflict_11 : decode cX11_conflict 11 = .ok (.getfield 84, 3) := by decide +kernel
theorem dX11_conflict_14 : decode cX11_conflict 14 = .ok (.iload_n 1, 1) := by decide +kernel
theorem dX11_conflict_15 : decode cX11_conflict 15 = .ok (.iload_n 2, 1) := by decide +kernel
theorem dX11_conflict_16 : decode cX11_conflict 16 = .ok (.invokevirtual 349, 3) := by decide +kernel
theorem dX11_conflict_19 : decode cX11_conflict 19 = .ok (.ifCond .eq 7, 3) := by decide +kernel
theorem dX11_conflict_22 : decode cX11_conflict 22 = .ok (.iconst 1, 1) := by decide +kernel
theorem dX11_conflict_23 : decode cX11_conflict 23 = .ok (.goto 4, 3) := by decide +kernel
theorem dX11_conflict_26 : decode cX11_conflict 26 = .ok (.iconst 0, 1) := by decide +kernel
theorem dX11_conflict_27 : decode cX11_conflict 27 = .ok (.ireturn, 1) := by decide +kernel
def f_H_conflict (a0 : Int32) (a1 : Int32) (I : Nat → Nat → Int32) (L : Nat → Nat → Int64) : Option Int32 := (if (f_Be_has a0 a1) = (0 : Int32) then (some (-1 : Int32)) else ((f_Be_isConflict a0 a1 I L).bind fun q2 => (if q2 = (0 : Int32) then (some (0 : Int32)) else (some (1 : Int32)))))
set_option maxRecDepth 100000 in
set_option maxHeartbeats 4000000 in
theorem c_H_conflict {G : xG} {S : List xSh} {Rf : Nat → Nat → Option Nat} (hT : xTH S Rf) {a0 : Int32} {a1 : Int32} {I : Nat → Nat → Int32} {L : Nat → Nat → Int64} {q : Int32} (hf : f_H_conflict a0 a1 I L = some q) : CT G 3 m_H_conflict [.ref (xP G 0), .int a0, .int a1] (S, I, L, Rf) (some (.int q), (S, I, L, Rf)) := by
  refine CT.of (by decide +kernel) (Nat.le_of_ble_eq_true rfl) ?_
  show X G 3 m_H_conflict 0 [(0, .ref (xP G 0)), (1, .int a0), (2, .int a1)] [] (S, I, L, Rf) (some (.int q), (S, I, L, Rf))
  replace hf := (f_H_conflict.eq_1 _ _ _ _).symm.trans hf
  refine X_iload_n (pc := 0) (i := 1) 1 dX11_conflict_0 rfl rfl ?_
  refine X_iload_n (pc := 1) (i := 2) 2 dX11_conflict_1 rfl rfl ?_
  refine X_invS_i (pc := 2) (c_Be_has hT rfl) ok_Be_has k_1128 k_1129 nd_25 (by decide) rfl (Nat.le_of_ble_eq_true rfl) dX11_conflict_2 ?_
  by_cases c1 : (f_Be_has a0 a1) = (0 : Int32)
  · replace hf := (if_pos c1).symm.trans hf
    refine X_if_ne_f (pc := 5) 10 dX11_conflict_5 (by decide) c1 ?_
    refine X_iconst (pc := 8) (-1 : Int32) dX11_conflict_8 (by decide) ?_
    cases hf
    exact X_ireturn (pc := 9) rfl dX11_conflict_9
  · replace hf := (if_neg c1).symm.trans hf
    refine X_if_ne_t (pc := 5) 10 dX11_conflict_5 (by decide) c1 ?_
    refine X_aload_n (pc := 10) (i := 0) 0 dX11_conflict_10 rfl rfl ?_
    refine X_getr (pc := 11) (a := 0) (ci := 10) (j := 15) (c := 29) (sh_0 hT) (by decide) k_509 (rf_0_12 hT) (fun _ h => h) dX11_conflict_11 ?_
    refine X_iload_n (pc := 14) (i := 1) 1 dX11_conflict_14 rfl rfl ?_
    refine X_iload_n (pc := 15) (i := 2) 2 dX11_conflict_15 rfl rfl ?_
    obtain ⟨q2, c3, hf⟩ := bd_some hf
    refine X_invV_i (pc := 16) (c_Be_isConflict hT c3) ok_Be_isConflict (ci := 0) (sh_29 hT) k_1173 k_1149 k_1150 nd_25 (by decide) rfl (Nat.le_of_ble_eq_true rfl) dX11_conflict_16 ?_
    by_cases c4 : q2 = (0 : Int32)
    · replace hf := (if_pos c4).symm.trans hf
      refine X_if_eq_t (pc := 19) 26 dX11_conflict_19 (by decide) c4 ?_
      refine X_iconst (pc := 26) (0 : Int32) dX11_conflict_26 (by decide) ?_
      cases hf
      exact X_ireturn (pc := 27) rfl dX11_conflict_27
    · replace hf := (if_neg c4).symm.trans hf
      refine X_if_eq_f (pc := 19) 26 dX11_conflict_19 (by decide) c4 ?_
      refine X_iconst (pc := 22) (1 : Int32) dX11_conflict_22 (by decide) ?_
      refine X_goto (pc := 23) 27 dX11_conflict_23 (by decide) ?_
      cases hf
      exact X_ireturn (pc := 27) rfl dX11_conflict_27
theorem dX0_decide_0 : decode cX0_decide 0 = .ok (.iload_n 1, 1) := by decide +kernel
theorem dX0_decide_1 : decode cX0_decide 1 = .ok (.bipush 32, 2) := by decide +kernel
theorem dX0_decide_3 : decode cX0_decide 3 = .ok (.imul, 1) := by decide +kernel
theorem dX0_decide_4 : decode cX0_decide 4 = .ok (.iload_n 2, 1) := by decide +kernel
theorem dX0_decide_5 : decode cX0_decide 5 = .ok (.iadd, 1) := by decide +kernel
theorem dX0_decide_6 : decode cX0_decide 6 = .ok (.istore 4, 2) := by decide +kernel
theorem dX0_decide_8 : decode cX0_decide 8 = .ok (.iload_n 3, 1) := by decide +kernel
theorem dX0_decide_9 : decode cX0_decide 9 = .ok (.ifCond .ne 22, 3) := by decide +kernel
theorem dX0_decide_12 : decode cX0_decide 12 = .ok (.aload_n 0, 1) := by decide +kernel
theorem dX0_decide_13 : decode cX0_decide 13 = .ok (.getfield 18, 3) := by decide +kernel
theorem dX0_decide_16 : decode cX0_decide 16 = .ok (.iload 4, 2) := by decide +kernel
theorem dX0_decide_18 : decode cX0_decide 18 = .ok (.aload_n 0, 1) := by decide +kernel
theorem dX0_decide_19 : decode cX0_decide 19 = .ok (.aload_n 0, 1) := by decide +kernel
theorem dX0_decide_20 : decode cX0_decide 20 = .ok (.getfield 36, 3) := by decide +kernel
theorem dX0_decide_23 : decode cX0_decide 23 = .ok (.iload_n 2, 1) := by decide +kernel
theorem dX0_decide_24 : decode cX0_decide 24 = .ok (.invokevirtual 29, 3) := by decide +kernel
theorem dX0_decide_27 : decode cX0_decide 27 = .ok (.iastore, 1) := by decide +kernel
theorem dX0_decide_28 : decode cX0_decide 28 = .ok (.goto 11, 3) := by decide +kernel
theorem dX0_decide_31 : decode cX0_decide 31 = .ok (.aload_n 0, 1) := by decide +kernel
theorem dX0_decide_32 : decode cX0_decide 32 = .ok (.getfield 21, 3) := by decide +kernel
theorem dX0_decide_35 : decode cX0_decide 35 = .ok (.iload 4, 2) := by decide +kernel
theorem dX0_decide_37 : decode cX0_decide 37 = .ok (.iconst 1, 1) := by decide +kernel
theorem dX0_decide_38 : decode cX0_decide 38 = .ok (.bastore, 1) := by decide +kernel
theorem dX0_decide_39 : decode cX0_decide 39 = .ok (.return_, 1) := by decide +kernel
def f_Be_decide (a0 : Int32) (a1 : Int32) (a2 : Int32) (I : Nat → Nat → Int32) (L : Nat → Nat → Int64) : Option ((Nat → Nat → Int32) × (Nat → Nat → Int64)) := (bnd ((a0 * (32 : Int32)) + a1) fun x1 => (if a2 = (0 : Int32) then ((f_Be_ofVersion (I 29 0) a1 I L).bind fun q3 => (if (0 ≤ x1 ∧ x1 < (128 : Int32)) then (some ((uI I 32 (x1.toNatClampNeg) q3), L)) else none)) else (if (0 ≤ x1 ∧ x1 < (128 : Int32)) then (some ((uI I 33 (x1.toNatClampNeg) (1 : Int32)), L)) else none)))
set_option maxRecDepth 100000 in
set_option maxHeartbeats 4000000 in
theorem c_Be_decide {G : xG} {S : List xSh} {Rf : Nat → Nat → Option Nat} (hT : xTH S Rf) {a0 : Int32} {a1 : Int32} {a2 : Int32} {I : Nat → Nat → Int32} {L : Nat → Nat → Int64} {q : ((Nat → Nat → Int32) × (Nat → Nat → Int64))} (hf : f_Be_decide a0 a1 a2 I L = some q) : CT G 2 m_Be_decide [.ref (xP G 29), .int a0, .int a1, .int a2] (S, I, L, Rf) (none, (S, q.1, q.2, Rf)) := by
  refine CT.of (by decide +kernel) (Nat.le_of_ble_eq_true rfl) ?_
  show X G 2 m_Be_decide 0 [(0, .ref (xP G 29)), (1, .int a0), (2, .int a1), (3, .int a2)] [] (S, I, L, Rf) (none, (S, q.1, q.2, Rf))
  replace hf := (f_Be_decide.eq_1 _ _ _ _ _).symm.trans hf
  refine X_iload_n (pc := 0) (i := 1) 1 dX0_decide_0 rfl rfl ?_
  refine X_bipush (pc := 1) (32 : Int32) dX0_decide_1 (by decide) ?_
  refine X_imul (pc := 3) dX0_decide_3 ?_
  refine X_iload_n (pc := 4) (i := 2) 2 dX0_decide_4 rfl rfl ?_
  refine X_iadd (pc := 5) dX0_decide_5 ?_
  obtain ⟨x1, ex1, hf⟩ := bnd_e hf
  refine X_tope ex1 ?_
  refine X_istore (pc := 6) [(4, .int x1), (0, .ref (xP G 29)), (1, .int a0), (2, .int a1), (3, .int a2)] dX0_decide_6 (by decide) rfl ?_
  refine X_iload_n (pc := 8) (i := 3) 4 dX0_decide_8 rfl rfl ?_
  by_cases c2 : a2 = (0 : Int32)
  · replace hf := (if_pos c2).symm.trans hf
    refine X_if_ne_f (pc := 9) 31 dX0_decide_9 (by decide) c2 ?_
    refine X_aload_n (pc := 12) (i := 0) 1 dX0_decide_12 rfl rfl ?_
    refine X_getr (pc := 13) (a := 29) (ci := 0) (j := 3) (c := 32) (sh_29 hT) (by decide) k_339 (rf_29_3 hT) (fun _ h => h) dX0_decide_13 ?_
    refine X_iload (pc := 16) 0 dX0_decide_16 rfl ?_
    refine X_aload_n (pc := 18) (i := 0) 1 dX0_decide_18 rfl rfl ?_
    refine X_aload_n (pc := 19) (i := 0) 1 dX0_decide_19 rfl rfl ?_
    refine X_get (pc := 20) (a := 29) (ci := 0) (j := 0) (.int (I 29 0)) (sh_29 hT) (by decide) k_334 rfl dX0_decide_20 ?_
    refine X_iload_n (pc := 23) (i := 2) 3 dX0_decide_23 rfl rfl ?_
    obtain ⟨q3, c4, hf⟩ := bd_some hf
    refine X_invV_i (pc := 24) (c_Be_ofVersion hT c4) ok_Be_ofVersion (ci := 0) (sh_29 hT) k_1152 k_1153 k_1154 nd_21 (by decide) rfl (Nat.le_of_ble_eq_true rfl) dX0_decide_24 ?_
    obtain ⟨c5, hf⟩ := gd_some hf
    refine X_iastj (pc := 27) (j := (x1.toNatClampNeg)) (sh_32 hT) (vp_in_lit (N := 128) c5 (by decide)) rfl dX0_decide_27 ?_
    refine X_goto (pc := 28) 39 dX0_decide_28 (by decide) ?_
    cases hf
    exact X_return (pc := 39) rfl dX0_decide_39
  · replace hf := (if_neg c2).symm.trans hf
    refine X_if_ne_t (pc := 9) 31 dX0_decide_9 (by decide) c2 ?_
    refine X_aload_n (pc := 31) (i := 0) 1 dX0_decide_31 rfl rfl ?_
    refine X_getr (pc := 32) (a := 29) (ci := 0) (j := 4) (c := 33) (sh_29 hT) (by decide) k_340 (rf_29_4 hT) (fun _ h => h) dX0_decide_32 ?_
    refine X_iload (pc := 35) 0 dX0_decide_35 rfl ?_
    refine X_iconst (pc := 37) (1 : Int32) dX0_decide_37 (by decide) ?_
    obtain ⟨c6, hf⟩ := gd_some hf
    refine X_zastj (pc := 38) (j := (x1.toNatClampNeg)) (by decide) (sh_33 hT) (vp_in_lit (N := 128) c6 (by decide)) rfl dX0_decide_38 ?_
    cases hf
    exact X_return (pc := 39) rfl dX0_decide_39
theorem u_Be_decide {S : List xSh} {a0 : Int32} {a1 : Int32} {a2 : Int32} {I : Nat → Nat → Int32} {L : Nat → Nat → Int64} {q : ((Nat → Nat → Int32) × (Nat → Nat → Int64))} (hf : f_Be_decide a0 a1 a2 I L = some q) : FR S [32, 33] [] I q.1 L q.2 := by
  replace hf := (f_Be_decide.eq_1 _ _ _ _ _).symm.trans hf
  obtain ⟨x1, ex1, hf⟩ := bnd_e hf
  by_cases c2 : a2 = (0 : Int32)
  · replace hf := (if_pos c2).symm.trans hf
    obtain ⟨q3, c4, hf⟩ := bd_some hf
    obtain ⟨c5, hf⟩ := gd_some hf
    cases hf
    exact (FR.ai FR.rf (by decide))
  · replace hf := (if_neg c2).symm.trans hf
    obtain ⟨c6, hf⟩ := gd_some hf
    cases hf
    exact (FR.ai FR.rf (by decide))
theorem dX11_settle_0 : decode cX11_settle 0 = .ok (.iload_n 1, 1) := by decide +kernel
theorem dX11_settle_1 : decode cX11_settle 1 = .ok (.iload_n 2, 1) := by decide +kernel
theorem dX11_settle_2 : decode cX11_settle 2 = .ok (.invokestatic 342, 3) := by decide +kernel
theorem dX11_settle_5 : decode cX11_settle 5 = .ok (.ifCond .eq 12, 3) := by decide +kernel
theorem dX11_settle_8 : decode cX11_settle 8 = .ok (.iload_n 3, 1) := by decide +kernel
theorem dX11_settle_9 : decode cX11_settle 9 = .ok (.iconst 0, 1) := by decide +kernel
theorem dX11_settle_10 : decode cX11_settle 10 = .ok (.iconst 1, 1) := by decide +kernel
theorem dX11_settle_11 : decode cX11_settle 11 = .ok (.invokestatic 113, 3) := by decide +kernel
theorem dX11_settle_14 : decode cX11_settle 14 = .ok (.ifCond .ne 5, 3) := by decide +kernel
theorem dX11_settle_17 : decode cX11_settle 17 = .ok (.iconst (-1), 1) := by decide +kernel
theorem dX11_settle_18 : decode cX11_settle 18 = .ok (.ireturn, 1) := by decide +kernel
theorem dX11_settle_19 : decode cX11_settle 19 = .ok (.aload_n 0, 1) := by decide +kernel
theorem dX11_settle_20 : decode cX11_settle 20 = .ok (.getfield 84, 3) := by decide +kernel
theorem dX11_settle_23 : decode cX11_settle 23 = .ok (.iload_n 1, 1) := by decide +kernel
theorem dX11_settle_24 : decode cX11_settle 24 = .ok (.iload_n 2, 1) := by decide +kernel
theorem dX11_settle_25 : decode cX11_settle 25 = .ok (.invokevirtual 349, 3) := by decide +kernel
theorem dX11_settle_28 : decode cX11_settle 28 = .ok (.ifCond .ne 6, 3) := by decide +kernel
theorem dX11_settle_31 : decode cX11_settle 31 = .ok (.bipush (-2), 2) := by decide +kernel
theorem dX11_settle_33 : decode cX11_settle 33 = .ok (.ireturn, 1) := by decide +kernel
theorem dX11_settle_34 : decode cX11_settle 34 = .ok (.aload_n 0, 1) := by decide +kernel
theorem dX11_settle_35 : decode cX11_settle 35 = .ok (.getfield 84, 3) := by decide +kernel
theorem dX11_settle_38 : decode cX11_settle 38 = .ok (.iload_n 1, 1) := by decide +kernel
theorem dX11_settle_39 : decode cX11_settle 39 = .ok (.iload_n 2, 1) := by decide +kernel
theorem dX11_settle_40 : decode cX11_settle 40 = .ok (.iload_n 3, 1) := by decide +kernel
theorem dX11_settle_41 : decode cX11_settle 41 = .ok (.invokevirtual 352, 3) := by decide +kernel
theorem dX11_settle_44 : decode cX11_settle 44 = .ok (.iconst 0, 1) := by decide +kernel
theorem dX11_settle_45 : decode cX11_settle 45 = .ok (.ireturn, 1) := by decide +kernel
def f_H_settle (a0 : Int32) (a1 : Int32) (a2 : Int32) (I : Nat → Nat → Int32) (L : Nat → Nat → Int64) : Option (Int32 × (Nat → Nat → Int32) × (Nat → Nat → Int64)) := (if (f_Be_has a0 a1) = (0 : Int32) then (some ((-1 : Int32), I, L)) else (bnd (f_H_isWithin a2 (0 : Int32) (1 : Int32)) fun x2 => (if x2 = (0 : Int32) then (some ((-1 : Int32), I, L)) else ((f_Be_isConflict a0 a1 I L).bind fun q4 => (if q4 = (0 : Int32) then (some ((-2 : Int32), I, L)) else ((f_Be_decide a0 a1 a2 I L).bind fun q7 => (some ((0 : Int32), q7.1, q7.2))))))))
set_option maxRecDepth 100000 in
set_option maxHeartbeats 4000000 in
theorem c_H_settle {G : xG} {S : List xSh} {Rf : Nat → Nat → Option Nat} (hT : xTH S Rf) {a0 : Int32} {a1 : Int32} {a2 : Int32} {I : Nat → Nat → Int32} {L : Nat → Nat → Int64} {q : (Int32 × (Nat → Nat → Int32) × (Nat → Nat → Int64))} (hf : f_H_settle a0 a1 a2 I L = some q) : CT G 3 m_H_settle [.ref (xP G 0), .int a0, .int a1, .int a2] (S, I, L, Rf) (some (.int q.1), (S, q.2.1, q.2.2, Rf)) := by
  refine CT.of (by decide +kernel) (Nat.le_of_ble_eq_true rfl) ?_
  show X G 3 m_H_settle 0 [(0, .ref (xP G 0)), (1, .int a0), (2, .int a1), (3, .int a2)] [] (S, I, L, Rf) (some (.int q.1), (S, q.2.1, q.2.2, Rf))
  replace hf := (f_H_settle.eq_1 _ _ _ _ _).symm.trans hf
  refine X_iload_n (pc := 0) (i := 1) 1 dX11_settle_0 rfl rfl ?_
  refine X_iload_n (pc := 1) (i := 2) 2 dX11_settle_1 rfl rfl ?_
  refine X_invS_i (pc := 2) (c_Be_has hT rfl) ok_Be_has k_1128 k_1129 nd_25 (by decide) rfl (Nat.le_of_ble_eq_true rfl) dX11_settle_2 ?_
  by_cases c1 : (f_Be_has a0 a1) = (0 : Int32)
  · replace hf := (if_pos c1).symm.trans hf
    refine X_if_eq_t (pc := 5) 17 dX11_settle_5 (by decide) c1 ?_
    refine X_iconst (pc := 17) (-1 : Int32) dX11_settle_17 (by decide) ?_
    cases hf
    exact X_ireturn (pc := 18) rfl dX11_settle_18
  · replace hf := (if_neg c1).symm.trans hf
    refine X_if_eq_f (pc := 5) 17 dX11_settle_5 (by decide) c1 ?_
    refine X_iload_n (pc := 8) (i := 3) 3 dX11_settle_8 rfl rfl ?_
    refine X_iconst (pc := 9) (0 : Int32) dX11_settle_9 (by decide) ?_
    refine X_iconst (pc := 10) (1 : Int32) dX11_settle_10 (by decide) ?_
    refine X_invS_i (pc := 11) (c_H_isWithin hT rfl) ok_H_isWithin k_563 k_564 nd_6 (by decide) rfl (Nat.le_of_ble_eq_true rfl) dX11_settle_11 ?_
    obtain ⟨x2, ex2, hf⟩ := bnd_e hf
    refine X_tope ex2 ?_
    by_cases c3 : x2 = (0 : Int32)
    · replace hf := (if_pos c3).symm.trans hf
      refine X_if_ne_f (pc := 14) 19 dX11_settle_14 (by decide) c3 ?_
      refine X_iconst (pc := 17) (-1 : Int32) dX11_settle_17 (by decide) ?_
      cases hf
      exact X_ireturn (pc := 18) rfl dX11_settle_18
    · replace hf := (if_neg c3).symm.trans hf
      refine X_if_ne_t (pc := 14) 19 dX11_settle_14 (by decide) c3 ?_
      refine X_aload_n (pc := 19) (i := 0) 0 dX11_settle_19 rfl rfl ?_
      refine X_getr (pc := 20) (a := 0) (ci := 10) (j := 15) (c := 29) (sh_0 hT) (by decide) k_509 (rf_0_12 hT) (fun _ h => h) dX11_settle_20 ?_
      refine X_iload_n (pc := 23) (i := 1) 1 dX11_settle_23 rfl rfl ?_
      refine X_iload_n (pc := 24) (i := 2) 2 dX11_settle_24 rfl rfl ?_
      obtain ⟨q4, c5, hf⟩ := bd_some hf
      refine X_invV_i (pc := 25) (c_Be_isConflict hT c5) ok_Be_isConflict (ci := 0) (sh_29 hT) k_1173 k_1149 k_1150 nd_25 (by decide) rfl (Nat.le_of_ble_eq_true rfl) dX11_settle_25 ?_
      by_cases c6 : q4 = (0 : Int32)
      · replace hf := (if_pos c6).symm.trans hf
        refine X_if_ne_f (pc := 28) 34 dX11_settle_28 (by decide) c6 ?_
        refine X_bipush (pc := 31) (-2 : Int32) dX11_settle_31 (by decide) ?_
        cases hf
        exact X_ireturn (pc := 33) rfl dX11_settle_33
      · replace hf := (if_neg c6).symm.trans hf
        refine X_if_ne_t (pc := 28) 34 dX11_settle_28 (by decide) c6 ?_
        refine X_aload_n (pc := 34) (i := 0) 0 dX11_settle_34 rfl rfl ?_
        refine X_getr (pc := 35) (a := 0) (ci := 10) (j := 15) (c := 29) (sh_0 hT) (by decide) k_509 (rf_0_12 hT) (fun _ h => h) dX11_settle_35 ?_
        refine X_iload_n (pc := 38) (i := 1) 1 dX11_settle_38 rfl rfl ?_
        refine X_iload_n (pc := 39) (i := 2) 2 dX11_settle_39 rfl rfl ?_
        refine X_iload_n (pc := 40) (i := 3) 3 dX11_settle_40 rfl rfl ?_
        obtain ⟨q7, c8, hf⟩ := bd_some hf
        refine X_invV_v (pc := 41) (c_Be_decide hT c8) ok_Be_decide (ci := 0) (sh_29 hT) k_1178 k_1179 k_1180 nd_7 (by decide) rfl (Nat.le_of_ble_eq_true rfl) dX11_settle_41 ?_
        refine X_iconst (pc := 44) (0 : Int32) dX11_settle_44 (by decide) ?_
        cases hf
        exact X_ireturn (pc := 45) rfl dX11_settle_45
theorem u_H_settle {S : List xSh} {a0 : Int32} {a1 : Int32} {a2 : Int32} {I : Nat → Nat → Int32} {L : Nat → Nat → Int64} {q : (Int32 × (Nat → Nat → Int32) × (Nat → Nat → Int64))} (hf : f_H_settle a0 a1 a2 I L = some q) : FR S [32, 33] [] I q.2.1 L q.2.2 := by
  replace hf := (f_H_settle.eq_1 _ _ _ _ _).symm.trans hf
  by_cases c1 : (f_Be_has a0 a1) = (0 : Int32)
  · replace hf := (if_pos c1).symm.trans hf
    cases hf
    exact FR.rf
  · replace hf := (if_neg c1).symm.trans hf
    obtain ⟨x2, ex2, hf⟩ := bnd_e hf
    by_cases c3 : x2 = (0 : Int32)
    · replace hf := (if_pos c3).symm.trans hf
      cases hf
      exact FR.rf
    · replace hf := (if_neg c3).symm.trans hf
      obtain ⟨q4, c5, hf⟩ := bd_some hf
      by_cases c6 : q4 = (0 : Int32)
      · replace hf := (if_pos c6).symm.trans hf
        cases hf
        exact FR.rf
      · replace hf := (if_neg c6).symm.trans hf
        obtain ⟨q7, c8, hf⟩ := bd_some hf
        cases hf
        exact (FR.tr FR.rf (u_Be_decide (q := q7) c8) (by decide) (by decide))
theorem dX11_setting_0 : decode cX11_setting 0 = .ok (.iload_n 2, 1) := by decide +kernel
theorem dX11_setting_1 : decode cX11_setting 1 = .ok (.iconst 0, 1) := by decide +kernel
theorem dX11_setting_2 : decode cX11_setting 2 = .ok (.bipush 31, 2) := by decide +kernel
theorem dX11_setting_4 : decode cX11_setting 4 = .ok (.invokestatic 113, 3) := by decide +kernel
theorem dX11_setting_7 : decode cX11_setting 7 = .ok (.ifCond .ne 7, 3) := by decide +kernel
theorem dX11_setting_10 : decode cX11_setting 10 = .ok (.ldc_w 328, 3) := by decide +kernel
theorem dX11_setting_13 : decode cX11_setting 13 = .ok (.ireturn, 1) := by decide +kernel
theorem dX11_setting_14 : decode cX11_setting 14 = .ok (.iload_n 1, 1) := by decide +kernel
theorem dX11_setting_15 : decode cX11_setting 15 = .ok (.iconst 0, 1) := by decide +kernel
theorem dX11_setting_16 : decode cX11_setting 16 = .ok (.aload_n 0, 1) := by decide +kernel
theorem dX11_setting_17 : decode cX11_setting 17 = .ok (.getfield 84, 3) := by decide +kernel
theorem dX11_setting_20 : decode cX11_setting 20 = .ok (.getfield 355, 3) := by decide +kernel
theorem dX11_setting_23 : decode cX11_setting 23 = .ok (.invokestatic 113, 3) := by decide +kernel
theorem dX11_setting_26 : decode cX11_setting 26 = .ok (.ifCond .eq 13, 3) := by decide +kernel
theorem dX11_setting_29 : decode cX11_setting 29 = .ok (.aload_n 0, 1) := by decide +kernel
theorem dX11_setting_30 : decode cX11_setting 30 = .ok (.getfield 84, 3) := by decide +kernel
theorem dX11_setting_33 : decode cX11_setting 33 = .ok (.iload_n 1, 1) := by decide +kernel
theorem dX11_setting_34 : decode cX11_setting 34 = .ok (.iload_n 2, 1) := by decide +kernel
theorem dX11_setting_35 : decode cX11_setting 35 = .ok (.invokevirtual 358, 3) := by decide +kernel
theorem dX11_setting_38 : decode cX11_setting 38 = .ok (.ireturn, 1) := by decide +kernel
theorem dX11_setting_39 : decode cX11_setting 39 = .ok (.iload_n 1, 1) := by decide +kernel
theorem dX11_setting_40 : decode cX11_setting 40 = .ok (.bipush (-4), 2) := by decide +kernel
theorem dX11_setting_42 : decode cX11_setting 42 = .ok (.iconst (-1), 1) := by decide +kernel
theorem dX11_setting_43 : decode cX11_setting 43 = .ok (.invokestatic 113, 3) := by decide +kernel
theorem dX11_setting_46 : decode cX11_setting 46 = .ok (.ifCond .eq 17, 3) := by decide +kernel
theorem dX11_setting_49 : decode cX11_setting 49 = .ok (.aload_n 0, 1) := by decide +kernel
theorem dX11_setting_50 : decode cX11_setting 50 = .ok (.getfield 84, 3) := by decide +kernel
theorem dX11_setting_53 : decode cX11_setting 53 = .ok (.iconst (-1), 1) := by decide +kernel
theorem dX11_setting_54 : decode cX11_setting 54 = .ok (.iload_n 1, 1) := by decide +kernel
theorem dX11_setting_55 : decode cX11_setting 55 = .ok (.isub, 1) := by decide +kernel
theorem dX11_setting_56 : decode cX11_setting 56 = .ok (.iload_n 2, 1) := by decide +kernel
theorem dX11_setting_57 : decode cX11_setting 57 = .ok (.invokevirtual 361, 3) := by decide +kernel
theorem dX11_setting_60 : decode cX11_setting 60 = .ok (.goto 6, 3) := by decide +kernel
theorem dX11_setting_63 : decode cX11_setting 63 = .ok (.ldc_w 328, 3) := by decide +kernel
theorem dX11_setting_66 : decode cX11_setting 66 = .ok (.ireturn, 1) := by decide +kernel
def f_H_setting (a0 : Int32) (a1 : Int32) (I : Nat → Nat → Int32) (L : Nat → Nat → Int64) : Option Int32 := (bnd (f_H_isWithin a1 (0 : Int32) (31 : Int32)) fun x1 => (if x1 = (0 : Int32) then (some (-9999999 : Int32)) else (if (f_H_isWithin a0 (0 : Int32) (I 29 0)) = (0 : Int32) then (bnd (f_H_isWithin a0 (-4 : Int32) (-1 : Int32)) fun x4 => (if x4 = (0 : Int32) then (some (-9999999 : Int32)) else ((f_Be_ofCopy ((-1 : Int32) - a0) a1 I L).bind fun q6 => (some q6)))) else ((f_Be_ofVersion a0 a1 I L).bind fun q8 => (some q8)))))
set_option maxRecDepth 100000 in
set_option maxHeartbeats 4000000 in
theorem c_H_setting {G : xG} {S : List xSh} {Rf : Nat → Nat → Option Nat} (hT : xTH S Rf) {a0 : Int32} {a1 : Int32} {I : Nat → Nat → Int32} {L : Nat → Nat → Int64} {q : Int32} (hf : f_H_setting a0 a1 I L = some q) : CT G 2 m_H_setting [.ref (xP G 0), .int a0, .int a1] (S, I, L, Rf) (some (.int q), (S, I, L, Rf)) := by
  refine CT.of (by decide +kernel) (Nat.le_of_ble_eq_true rfl) ?_
  show X G 2 m_H_setting 0 [(0, .ref (xP G 0)), (1, .int a0), (2, .int a1)] [] (S, I, L, Rf) (some (.int q), (S, I, L, Rf))
  replace hf := (f_H_setting.eq_1 _ _ _ _).symm.trans hf
  refine X_iload_n (pc := 0) (i := 2) 2 dX11_setting_0 rfl rfl ?_
  refine X_iconst (pc := 1) (0 : Int32) dX11_setting_1 (by decide) ?_
  refine X_bipush (pc := 2) (31 : Int32) dX11_setting_2 (by decide) ?_
  refine X_invS_i (pc := 4) (c_H_isWithin hT rfl) ok_H_isWithin k_563 k_564 nd_6 (by decide) rfl (Nat.le_of_ble_eq_true rfl) dX11_setting_4 ?_
  obtain ⟨x1, ex1, hf⟩ := bnd_e hf
  refine X_tope ex1 ?_
  by_cases c2 : x1 = (0 : Int32)
  · replace hf := (if_pos c2).symm.trans hf
    refine X_if_ne_f (pc := 7) 14 dX11_setting_7 (by decide) c2 ?_
    refine X_ldcw (pc := 10) (-9999999 : Int32) k_1075 dX11_setting_10 ?_
    cases hf
    exact X_ireturn (pc := 13) rfl dX11_setting_13
  · replace hf := (if_neg c2).symm.trans hf
    refine X_if_ne_t (pc := 7) 14 dX11_setting_7 (by decide) c2 ?_
    refine X_iload_n (pc := 14) (i := 1) 1 dX11_setting_14 rfl rfl ?_
    refine X_iconst (pc := 15) (0 : Int32) dX11_setting_15 (by decide) ?_
    refine X_aload_n (pc := 16) (i := 0) 0 dX11_setting_16 rfl rfl ?_
    refine X_getr (pc := 17) (a := 0) (ci := 10) (j := 15) (c := 29) (sh_0 hT) (by decide) k_509 (rf_0_12 hT) (fun _ h => h) dX11_setting_17 ?_
    refine X_get (pc := 20) (a := 29) (ci := 0) (j := 0) (.int (I 29 0)) (sh_29 hT) (by decide) k_335 rfl dX11_setting_20 ?_
    refine X_invS_i (pc := 23) (c_H_isWithin hT rfl) ok_H_isWithin k_563 k_564 nd_6 (by decide) rfl (Nat.le_of_ble_eq_true rfl) dX11_setting_23 ?_
    by_cases c3 : (f_H_isWithin a0 (0 : Int32) (I 29 0)) = (0 : Int32)
    · replace hf := (if_pos c3).symm.trans hf
      refine X_if_eq_t (pc := 26) 39 dX11_setting_26 (by decide) c3 ?_
      refine X_iload_n (pc := 39) (i := 1) 1 dX11_setting_39 rfl rfl ?_
      refine X_bipush (pc := 40) (-4 : Int32) dX11_setting_40 (by decide) ?_
      refine X_iconst (pc := 42) (-1 : Int32) dX11_setting_42 (by decide) ?_
      refine X_invS_i (pc := 43) (c_H_isWithin hT rfl) ok_H_isWithin k_563 k_564 nd_6 (by decide) rfl (Nat.le_of_ble_eq_true rfl) dX11_setting_43 ?_
      obtain ⟨x4, ex4, hf⟩ := bnd_e hf
      refine X_tope ex4 ?_
      by_cases c5 : x4 = (0 : Int32)
      · replace hf := (if_pos c5).symm.trans hf
        refine X_if_eq_t (pc := 46) 63 dX11_setting_46 (by decide) c5 ?_
        refine X_ldcw (pc := 63) (-9999999 : Int32) k_1075 dX11_setting_63 ?_
        cases hf
        exact X_ireturn (pc := 66) rfl dX11_setting_66
      · replace hf := (if_neg c5).symm.trans hf
        refine X_if_eq_f (pc := 46) 63 dX11_setting_46 (by decide) c5 ?_
        refine X_aload_n (pc := 49) (i := 0) 0 dX11_setting_49 rfl rfl ?_
        refine X_getr (pc := 50) (a := 0) (ci := 10) (j := 15) (c := 29) (sh_0 hT) (by decide) k_509 (rf_0_12 hT) (fun _ h => h) dX11_setting_50 ?_
        refine X_iconst (pc := 53) (-1 : Int32) dX11_setting_53 (by decide) ?_
        refine X_iload_n (pc := 54) (i := 1) 1 dX11_setting_54 rfl rfl ?_
        refine X_isub (pc := 55) dX11_setting_55 ?_
        refine X_iload_n (pc := 56) (i := 2) 2 dX11_setting_56 rfl rfl ?_
        obtain ⟨q6, c7, hf⟩ := bd_some hf
        refine X_invV_i (pc := 57) (c_Be_ofCopy hT c7) ok_Be_ofCopy (ci := 0) (sh_29 hT) k_1187 k_1157 k_1158 nd_21 (by decide) rfl (Nat.le_of_ble_eq_true rfl) dX11_setting_57 ?_
        refine X_goto (pc := 60) 66 dX11_setting_60 (by decide) ?_
        cases hf
        exact X_ireturn (pc := 66) rfl dX11_setting_66
    · replace hf := (if_neg c3).symm.trans hf
      refine X_if_eq_f (pc := 26) 39 dX11_setting_26 (by decide) c3 ?_
      refine X_aload_n (pc := 29) (i := 0) 0 dX11_setting_29 rfl rfl ?_
      refine X_getr (pc := 30) (a := 0) (ci := 10) (j := 15) (c := 29) (sh_0 hT) (by decide) k_509 (rf_0_12 hT) (fun _ h => h) dX11_setting_30 ?_
      refine X_iload_n (pc := 33) (i := 1) 1 dX11_setting_33 rfl rfl ?_
      refine X_iload_n (pc := 34) (i := 2) 2 dX11_setting_34 rfl rfl ?_
      obtain ⟨q8, c9, hf⟩ := bd_some hf
      refine X_invV_i (pc := 35) (c_Be_ofVersion hT c9) ok_Be_ofVersion (ci := 0) (sh_29 hT) k_1186 k_1153 k_1154 nd_21 (by decide) rfl (Nat.le_of_ble_eq_true rfl) dX11_setting_35 ?_
      cases hf
      exact X_ireturn (pc := 38) rfl dX11_setting_38
theorem dX11_version_0 : decode cX11_version 0 = .ok (.iload_n 1, 1) := by decide +kernel
theorem dX11_version_1 : decode cX11_version 1 = .ok (.ifCond .ne 11, 3) := by decide +kernel
theorem dX11_version_4 : decode cX11_version 4 = .ok (.aload_n 0, 1) := by decide +kernel
theorem dX11_version_5 : decode cX11_version 5 = .ok (.getfield 84, 3) := by decide +kernel
theorem dX11_version_8 : decode cX11_version 8 = .ok (.getfield 355, 3) := by decide +kernel
theorem dX11_version_11 : decode cX11_version 11 = .ok (.ireturn, 1) := by decide +kernel
theorem dX11_version_12 : decode cX11_version 12 = .ok (.iload_n 1, 1) := by decide +kernel
theorem dX11_version_13 : decode cX11_version 13 = .ok (.iconst 1, 1) := by decide +kernel
theorem dX11_version_14 : decode cX11_version 14 = .ok (.iconst 4, 1) := by decide +kernel
theorem dX11_version_15 : decode cX11_version 15 = .ok (.invokestatic 113, 3) := by decide +kernel
theorem dX11_version_18 : decode cX11_version 18 = .ok (.ifCond .eq 17, 3) := by decide +kernel
theorem dX11_version_21 : decode cX11_version 21 = .ok (.aload_n 0, 1) := by decide +kernel
theorem dX11_version_22 : decode cX11_version 22 = .ok (.getfield 84, 3) := by decide +kernel
theorem dX11_version_25 : decode cX11_version 25 = .ok (.getfield 364, 3) := by decide +kernel
theorem dX11_version_28 : decode cX11_version 28 = .ok (.iload_n 1, 1) := by decide +kernel
theorem dX11_version_29 : decode cX11_version 29 = .ok (.iconst 1, 1) := by decide +kernel
theorem dX11_version_30 : decode cX11_version 30 = .ok (.isub, 1) := by decide +kernel
theorem dX11_version_31 : decode cX11_version 31 = .ok (.iaload, 1) := by decide +kernel
theorem dX11_version_32 : decode cX11_version 32 = .ok (.goto 4, 3) := by decide +kernel
theorem dX11_version_35 : decode cX11_version 35 = .ok (.iconst (-1), 1) := by decide +kernel
theorem dX11_version_36 : decode cX11_version 36 = .ok (.ireturn, 1) := by decide +kernel
def f_H_version (a0 : Int32) (I : Nat → Nat → Int32) (L : Nat → Nat → Int64) : Option Int32 := (if a0 = (0 : Int32) then (some (I 29 0)) else (bnd (f_H_isWithin a0 (1 : Int32) (4 : Int32)) fun x2 => (if x2 = (0 : Int32) then (some (-1 : Int32)) else (if (0 ≤ (a0 - (1 : Int32)) ∧ (a0 - (1 : Int32)) < (4 : Int32)) then (some (I 30 ((a0 - (1 : Int32)).toNatClampNeg))) else none))))
set_option maxRecDepth 100000 in
set_option maxHeartbeats 4000000 in
theorem c_H_version {G : xG} {S : List xSh} {Rf : Nat → Nat → Option Nat} (hT : xTH S Rf) {a0 : Int32} {I : Nat → Nat → Int32} {L : Nat → Nat → Int64} {q : Int32} (hf : f_H_version a0 I L = some q) : CT G 2 m_H_version [.ref (xP G 0), .int a0] (S, I, L, Rf) (some (.int q), (S, I, L, Rf)) := by
  refine CT.of (by decide +kernel) (Nat.le_of_ble_eq_true rfl) ?_
  show X G 2 m_H_version 0 [(0, .ref (xP G 0)), (1, .int a0)] [] (S, I, L, Rf) (some (.int q), (S, I, L, Rf))
  replace hf := (f_H_version.eq_1 _ _ _).symm.trans hf
  refine X_iload_n (pc := 0) (i := 1) 1 dX11_version_0 rfl rfl ?_
  by_cases c1 : a0 = (0 : Int32)
  · replace hf := (if_pos c1).symm.trans hf
    refine X_if_ne_f (pc := 1) 12 dX11_version_1 (by decide) c1 ?_
    refine X_aload_n (pc := 4) (i := 0) 0 dX11_version_4 rfl rfl ?_
    refine X_getr (pc := 5) (a := 0) (ci := 10) (j := 15) (c := 29) (sh_0 hT) (by decide) k_509 (rf_0_12 hT) (fun _ h => h) dX11_version_5 ?_
    refine X_get (pc := 8) (a := 29) (ci := 0) (j := 0) (.int (I 29 0)) (sh_29 hT) (by decide) k_335 rfl dX11_version_8 ?_
    cases hf
    exact X_ireturn (pc := 11) rfl dX11_version_11
  · replace hf := (if_neg c1).symm.trans hf
    refine X_if_ne_t (pc := 1) 12 dX11_version_1 (by decide) c1 ?_
    refine X_iload_n (pc := 12) (i := 1) 1 dX11_version_12 rfl rfl ?_
    refine X_iconst (pc := 13) (1 : Int32) dX11_version_13 (by decide) ?_
    refine X_iconst (pc := 14) (4 : Int32) dX11_version_14 (by decide) ?_
    refine X_invS_i (pc := 15) (c_H_isWithin hT rfl) ok_H_isWithin k_563 k_564 nd_6 (by decide) rfl (Nat.le_of_ble_eq_true rfl) dX11_version_15 ?_
    obtain ⟨x2, ex2, hf⟩ := bnd_e hf
    refine X_tope ex2 ?_
    by_cases c3 : x2 = (0 : Int32)
    · replace hf := (if_pos c3).symm.trans hf
      refine X_if_eq_t (pc := 18) 35 dX11_version_18 (by decide) c3 ?_
      refine X_iconst (pc := 35) (-1 : Int32) dX11_version_35 (by decide) ?_
      cases hf
      exact X_ireturn (pc := 36) rfl dX11_version_36
    · replace hf := (if_neg c3).symm.trans hf
      refine X_if_eq_f (pc := 18) 35 dX11_version_18 (by decide) c3 ?_
      refine X_aload_n (pc := 21) (i := 0) 0 dX11_version_21 rfl rfl ?_
      refine X_getr (pc := 22) (a := 0) (ci := 10) (j := 15) (c := 29) (sh_0 hT) (by decide) k_509 (rf_0_12 hT) (fun _ h => h) dX11_version_22 ?_
      refine X_getr (pc := 25) (a := 29) (ci := 0) (j := 1) (c := 30) (sh_29 hT) (by decide) k_337 (rf_29_1 hT) (fun _ h => h) dX11_version_25 ?_
      refine X_iload_n (pc := 28) (i := 1) 1 dX11_version_28 rfl rfl ?_
      refine X_iconst (pc := 29) (1 : Int32) dX11_version_29 (by decide) ?_
      refine X_isub (pc := 30) dX11_version_30 ?_
      obtain ⟨c4, hf⟩ := gd_some hf
      refine X_ialdj (pc := 31) (j := (a0 - (1 : Int32)).toNatClampNeg) (I 30 ((a0 - (1 : Int32)).toNatClampNeg)) (sh_30 hT) (vp_in_lit (N := 4) c4 (by decide)) rfl rfl dX11_version_31 ?_
      refine X_goto (pc := 32) 36 dX11_version_32 (by decide) ?_
      cases hf
      exact X_ireturn (pc := 36) rfl dX11_version_36
theorem dX11_never_0 : decode cX11_never 0 = .ok (.iload_n 1, 1) := by decide +kernel
theorem dX11_never_1 : decode cX11_never 1 = .ok (.iconst 0, 1) := by decide +kernel
theorem dX11_never_2 : decode cX11_never 2 = .ok (.iconst 4, 1) := by decide +kernel
theorem dX11_never_3 : decode cX11_never 3 = .ok (.invokestatic 113, 3) := by decide +kernel
theorem dX11_never_6 : decode cX11_never 6 = .ok (.ifCond .eq 7, 3) := by decide +kernel
theorem dX11_never_9 : decode cX11_never 9 = .ok (.iconst 0, 1) := by decide +kernel
theorem dX11_never_10 : decode cX11_never 10 = .ok (.goto 4, 3) := by decide +kernel
theorem dX11_never_13 : decode cX11_never 13 = .ok (.iconst (-1), 1) := by decide +kernel
theorem dX11_never_14 : decode cX11_never 14 = .ok (.ireturn, 1) := by decide +kernel
def f_H_never (a0 : Int32) : Int32 := (bnd (f_H_isWithin a0 (0 : Int32) (4 : Int32)) fun x1 => (if x1 = (0 : Int32) then (-1 : Int32) else (0 : Int32)))
set_option maxRecDepth 100000 in
set_option maxHeartbeats 4000000 in
theorem c_H_never {G : xG} {S : List xSh} {Rf : Nat → Nat → Option Nat} (hT : xTH S Rf) {a0 : Int32} {I : Nat → Nat → Int32} {L : Nat → Nat → Int64} {q : Int32} (hf : f_H_never a0 = q) : CT G 2 m_H_never [.ref (xP G 0), .int a0] (S, I, L, Rf) (some (.int q), (S, I, L, Rf)) := by
  refine CT.of (by decide +kernel) (Nat.le_of_ble_eq_true rfl) ?_
  show X G 2 m_H_never 0 [(0, .ref (xP G 0)), (1, .int a0)] [] (S, I, L, Rf) (some (.int q), (S, I, L, Rf))
  replace hf := (f_H_never.eq_1 _).symm.trans hf
  refine X_iload_n (pc := 0) (i := 1) 1 dX11_never_0 rfl rfl ?_
  refine X_iconst (pc := 1) (0 : Int32) dX11_never_1 (by decide) ?_
  refine X_iconst (pc := 2) (4 : Int32) dX11_never_2 (by decide) ?_
  refine X_invS_i (pc := 3) (c_H_isWithin hT rfl) ok_H_isWithin k_563 k_564 nd_6 (by decide) rfl (Nat.le_of_ble_eq_true rfl) dX11_never_3 ?_
  obtain ⟨x1, ex1, hf⟩ := bnd_e hf
  refine X_tope ex1 ?_
  by_cases c2 : x1 = (0 : Int32)
  · replace hf := (if_pos c2).symm.trans hf
    refine X_if_eq_t (pc := 6) 13 dX11_never_6 (by decide) c2 ?_
    refine X_iconst (pc := 13) (-1 : Int32) dX11_never_13 (by decide) ?_
    subst hf
    exact X_ireturn (pc := 14) rfl dX11_never_14
  · replace hf := (if_neg c2).symm.trans hf
    refine X_if_eq_f (pc := 6) 13 dX11_never_6 (by decide) c2 ?_
    refine X_iconst (pc := 9) (0 : Int32) dX11_never_9 (by decide) ?_
    refine X_goto (pc := 10) 14 dX11_never_10 (by decide) ?_
    subst hf
    exact X_ireturn (pc := 14) rfl dX11_never_14
theorem dX12_daysBefore_0 : decode cX12_daysBefore 0 = .ok (.iload_n 0, 1) := by decide +kernel
theorem dX12_daysBefore_1 : decode cX12_daysBefore 1 = .ok (.iconst 1, 1) := by decide +kernel
theorem dX12_daysBefore_2 : decode cX12_daysBefore 2 = .ok (.isub, 1) := by decide +kernel
theorem dX12_daysBefore_3 : decode cX12_daysBefore 3 = .ok (.istore_n 1, 1) := by decide +kernel
theorem dX12_daysBefore_4 : decode cX12_daysBefore 4 = .ok (.sipush 365, 3) := by decide +kernel
theorem dX12_daysBefore_7 : decode cX12_daysBefore 7 = .ok (.iload_n 1, 1) := by decide +kernel
theorem dX12_daysBefore_8 : decode cX12_daysBefore 8 = .ok (.imul, 1) := by decide +kernel
theorem dX12_daysBefore_9 : decode cX12_daysBefore 9 = .ok (.iload_n 1, 1) := by decide +kernel
theorem dX12_daysBefore_10 : decode cX12_daysBefore 10 = .ok (.iconst 4, 1) := by decide +kernel
theorem dX12_daysBefore_11 : decode cX12_daysBefore 11 = .ok (.idiv, 1) := by decide +kernel
theorem dX12_daysBefore_12 : decode cX12_daysBefore 12 = .ok (.iadd, 1) := by decide +kernel
theorem dX12_daysBefore_13 : decode cX12_daysBefore 13 = .ok (.iload_n 1, 1) := by decide +kernel
theorem dX12_daysBefore_14 : decode cX12_daysBefore 14 = .ok (.bipush 100, 2) := by decide +kernel
theorem dX12_daysBefore_16 : decode cX12_daysBefore 16 = .ok (.idiv, 1) := by decide +kernel
theorem dX12_daysBefore_17 : decode cX12_daysBefore 17 = .ok (.isub, 1) := by decide +kernel
theorem dX12_daysBefore_18 : decode cX12_daysBefore 18 = .ok (.iload_n 1, 1) := by decide +kernel
theorem dX12_daysBefore_19 : decode cX12_daysBefore 19 = .ok (.sipush 400, 3) := by decide +kernel
theorem dX12_daysBefore_22 : decode cX12_daysBefore 22 = .ok (.idiv, 1) := by decide +kernel
theorem dX12_daysBefore_23 : decode cX12_daysBefore 23 = .ok (.iadd, 1) := by decide +kernel
theorem dX12_daysBefore_24 : decode cX12_daysBefore 24 = .ok (.ireturn, 1) := by decide +kernel
def f_Md_daysBefore (a0 : Int32) : Int32 := (bnd (a0 - (1 : Int32)) fun x1 => (bnd (((((365 : Int32) * x1) + (x1 / (4 : Int32))) - (x1 / (100 : Int32))) + (x1 / (400 : Int32))) fun x2 => x2))
set_option maxRecDepth 100000 in
set_option maxHeartbeats 4000000 in
theorem c_Md_daysBefore {G : xG} {S : List xSh} {Rf : Nat → Nat → Option Nat} (hT : xTM S Rf) {a0 : Int32} {I : Nat → Nat → Int32} {L : Nat → Nat → Int64} {q : Int32} (hf : f_Md_daysBefore a0 = q) : CT G 1 m_Md_daysBefore [.int a0] (S, I, L, Rf) (some (.int q), (S, I, L, Rf)) := by
  refine CT.of (by decide +kernel) (Nat.le_of_ble_eq_true rfl) ?_
  show X G 1 m_Md_daysBefore 0 [(0, .int a0)] [] (S, I, L, Rf) (some (.int q), (S, I, L, Rf))
  replace hf := (f_Md_daysBefore.eq_1 _).symm.trans hf
  refine X_iload_n (pc := 0) (i := 0) 0 dX12_daysBefore_0 rfl rfl ?_
  refine X_iconst (pc := 1) (1 : Int32) dX12_daysBefore_1 (by decide) ?_
  refine X_isub (pc := 2) dX12_daysBefore_2 ?_
  obtain ⟨x1, ex1, hf⟩ := bnd_e hf
  refine X_tope ex1 ?_
  refine X_istore_n (pc := 3) (i := 1) [(1, .int x1), (0, .int a0)] dX12_daysBefore_3 rfl (by decide) rfl ?_
  refine X_sipush (pc := 4) (365 : Int32) dX12_daysBefore_4 (by decide) ?_
  refine X_iload_n (pc := 7) (i := 1) 0 dX12_daysBefore_7 rfl rfl ?_
  refine X_imul (pc := 8) dX12_daysBefore_8 ?_
  refine X_iload_n (pc := 9) (i := 1) 0 dX12_daysBefore_9 rfl rfl ?_
  refine X_iconst (pc := 10) (4 : Int32) dX12_daysBefore_10 (by decide) ?_
  refine X_idiv (pc := 11) dX12_daysBefore_11 (by decide) ?_
  refine X_iadd (pc := 12) dX12_daysBefore_12 ?_
  refine X_iload_n (pc := 13) (i := 1) 0 dX12_daysBefore_13 rfl rfl ?_
  refine X_bipush (pc := 14) (100 : Int32) dX12_daysBefore_14 (by decide) ?_
  refine X_idiv (pc := 16) dX12_daysBefore_16 (by decide) ?_
  refine X_isub (pc := 17) dX12_daysBefore_17 ?_
  refine X_iload_n (pc := 18) (i := 1) 0 dX12_daysBefore_18 rfl rfl ?_
  refine X_sipush (pc := 19) (400 : Int32) dX12_daysBefore_19 (by decide) ?_
  refine X_idiv (pc := 22) dX12_daysBefore_22 (by decide) ?_
  refine X_iadd (pc := 23) dX12_daysBefore_23 ?_
  obtain ⟨x2, ex2, hf⟩ := bnd_e hf
  refine X_tope ex2 ?_
  subst hf
  exact X_ireturn (pc := 24) rfl dX12_daysBefore_24
theorem dX12_isLeap_0 : decode cX12_isLeap 0 = .ok (.iload_n 0, 1) := by decide +kernel
theorem dX12_isLeap_1 : decode cX12_isLeap 1 = .ok (.iconst 4, 1) := by decide +kernel
theorem dX12_isLeap_2 : decode cX12_isLeap 2 = .ok (.irem, 1) := by decide +kernel
theorem dX12_isLeap_3 : decode cX12_isLeap 3 = .ok (.ifCond .ne 22, 3) := by decide +kernel
theorem dX12_isLeap_6 : decode cX12_isLeap 6 = .ok (.iload_n 0, 1) := by decide +kernel
theorem dX12_isLeap_7 : decode cX12_isLeap 7 = .ok (.bipush 100, 2) := by decide +kernel
theorem dX12_isLeap_9 : decode cX12_isLeap 9 = .ok (.irem, 1) := by decide +kernel
theorem dX12_isLeap_10 : decode cX12_isLeap 10 = .ok (.ifCond .ne 11, 3) := by decide +kernel
theorem dX12_isLeap_13 : decode cX12_isLeap 13 = .ok (.iload_n 0, 1) := by decide +kernel
theorem dX12_isLeap_14 : decode cX12_isLeap 14 = .ok (.sipush 400, 3) := by decide +kernel
theorem dX12_isLeap_17 : decode cX12_isLeap 17 = .ok (.irem, 1) := by decide +kernel
theorem dX12_isLeap_18 : decode cX12_isLeap 18 = .ok (.ifCond .ne 7, 3) := by decide +kernel
theorem dX12_isLeap_21 : decode cX12_isLeap 21 = .ok (.iconst 1, 1) := by decide +kernel
theorem dX12_isLeap_22 : decode cX12_isLeap 22 = .ok (.goto 4, 3) := by decide +kernel
theorem dX12_isLeap_25 : decode cX12_isLeap 25 = .ok (.iconst 0, 1) := by decide +kernel
theorem dX12_isLeap_26 : decode cX12_isLeap 26 = .ok (.ireturn, 1) := by decide +kernel
def f_Md_isLeap (a0 : Int32) : Int32 := (if (irem a0 (4 : Int32)) = (0 : Int32) then (if (irem a0 (100 : Int32)) = (0 : Int32) then (if (irem a0 (400 : Int32)) = (0 : Int32) then (1 : Int32) else (0 : Int32)) else (1 : Int32)) else (0 : Int32))
set_option maxRecDepth 100000 in
set_option maxHeartbeats 4000000 in
theorem c_Md_isLeap {G : xG} {S : List xSh} {Rf : Nat → Nat → Option Nat} (hT : xTM S Rf) {a0 : Int32} {I : Nat → Nat → Int32} {L : Nat → Nat → Int64} {q : Int32} (hf : f_Md_isLeap a0 = q) : CT G 1 m_Md_isLeap [.int a0] (S, I, L, Rf) (some (.int q), (S, I, L, Rf)) := by
  refine CT.of (by decide +kernel) (Nat.le_of_ble_eq_true rfl) ?_
  show X G 1 m_Md_isLeap 0 [(0, .int a0)] [] (S, I, L, Rf) (some (.int q), (S, I, L, Rf))
  replace hf := (f_Md_isLeap.eq_1 _).symm.trans hf
  refine X_iload_n (pc := 0) (i := 0) 0 dX12_isLeap_0 rfl rfl ?_
  refine X_iconst (pc := 1) (4 : Int32) dX12_isLeap_1 (by decide) ?_
  refine X_irem (pc := 2) dX12_isLeap_2 (by decide) ?_
  by_cases c1 : (irem a0 (4 : Int32)) = (0 : Int32)
  · replace hf := (if_pos c1).symm.trans hf
    refine X_if_ne_f (pc := 3) 25 dX12_isLeap_3 (by decide) c1 ?_
    refine X_iload_n (pc := 6) (i := 0) 0 dX12_isLeap_6 rfl rfl ?_
    refine X_bipush (pc := 7) (100 : Int32) dX12_isLeap_7 (by decide) ?_
    refine X_irem (pc := 9) dX12_isLeap_9 (by decide) ?_
    by_cases c2 : (irem a0 (100 : Int32)) = (0 : Int32)
    · replace hf := (if_pos c2).symm.trans hf
      refine X_if_ne_f (pc := 10) 21 dX12_isLeap_10 (by decide) c2 ?_
      refine X_iload_n (pc := 13) (i := 0) 0 dX12_isLeap_13 rfl rfl ?_
      refine X_sipush (pc := 14) (400 : Int32) dX12_isLeap_14 (by decide) ?_
      refine X_irem (pc := 17) dX12_isLeap_17 (by decide) ?_
      by_cases c3 : (irem a0 (400 : Int32)) = (0 : Int32)
      · replace hf := (if_pos c3).symm.trans hf
        refine X_if_ne_f (pc := 18) 25 dX12_isLeap_18 (by decide) c3 ?_
        refine X_iconst (pc := 21) (1 : Int32) dX12_isLeap_21 (by decide) ?_
        refine X_goto (pc := 22) 26 dX12_isLeap_22 (by decide) ?_
        subst hf
        exact X_zreturn (pc := 26) rfl (nar_b (by decide)) dX12_isLeap_26
      · replace hf := (if_neg c3).symm.trans hf
        refine X_if_ne_t (pc := 18) 25 dX12_isLeap_18 (by decide) c3 ?_
        refine X_iconst (pc := 25) (0 : Int32) dX12_isLeap_25 (by decide) ?_
        subst hf
        exact X_zreturn (pc := 26) rfl (nar_b (by decide)) dX12_isLeap_26
    · replace hf := (if_neg c2).symm.trans hf
      refine X_if_ne_t (pc := 10) 21 dX12_isLeap_10 (by decide) c2 ?_
      refine X_iconst (pc := 21) (1 : Int32) dX12_isLeap_21 (by decide) ?_
      refine X_goto (pc := 22) 26 dX12_isLeap_22 (by decide) ?_
      subst hf
      exact X_zreturn (pc := 26) rfl (nar_b (by decide)) dX12_isLeap_26
  · replace hf := (if_neg c1).symm.trans hf
    refine X_if_ne_t (pc := 3) 25 dX12_isLeap_3 (by decide) c1 ?_
    refine X_iconst (pc := 25) (0 : Int32) dX12_isLeap_25 (by decide) ?_
    subst hf
    exact X_zreturn (pc := 26) rfl (nar_b (by decide)) dX12_isLeap_26

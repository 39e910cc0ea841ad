theorem dX11_ways_0 : decode cX11_ways 0 = .ok (.aload_n 0, 1) := by decide +kernel
theorem dX11_ways_1 : decode cX11_ways 1 = .ok (.getfield 73, 3) := by decide +kernel
theorem dX11_ways_4 : decode cX11_ways 4 = .ok (.iload_n 1, 1) := by decide +kernel
theorem dX11_ways_5 : decode cX11_ways 5 = .ok (.iload_n 2, 1) := by decide +kernel
theorem dX11_ways_6 : decode cX11_ways 6 = .ok (.invokevirtual 329, 3) := by decide +kernel
theorem dX11_ways_9 : decode cX11_ways 9 = .ok (.lreturn, 1) := by decide +kernel
def f_H_ways (a0 : Int32) (a1 : Int32) (I : Nat → Nat → Int32) (L : Nat → Nat → Int64) : Option (Int64 × (Nat → Nat → Int32) × (Nat → Nat → Int64)) := ((f_Ch_countWays a0 a1 I L).bind fun q1 => (some (q1.1, q1.2.1, q1.2.2)))
set_option maxRecDepth 100000 in
set_option maxHeartbeats 4000000 in
theorem c_H_ways {G : xG} {S : List xSh} {Rf : Nat → Nat → Option Nat} (hT : xTH S Rf) {a0 : Int32} {a1 : Int32} {I : Nat → Nat → Int32} {L : Nat → Nat → Int64} {q : (Int64 × (Nat → Nat → Int32) × (Nat → Nat → Int64))} (hf : f_H_ways a0 a1 I L = some q) : CT G 3 m_H_ways [.ref (xP G 0), .int a0, .int a1] (S, I, L, Rf) (some (.long q.1), (S, q.2.1, q.2.2, Rf)) := by
  refine CT.of (by decide +kernel) (Nat.le_of_ble_eq_true rfl) ?_
  show X G 3 m_H_ways 0 [(0, .ref (xP G 0)), (1, .int a0), (2, .int a1)] [] (S, I, L, Rf) (some (.long q.1), (S, q.2.1, q.2.2, Rf))
  replace hf := (f_H_ways.eq_1 _ _ _ _).symm.trans hf
  refine X_aload_n (pc := 0) (i := 0) 0 dX11_ways_0 rfl rfl ?_
  refine X_getr (pc := 1) (a := 0) (ci := 10) (j := 13) (c := 22) (sh_0 hT) (by decide) k_507 (rf_0_10 hT) (fun _ h => h) dX11_ways_1 ?_
  refine X_iload_n (pc := 4) (i := 1) 1 dX11_ways_4 rfl rfl ?_
  refine X_iload_n (pc := 5) (i := 2) 2 dX11_ways_5 rfl rfl ?_
  obtain ⟨q1, c2, hf⟩ := bd_some hf
  refine X_invV_l (pc := 6) (c_Ch_countWays hT c2) ok_Ch_countWays (ci := 2) (sh_22 hT) k_1080 k_1081 k_1082 nd_32 (by decide) rfl (Nat.le_of_ble_eq_true rfl) dX11_ways_6 ?_
  cases hf
  exact X_lreturn (pc := 9) rfl dX11_ways_9
theorem u_H_ways {S : List xSh} {a0 : Int32} {a1 : Int32} {I : Nat → Nat → Int32} {L : Nat → Nat → Int64} {q : (Int64 × (Nat → Nat → Int32) × (Nat → Nat → Int64))} (hf : f_H_ways a0 a1 I L = some q) : FR S [] [27] I q.2.1 L q.2.2 := by
  replace hf := (f_H_ways.eq_1 _ _ _ _).symm.trans hf
  obtain ⟨q1, c2, hf⟩ := bd_some hf
  cases hf
  exact (FR.tr FR.rf (u_Ch_countWays (q := q1) c2) (by decide) (by decide))
theorem dX11_rate_0 : decode cX11_rate 0 = .ok (.iload_n 1, 1) := by decide +kernel
theorem dX11_rate_1 : decode cX11_rate 1 = .ok (.iconst 1, 1) := by decide +kernel
theorem dX11_rate_2 : decode cX11_rate 2 = .ok (.bipush 15, 2) := by decide +kernel
theorem dX11_rate_4 : decode cX11_rate 4 = .ok (.invokestatic 113, 3) := by decide +kernel
theorem dX11_rate_7 : decode cX11_rate 7 = .ok (.ifCond .eq 16, 3) := by decide +kernel
theorem dX11_rate_10 : decode cX11_rate 10 = .ok (.iload_n 2, 1) := by decide +kernel
theorem dX11_rate_11 : decode cX11_rate 11 = .ok (.sipush (-1000), 3) := by decide +kernel
theorem dX11_rate_14 : decode cX11_rate 14 = .ok (.sipush 1000, 3) := by decide +kernel
theorem dX11_rate_17 : decode cX11_rate 17 = .ok (.invokestatic 113, 3) := by decide +kernel
theorem dX11_rate_20 : decode cX11_rate 20 = .ok (.ifCond .ne 5, 3) := by decide +kernel
theorem dX11_rate_23 : decode cX11_rate 23 = .ok (.iconst (-1), 1) := by decide +kernel
theorem dX11_rate_24 : decode cX11_rate 24 = .ok (.ireturn, 1) := by decide +kernel
theorem dX11_rate_25 : decode cX11_rate 25 = .ok (.aload_n 0, 1) := by decide +kernel
theorem dX11_rate_26 : decode cX11_rate 26 = .ok (.getfield 77, 3) := by decide +kernel
theorem dX11_rate_29 : decode cX11_rate 29 = .ok (.iload_n 1, 1) := by decide +kernel
theorem dX11_rate_30 : decode cX11_rate 30 = .ok (.iconst 1, 1) := by decide +kernel
theorem dX11_rate_31 : decode cX11_rate 31 = .ok (.isub, 1) := by decide +kernel
theorem dX11_rate_32 : decode cX11_rate 32 = .ok (.iaload, 1) := by decide +kernel
theorem dX11_rate_33 : decode cX11_rate 33 = .ok (.istore_n 3, 1) := by decide +kernel
theorem dX11_rate_34 : decode cX11_rate 34 = .ok (.aload_n 0, 1) := by decide +kernel
theorem dX11_rate_35 : decode cX11_rate 35 = .ok (.getfield 77, 3) := by decide +kernel
theorem dX11_rate_38 : decode cX11_rate 38 = .ok (.iload_n 1, 1) := by decide +kernel
theorem dX11_rate_39 : decode cX11_rate 39 = .ok (.iconst 1, 1) := by decide +kernel
theorem dX11_rate_40 : decode cX11_rate 40 = .ok (.isub, 1) := by decide +kernel
theorem dX11_rate_41 : decode cX11_rate 41 = .ok (.iload_n 2, 1) := by decide +kernel
theorem dX11_rate_42 : decode cX11_rate 42 = .ok (.iastore, 1) := by decide +kernel
theorem dX11_rate_43 : decode cX11_rate 43 = .ok (.iload_n 3, 1) := by decide +kernel
theorem dX11_rate_44 : decode cX11_rate 44 = .ok (.ireturn, 1) := by decide +kernel
def f_H_rate (a0 : Int32) (a1 : Int32) (I : Nat → Nat → Int32) (L : Nat → Nat → Int64) : Option (Int32 × (Nat → Nat → Int32) × (Nat → Nat → Int64)) := (bnd (f_H_isWithin a0 (1 : Int32) (15 : Int32)) fun x1 => (if x1 = (0 : Int32) then (some ((-1 : Int32), I, L)) else (bnd (f_H_isWithin a1 (-1000 : Int32) (1000 : Int32)) fun x3 => (if x3 = (0 : Int32) then (some ((-1 : Int32), I, L)) else (if (0 ≤ (a0 - (1 : Int32)) ∧ (a0 - (1 : Int32)) < (15 : Int32)) then (bnd (I 28 ((a0 - (1 : Int32)).toNatClampNeg)) fun x6 => (if (0 ≤ (a0 - (1 : Int32)) ∧ (a0 - (1 : Int32)) < (15 : Int32)) then (some (x6, (uI I 28 ((a0 - (1 : Int32)).toNatClampNeg) a1), L)) else none)) else none)))))
set_option maxRecDepth 100000 in
set_option maxHeartbeats 4000000 in
theorem c_H_rate {G : xG} {S : List xSh} {Rf : Nat → Nat → Option Nat} (hT : xTH S Rf) {a0 : Int32} {a1 : Int32} {I : Nat → Nat → Int32} {L : Nat → Nat → Int64} {q : (Int32 × (Nat → Nat → Int32) × (Nat → Nat → Int64))} (hf : f_H_rate a0 a1 I L = some q) : CT G 2 m_H_rate [.ref (xP G 0), .int a0, .int a1] (S, I, L, Rf) (some (.int q.1), (S, q.2.1, q.2.2, Rf)) := by
  refine CT.of (by decide +kernel) (Nat.le_of_ble_eq_true rfl) ?_
  show X G 2 m_H_rate 0 [(0, .ref (xP G 0)), (1, .int a0), (2, .int a1)] [] (S, I, L, Rf) (some (.int q.1), (S, q.2.1, q.2.2, Rf))
  replace hf := (f_H_rate.eq_1 _ _ _ _).symm.trans hf
  refine X_iload_n (pc := 0) (i := 1) 1 dX11_rate_0 rfl rfl ?_
  refine X_iconst (pc := 1) (1 : Int32) dX11_rate_1 (by decide) ?_
  refine X_bipush (pc := 2) (15 : Int32) dX11_rate_2 (by decide) ?_
  refine X_invS_i (pc := 4) (c_H_isWithin hT rfl) ok_H_isWithin k_563 k_564 nd_6 (by decide) rfl (Nat.le_of_ble_eq_true rfl) dX11_rate_4 ?_
  obtain ⟨x1, ex1, hf⟩ := bnd_e hf
  refine X_tope ex1 ?_
  by_cases c2 : x1 = (0 : Int32)
  · replace hf := (if_pos c2).symm.trans hf
    refine X_if_eq_t (pc := 7) 23 dX11_rate_7 (by decide) c2 ?_
    refine X_iconst (pc := 23) (-1 : Int32) dX11_rate_23 (by decide) ?_
    cases hf
    exact X_ireturn (pc := 24) rfl dX11_rate_24
  · replace hf := (if_neg c2).symm.trans hf
    refine X_if_eq_f (pc := 7) 23 dX11_rate_7 (by decide) c2 ?_
    refine X_iload_n (pc := 10) (i := 2) 2 dX11_rate_10 rfl rfl ?_
    refine X_sipush (pc := 11) (-1000 : Int32) dX11_rate_11 (by decide) ?_
    refine X_sipush (pc := 14) (1000 : Int32) dX11_rate_14 (by decide) ?_
    refine X_invS_i (pc := 17) (c_H_isWithin hT rfl) ok_H_isWithin k_563 k_564 nd_6 (by decide) rfl (Nat.le_of_ble_eq_true rfl) dX11_rate_17 ?_
    obtain ⟨x3, ex3, hf⟩ := bnd_e hf
    refine X_tope ex3 ?_
    by_cases c4 : x3 = (0 : Int32)
    · replace hf := (if_pos c4).symm.trans hf
      refine X_if_ne_f (pc := 20) 25 dX11_rate_20 (by decide) c4 ?_
      refine X_iconst (pc := 23) (-1 : Int32) dX11_rate_23 (by decide) ?_
      cases hf
      exact X_ireturn (pc := 24) rfl dX11_rate_24
    · replace hf := (if_neg c4).symm.trans hf
      refine X_if_ne_t (pc := 20) 25 dX11_rate_20 (by decide) c4 ?_
      refine X_aload_n (pc := 25) (i := 0) 0 dX11_rate_25 rfl rfl ?_
      refine X_getr (pc := 26) (a := 0) (ci := 10) (j := 14) (c := 28) (sh_0 hT) (by decide) k_508 (rf_0_11 hT) (fun _ h => h) dX11_rate_26 ?_
      refine X_iload_n (pc := 29) (i := 1) 1 dX11_rate_29 rfl rfl ?_
      refine X_iconst (pc := 30) (1 : Int32) dX11_rate_30 (by decide) ?_
      refine X_isub (pc := 31) dX11_rate_31 ?_
      obtain ⟨c5, hf⟩ := gd_some hf
      refine X_ialdj (pc := 32) (j := (a0 - (1 : Int32)).toNatClampNeg) (I 28 ((a0 - (1 : Int32)).toNatClampNeg)) (sh_28 hT) (vp_in_lit (N := 15) c5 (by decide)) rfl rfl dX11_rate_32 ?_
      obtain ⟨x6, ex6, hf⟩ := bnd_e hf
      refine X_tope ex6 ?_
      refine X_istore_n (pc := 33) (i := 3) [(3, .int x6), (0, .ref (xP G 0)), (1, .int a0), (2, .int a1)] dX11_rate_33 rfl (by decide) rfl ?_
      refine X_aload_n (pc := 34) (i := 0) 1 dX11_rate_34 rfl rfl ?_
      refine X_getr (pc := 35) (a := 0) (ci := 10) (j := 14) (c := 28) (sh_0 hT) (by decide) k_508 (rf_0_11 hT) (fun _ h => h) dX11_rate_35 ?_
      refine X_iload_n (pc := 38) (i := 1) 2 dX11_rate_38 rfl rfl ?_
      refine X_iconst (pc := 39) (1 : Int32) dX11_rate_39 (by decide) ?_
      refine X_isub (pc := 40) dX11_rate_40 ?_
      refine X_iload_n (pc := 41) (i := 2) 3 dX11_rate_41 rfl rfl ?_
      obtain ⟨c7, hf⟩ := gd_some hf
      refine X_iastj (pc := 42) (j := ((a0 - (1 : Int32)).toNatClampNeg)) (sh_28 hT) (vp_in_lit (N := 15) c7 (by decide)) rfl dX11_rate_42 ?_
      refine X_iload_n (pc := 43) (i := 3) 0 dX11_rate_43 rfl rfl ?_
      cases hf
      exact X_ireturn (pc := 44) rfl dX11_rate_44
theorem u_H_rate {S : List xSh} {a0 : Int32} {a1 : Int32} {I : Nat → Nat → Int32} {L : Nat → Nat → Int64} {q : (Int32 × (Nat → Nat → Int32) × (Nat → Nat → Int64))} (hf : f_H_rate a0 a1 I L = some q) : FR S [28] [] I q.2.1 L q.2.2 := by
  replace hf := (f_H_rate.eq_1 _ _ _ _).symm.trans hf
  obtain ⟨x1, ex1, hf⟩ := bnd_e hf
  by_cases c2 : x1 = (0 : Int32)
  · replace hf := (if_pos c2).symm.trans hf
    cases hf
    exact FR.rf
  · replace hf := (if_neg c2).symm.trans hf
    obtain ⟨x3, ex3, hf⟩ := bnd_e hf
    by_cases c4 : x3 = (0 : Int32)
    · replace hf := (if_pos c4).symm.trans hf
      cases hf
      exact FR.rf
    · replace hf := (if_neg c4).symm.trans hf
      obtain ⟨c5, hf⟩ := gd_some hf
      obtain ⟨x6, ex6, hf⟩ := bnd_e hf
      obtain ⟨c7, hf⟩ := gd_some hf
      cases hf
      exact (FR.ai FR.rf (by decide))
theorem dX11_sumOfTen_0 : decode cX11_sumOfTen 0 = .ok (.iconst 0, 1) := by decide +kernel
theorem dX11_sumOfTen_1 : decode cX11_sumOfTen 1 = .ok (.istore_n 1, 1) := by decide +kernel
theorem dX11_sumOfTen_2 : decode cX11_sumOfTen 2 = .ok (.iconst 0, 1) := by decide +kernel
theorem dX11_sumOfTen_3 : decode cX11_sumOfTen 3 = .ok (.istore_n 2, 1) := by decide +kernel
theorem dX11_sumOfTen_4 : decode cX11_sumOfTen 4 = .ok (.iload_n 2, 1) := by decide +kernel
theorem dX11_sumOfTen_5 : decode cX11_sumOfTen 5 = .ok (.bipush 10, 2) := by decide +kernel
theorem dX11_sumOfTen_7 : decode cX11_sumOfTen 7 = .ok (.if_icmp .ge 18, 3) := by decide +kernel
theorem dX11_sumOfTen_10 : decode cX11_sumOfTen 10 = .ok (.iload_n 1, 1) := by decide +kernel
theorem dX11_sumOfTen_11 : decode cX11_sumOfTen 11 = .ok (.aload_n 0, 1) := by decide +kernel
theorem dX11_sumOfTen_12 : decode cX11_sumOfTen 12 = .ok (.getfield 77, 3) := by decide +kernel
theorem dX11_sumOfTen_15 : decode cX11_sumOfTen 15 = .ok (.iload_n 2, 1) := by decide +kernel
theorem dX11_sumOfTen_16 : decode cX11_sumOfTen 16 = .ok (.iaload, 1) := by decide +kernel
theorem dX11_sumOfTen_17 : decode cX11_sumOfTen 17 = .ok (.iadd, 1) := by decide +kernel
theorem dX11_sumOfTen_18 : decode cX11_sumOfTen 18 = .ok (.istore_n 1, 1) := by decide +kernel
theorem dX11_sumOfTen_19 : decode cX11_sumOfTen 19 = .ok (.iinc 2 1, 3) := by decide +kernel
theorem dX11_sumOfTen_22 : decode cX11_sumOfTen 22 = .ok (.goto (-18), 3) := by decide +kernel
theorem dX11_sumOfTen_25 : decode cX11_sumOfTen 25 = .ok (.iload_n 1, 1) := by decide +kernel
theorem dX11_sumOfTen_26 : decode cX11_sumOfTen 26 = .ok (.ireturn, 1) := by decide +kernel
def f_H_sumOfTen_L4 : Nat → Int32 → Int32 → (Nat → Nat → Int32) → (Nat → Nat → Int64) → Option Int32
  | 0, _, _, _, _ => none
  | n + 1, l1, l2, I, L => (if (10 : Int32) ≤ l2 then (some l1) else (if (0 ≤ l2 ∧ l2 < (15 : Int32)) then (bnd (l1 + (I 28 (l2.toNatClampNeg))) fun x3 => (f_H_sumOfTen_L4 n x3 (l2 + (1 : Int32)) I L)) else none))
set_option maxRecDepth 100000 in
set_option maxHeartbeats 4000000 in
theorem x_H_sumOfTen_L4 {G : xG} {S : List xSh} {Rf : Nat → Nat → Option Nat} (hT : xTH S Rf) : ∀ (n : Nat) {l1 : Int32} {l2 : Int32} {I : Nat → Nat → Int32} {L : Nat → Nat → Int64} {q : Int32}, f_H_sumOfTen_L4 n l1 l2 I L = some q → X G 1 m_H_sumOfTen 4 [(0, .ref (xP G 0)), (1, .int l1), (2, .int l2)] [] (S, I, L, Rf) (some (.int q), (S, I, L, Rf)) := by
  intro n
  induction n with
  | zero =>
    intro l1 l2 I L q hf
    exact absurd (show none = some q from hf) (by simp)
  | succ n ih =>
    intro l1 l2 I L q hf
    replace hf := (f_H_sumOfTen_L4.eq_2 _ _ _ _ _).symm.trans hf
    refine X_iload_n (pc := 4) (i := 2) 2 dX11_sumOfTen_4 rfl rfl ?_
    refine X_bipush (pc := 5) (10 : Int32) dX11_sumOfTen_5 (by decide) ?_
    by_cases c1 : (10 : Int32) ≤ l2
    · replace hf := (if_pos c1).symm.trans hf
      refine X_icmp_ge_t (pc := 7) 25 dX11_sumOfTen_7 (by decide) c1 ?_
      refine X_iload_n (pc := 25) (i := 1) 1 dX11_sumOfTen_25 rfl rfl ?_
      cases hf
      exact X_ireturn (pc := 26) rfl dX11_sumOfTen_26
    · replace hf := (if_neg c1).symm.trans hf
      refine X_icmp_ge_f (pc := 7) 25 dX11_sumOfTen_7 (by decide) c1 ?_
      refine X_iload_n (pc := 10) (i := 1) 1 dX11_sumOfTen_10 rfl rfl ?_
      refine X_aload_n (pc := 11) (i := 0) 0 dX11_sumOfTen_11 rfl rfl ?_
      refine X_getr (pc := 12) (a := 0) (ci := 10) (j := 14) (c := 28) (sh_0 hT) (by decide) k_508 (rf_0_11 hT) (fun _ h => h) dX11_sumOfTen_12 ?_
      refine X_iload_n (pc := 15) (i := 2) 2 dX11_sumOfTen_15 rfl rfl ?_
      obtain ⟨c2, hf⟩ := gd_some hf
      refine X_ialdj (pc := 16) (j := l2.toNatClampNeg) (I 28 (l2.toNatClampNeg)) (sh_28 hT) (vp_in_lit (N := 15) c2 (by decide)) rfl rfl dX11_sumOfTen_16 ?_
      refine X_iadd (pc := 17) dX11_sumOfTen_17 ?_
      obtain ⟨x3, ex3, hf⟩ := bnd_e hf
      refine X_tope ex3 ?_
      refine X_istore_n (pc := 18) (i := 1) [(1, .int x3), (0, .ref (xP G 0)), (2, .int l2)] dX11_sumOfTen_18 rfl (by decide) rfl ?_
      refine X_iinc (pc := 19) (i := 2) (q := 2) (v := (l2 + (1 : Int32))) [(2, .int (l2 + (1 : Int32))), (1, .int x3), (0, .ref (xP G 0))] dX11_sumOfTen_19 rfl rfl (by decide) rfl ?_
      refine X_goto (pc := 22) 4 dX11_sumOfTen_22 (by decide) ?_
      exact X_lvs [2, 1, 0] rfl (ih hf)
def f_H_sumOfTen (I : Nat → Nat → Int32) (L : Nat → Nat → Int64) : Option Int32 := (f_H_sumOfTen_L4 xF (0 : Int32) (0 : Int32) I L)
set_option maxRecDepth 100000 in
set_option maxHeartbeats 4000000 in
theorem c_H_sumOfTen {G : xG} {S : List xSh} {Rf : Nat → Nat → Option Nat} (hT : xTH S Rf) {I : Nat → Nat → Int32} {L : Nat → Nat → Int64} {q : Int32} (hf : f_H_sumOfTen I L = some q) : CT G 1 m_H_sumOfTen [.ref (xP G 0)] (S, I, L, Rf) (some (.int q), (S, I, L, Rf)) := by
  refine CT.of (by decide +kernel) (Nat.le_of_ble_eq_true rfl) ?_
  show X G 1 m_H_sumOfTen 0 [(0, .ref (xP G 0))] [] (S, I, L, Rf) (some (.int q), (S, I, L, Rf))
  replace hf := (f_H_sumOfTen.eq_1 _ _).symm.trans hf
  refine X_iconst (pc := 0) (0 : Int32) dX11_sumOfTen_0 (by decide) ?_
  refine X_istore_n (pc := 1) (i := 1) [(1, .int (0 : Int32)), (0, .ref (xP G 0))] dX11_sumOfTen_1 rfl (by decide) rfl ?_
  refine X_iconst (pc := 2) (0 : Int32) dX11_sumOfTen_2 (by decide) ?_
  refine X_istore_n (pc := 3) (i := 2) [(2, .int (0 : Int32)), (1, .int (0 : Int32)), (0, .ref (xP G 0))] dX11_sumOfTen_3 rfl (by decide) rfl ?_
  exact X_lvs [2, 1, 0] rfl (x_H_sumOfTen_L4 hT xF hf)
theorem dX11_sumOfPairs_0 : decode cX11_sumOfPairs 0 = .ok (.iconst 0, 1) := by decide +kernel
theorem dX11_sumOfPairs_1 : decode cX11_sumOfPairs 1 = .ok (.istore_n 1, 1) := by decide +kernel
theorem dX11_sumOfPairs_2 : decode cX11_sumOfPairs 2 = .ok (.iconst 0, 1) := by decide +kernel
theorem dX11_sumOfPairs_3 : decode cX11_sumOfPairs 3 = .ok (.istore_n 2, 1) := by decide +kernel
theorem dX11_sumOfPairs_4 : decode cX11_sumOfPairs 4 = .ok (.iload_n 2, 1) := by decide +kernel
theorem dX11_sumOfPairs_5 : decode cX11_sumOfPairs 5 = .ok (.bipush 10, 2) := by decide +kernel
theorem dX11_sumOfPairs_7 : decode cX11_sumOfPairs 7 = .ok (.if_icmp .ge 30, 3) := by decide +kernel
theorem dX11_sumOfPairs_10 : decode cX11_sumOfPairs 10 = .ok (.iload_n 1, 1) := by decide +kernel
theorem dX11_sumOfPairs_11 : decode cX11_sumOfPairs 11 = .ok (.aload_n 0, 1) := by decide +kernel
theorem dX11_sumOfPairs_12 : decode cX11_sumOfPairs 12 = .ok (.getfield 77, 3) := by decide +kernel
theorem dX11_sumOfPairs_15 : decode cX11_sumOfPairs 15 = .ok (.iload_n 2, 1) := by decide +kernel
theorem dX11_sumOfPairs_16 : decode cX11_sumOfPairs 16 = .ok (.iaload, 1) := by decide +kernel
theorem dX11_sumOfPairs_17 : decode cX11_sumOfPairs 17 = .ok (.aload_n 0, 1) := by decide +kernel
theorem dX11_sumOfPairs_18 : decode cX11_sumOfPairs 18 = .ok (.getfield 77, 3) := by decide +kernel
theorem dX11_sumOfPairs_21 : decode cX11_sumOfPairs 21 = .ok (.iload_n 2, 1) := by decide +kernel
theorem dX11_sumOfPairs_22 : decode cX11_sumOfPairs 22 = .ok (.iconst 1, 1) := by decide +kernel
theorem dX11_sumOfPairs_23 : decode cX11_sumOfPairs 23 = .ok (.iadd, 1) := by decide +kernel
theorem dX11_sumOfPairs_24 : decode cX11_sumOfPairs 24 = .ok (.iaload, 1) := by decide +kernel
theorem dX11_sumOfPairs_25 : decode cX11_sumOfPairs 25 = .ok (.isub, 1) := by decide +kernel
theorem dX11_sumOfPairs_26 : decode cX11_sumOfPairs 26 = .ok (.invokestatic 438, 3) := by decide +kernel
theorem dX11_sumOfPairs_29 : decode cX11_sumOfPairs 29 = .ok (.iadd, 1) := by decide +kernel
theorem dX11_sumOfPairs_30 : decode cX11_sumOfPairs 30 = .ok (.istore_n 1, 1) := by decide +kernel
theorem dX11_sumOfPairs_31 : decode cX11_sumOfPairs 31 = .ok (.iinc 2 2, 3) := by decide +kernel
theorem dX11_sumOfPairs_34 : decode cX11_sumOfPairs 34 = .ok (.goto (-30), 3) := by decide +kernel
theorem dX11_sumOfPairs_37 : decode cX11_sumOfPairs 37 = .ok (.iload_n 1, 1) := by decide +kernel
theorem dX11_sumOfPairs_38 : decode cX11_sumOfPairs 38 = .ok (.ireturn, 1) := by decide +kernel
def f_H_sumOfPairs_L4 : Nat → Int32 → Int32 → (Nat → Nat → Int32) → (Nat → Nat → Int64) → Option Int32
  | 0, _, _, _, _ => none
  | n + 1, l1, l2, I, L => (if (10 : Int32) ≤ l2 then (some l1) else (if (0 ≤ l2 ∧ l2 < (15 : Int32)) then (if (0 ≤ (l2 + (1 : Int32)) ∧ (l2 + (1 : Int32)) < (15 : Int32)) then (bnd (jabs ((I 28 (l2.toNatClampNeg)) - (I 28 ((l2 + (1 : Int32)).toNatClampNeg)))) fun x4 => (bnd (l1 + x4) fun x5 => (f_H_sumOfPairs_L4 n x5 (l2 + (2 : Int32)) I L))) else none) else none))
set_option maxRecDepth 100000 in
set_option maxHeartbeats 4000000 in
theorem x_H_sumOfPairs_L4 {G : xG} {S : List xSh} {Rf : Nat → Nat → Option Nat} (hT : xTH S Rf) : ∀ (n : Nat) {l1 : Int32} {l2 : Int32} {I : Nat → Nat → Int32} {L : Nat → Nat → Int64} {q : Int32}, f_H_sumOfPairs_L4 n l1 l2 I L = some q → X G 1 m_H_sumOfPairs 4 [(0, .ref (xP G 0)), (1, .int l1), (2, .int l2)] [] (S, I, L, Rf) (some (.int q), (S, I, L, Rf)) := by
  intro n
  induction n with
  | zero =>
    intro l1 l2 I L q hf
    exact absurd (show none = some q from hf) (by simp)
  | succ n ih =>
    intro l1 l2 I L q hf
    replace hf := (f_H_sumOfPairs_L4.eq_2 _ _ _ _ _).symm.trans hf
    refine X_iload_n (pc := 4) (i := 2) 2 dX11_sumOfPairs_4 rfl rfl ?_
    refine X_bipush (pc := 5) (10 : Int32) dX11_sumOfPairs_5 (by decide) ?_
    by_cases c1 : (10 : Int32) ≤ l2
    · replace hf := (if_pos c1).symm.trans hf
      refine X_icmp_ge_t (pc := 7) 37 dX11_sumOfPairs_7 (by decide) c1 ?_
      refine X_iload_n (pc := 37) (i := 1) 1 dX11_sumOfPairs_37 rfl rfl ?_
      cases hf
      exact X_ireturn (pc := 38) rfl dX11_sumOfPairs_38
    · replace hf := (if_neg c1).symm.trans hf
      refine X_icmp_ge_f (pc := 7) 37 dX11_sumOfPairs_7 (by decide) c1 ?_
      refine X_iload_n (pc := 10) (i := 1) 1 dX11_sumOfPairs_10 rfl rfl ?_
      refine X_aload_n (pc := 11) (i := 0) 0 dX11_sumOfPairs_11 rfl rfl ?_
      refine X_getr (pc := 12) (a := 0) (ci := 10) (j := 14) (c := 28) (sh_0 hT) (by decide) k_508 (rf_0_11 hT) (fun _ h => h) dX11_sumOfPairs_12 ?_
      refine X_iload_n (pc := 15) (i := 2) 2 dX11_sumOfPairs_15 rfl rfl ?_
      obtain ⟨c2, hf⟩ := gd_some hf
      refine X_ialdj (pc := 16) (j := l2.toNatClampNeg) (I 28 (l2.toNatClampNeg)) (sh_28 hT) (vp_in_lit (N := 15) c2 (by decide)) rfl rfl dX11_sumOfPairs_16 ?_
      refine X_aload_n (pc := 17) (i := 0) 0 dX11_sumOfPairs_17 rfl rfl ?_
      refine X_getr (pc := 18) (a := 0) (ci := 10) (j := 14) (c := 28) (sh_0 hT) (by decide) k_508 (rf_0_11 hT) (fun _ h => h) dX11_sumOfPairs_18 ?_
      refine X_iload_n (pc := 21) (i := 2) 2 dX11_sumOfPairs_21 rfl rfl ?_
      refine X_iconst (pc := 22) (1 : Int32) dX11_sumOfPairs_22 (by decide) ?_
      refine X_iadd (pc := 23) dX11_sumOfPairs_23 ?_
      obtain ⟨c3, hf⟩ := gd_some hf
      refine X_ialdj (pc := 24) (j := (l2 + (1 : Int32)).toNatClampNeg) (I 28 ((l2 + (1 : Int32)).toNatClampNeg)) (sh_28 hT) (vp_in_lit (N := 15) c3 (by decide)) rfl rfl dX11_sumOfPairs_24 ?_
      refine X_isub (pc := 25) dX11_sumOfPairs_25 ?_
      refine X_jabs (pc := 26) k_1110 (by decide) (Nat.le_of_ble_eq_true rfl) dX11_sumOfPairs_26 ?_
      obtain ⟨x4, ex4, hf⟩ := bnd_e hf
      refine X_tope ex4 ?_
      refine X_iadd (pc := 29) dX11_sumOfPairs_29 ?_
      obtain ⟨x5, ex5, hf⟩ := bnd_e hf
      refine X_tope ex5 ?_
      refine X_istore_n (pc := 30) (i := 1) [(1, .int x5), (0, .ref (xP G 0)), (2, .int l2)] dX11_sumOfPairs_30 rfl (by decide) rfl ?_
      refine X_iinc (pc := 31) (i := 2) (q := 2) (v := (l2 + (2 : Int32))) [(2, .int (l2 + (2 : Int32))), (1, .int x5), (0, .ref (xP G 0))] dX11_sumOfPairs_31 rfl rfl (by decide) rfl ?_
      refine X_goto (pc := 34) 4 dX11_sumOfPairs_34 (by decide) ?_
      exact X_lvs [2, 1, 0] rfl (ih hf)
def f_H_sumOfPairs (I : Nat → Nat → Int32) (L : Nat → Nat → Int64) : Option Int32 := (f_H_sumOfPairs_L4 xF (0 : Int32) (0 : Int32) I L)
set_option maxRecDepth 100000 in
set_option maxHeartbeats 4000000 in
theorem c_H_sumOfPairs {G : xG} {S : List xSh} {Rf : Nat → Nat → Option Nat} (hT : xTH S Rf) {I : Nat → Nat → Int32} {L : Nat → Nat → Int64} {q : Int32} (hf : f_H_sumOfPairs I L = some q) : CT G 1 m_H_sumOfPairs [.ref (xP G 0)] (S, I, L, Rf) (some (.int q), (S, I, L, Rf)) := by
  refine CT.of (by decide +kernel) (Nat.le_of_ble_eq_true rfl) ?_
  show X G 1 m_H_sumOfPairs 0 [(0, .ref (xP G 0))] [] (S, I, L, Rf) (some (.int q), (S, I, L, Rf))
  replace hf := (f_H_sumOfPairs.eq_1 _ _).symm.trans hf
  refine X_iconst (pc := 0) (0 : Int32) dX11_sumOfPairs_0 (by decide) ?_
  refine X_istore_n (pc := 1) (i := 1) [(1, .int (0 : Int32)), (0, .ref (xP G 0))] dX11_sumOfPairs_1 rfl (by decide) rfl ?_
  refine X_iconst (pc := 2) (0 : Int32) dX11_sumOfPairs_2 (by decide) ?_
  refine X_istore_n (pc := 3) (i := 2) [(2, .int (0 : Int32)), (1, .int (0 : Int32)), (0, .ref (xP G 0))] dX11_sumOfPairs_3 rfl (by decide) rfl ?_
  exact X_lvs [2, 1, 0] rfl (x_H_sumOfPairs_L4 hT xF hf)
theorem dX11_greatestOfPairs_0 : decode cX11_greatestOfPairs 0 = .ok (.iconst 0, 1) := by decide +kernel
theorem dX11_greatestOfPairs_1 : decode cX11_greatestOfPairs 1 = .ok (.istore_n 1, 1) := by decide +kernel
theorem dX11_greatestOfPairs_2 : decode cX11_greatestOfPairs 2 = .ok (.iconst 0, 1) := by decide +kernel
theorem dX11_greatestOfPairs_3 : decode cX11_greatestOfPairs 3 = .ok (.istore_n 2, 1) := by decide +kernel
theorem dX11_greatestOfPairs_4 : decode cX11_greatestOfPairs 4 = .ok (.iload_n 2, 1) := by decide +kernel
theorem dX11_greatestOfPairs_5 : decode cX11_greatestOfPairs 5 = .ok (.bipush 10, 2) := by decide +kernel
theorem dX11_greatestOfPairs_7 : decode cX11_greatestOfPairs 7 = .ok (.if_icmp .ge 32, 3) := by decide +kernel
theorem dX11_greatestOfPairs_10 : decode cX11_greatestOfPairs 10 = .ok (.iload_n 1, 1) := by decide +kernel
theorem dX11_greatestOfPairs_11 : decode cX11_greatestOfPairs 11 = .ok (.aload_n 0, 1) := by decide +kernel
theorem dX11_greatestOfPairs_12 : decode cX11_greatestOfPairs 12 = .ok (.getfield 77, 3) := by decide +kernel
theorem dX11_greatestOfPairs_15 : decode cX11_greatestOfPairs 15 = .ok (.iload_n 2, 1) := by decide +kernel
theorem dX11_greatestOfPairs_16 : decode cX11_greatestOfPairs 16 = .ok (.iaload, 1) := by decide +kernel
theorem dX11_greatestOfPairs_17 : decode cX11_greatestOfPairs 17 = .ok (.aload_n 0, 1) := by decide +kernel
theorem dX11_greatestOfPairs_18 : decode cX11_greatestOfPairs 18 = .ok (.getfield 77, 3) := by decide +kernel
theorem dX11_greatestOfPairs_21 : decode cX11_greatestOfPairs 21 = .ok (.iload_n 2, 1) := by decide +kernel
theorem dX11_greatestOfPairs_22 : decode cX11_greatestOfPairs 22 = .ok (.iconst 1, 1) := by decide +kernel
theorem dX11_greatestOfPairs_23 : decode cX11_greatestOfPairs 23 = .ok (.iadd, 1) := by decide +kernel
theorem dX11_greatestOfPairs_24 : decode cX11_greatestOfPairs 24 = .ok (.iaload, 1) := by decide +kernel
theorem dX11_greatestOfPairs_25 : decode cX11_greatestOfPairs 25 = .ok (.isub, 1) := by decide +kernel
theorem dX11_greatestOfPairs_26 : decode cX11_greatestOfPairs 26 = .ok (.invokestatic 438, 3) := by decide +kernel
theorem dX11_greatestOfPairs_29 : decode cX11_greatestOfPairs 29 = .ok (.invokestatic 440, 3) := by decide +kernel
theorem dX11_greatestOfPairs_32 : decode cX11_greatestOfPairs 32 = .ok (.istore_n 1, 1) := by decide +kernel
theorem dX11_greatestOfPairs_33 : decode cX11_greatestOfPairs 33 = .ok (.iinc 2 2, 3) := by decide +kernel
theorem dX11_greatestOfPairs_36 : decode cX11_greatestOfPairs 36 = .ok (.goto (-32), 3) := by decide +kernel
theorem dX11_greatestOfPairs_39 : decode cX11_greatestOfPairs 39 = .ok (.iload_n 1, 1) := by decide +kernel
theorem dX11_greatestOfPairs_40 : decode cX11_greatestOfPairs 40 = .ok (.ireturn, 1) := by decide +kernel
def f_H_greatestOfPairs_L4 : Nat → Int32 → Int32 → (Nat → Nat → Int32) → (Nat → Nat → Int64) → Option Int32
  | 0, _, _, _, _ => none
  | n + 1, l1, l2, I, L => (if (10 : Int32) ≤ l2 then (some l1) else (if (0 ≤ l2 ∧ l2 < (15 : Int32)) then (if (0 ≤ (l2 + (1 : Int32)) ∧ (l2 + (1 : Int32)) < (15 : Int32)) then (bnd (jabs ((I 28 (l2.toNatClampNeg)) - (I 28 ((l2 + (1 : Int32)).toNatClampNeg)))) fun x4 => (bnd (jmax l1 x4) fun x5 => (f_H_greatestOfPairs_L4 n x5 (l2 + (2 : Int32)) I L))) else none) else none))
set_option maxRecDepth 100000 in
set_option maxHeartbeats 4000000 in
theorem x_H_greatestOfPairs_L4 {G : xG} {S : List xSh} {Rf : Nat → Nat → Option Nat} (hT : xTH S Rf) : ∀ (n : Nat) {l1 : Int32} {l2 : Int32} {I : Nat → Nat → Int32} {L : Nat → Nat → Int64} {q : Int32}, f_H_greatestOfPairs_L4 n l1 l2 I L = some q → X G 1 m_H_greatestOfPairs 4 [(0, .ref (xP G 0)), (1, .int l1), (2, .int l2)] [] (S, I, L, Rf) (some (.int q), (S, I, L, Rf)) := by
  intro n
  induction n with
  | zero =>
    intro l1 l2 I L q hf
    exact absurd (show none = some q from hf) (by simp)
  | succ n ih =>
    intro l1 l2 I L q hf
    replace hf := (f_H_greatestOfPairs_L4.eq_2 _ _ _ _ _).symm.trans hf
    refine X_iload_n (pc := 4) (i := 2) 2 dX11_greatestOfPairs_4 rfl rfl ?_
    refine X_bipush (pc := 5) (10 : Int32) dX11_greatestOfPairs_5 (by decide) ?_
    by_cases c1 : (10 : Int32) ≤ l2
    · replace hf := (if_pos c1).symm.trans hf
      refine X_icmp_ge_t (pc := 7) 39 dX11_greatestOfPairs_7 (by decide) c1 ?_
      refine X_iload_n (pc := 39) (i := 1) 1 dX11_greatestOfPairs_39 rfl rfl ?_
      cases hf
      exact X_ireturn (pc := 40) rfl dX11_greatestOfPairs_40
    · replace hf := (if_neg c1).symm.trans hf
      refine X_icmp_ge_f (pc := 7) 39 dX11_greatestOfPairs_7 (by decide) c1 ?_
      refine X_iload_n (pc := 10) (i := 1) 1 dX11_greatestOfPairs_10 rfl rfl ?_
      refine X_aload_n (pc := 11) (i := 0) 0 dX11_greatestOfPairs_11 rfl rfl ?_
      refine X_getr (pc := 12) (a := 0) (ci := 10) (j := 14) (c := 28) (sh_0 hT) (by decide) k_508 (rf_0_11 hT) (fun _ h => h) dX11_greatestOfPairs_12 ?_
      refine X_iload_n (pc := 15) (i := 2) 2 dX11_greatestOfPairs_15 rfl rfl ?_
      obtain ⟨c2, hf⟩ := gd_some hf
      refine X_ialdj (pc := 16) (j := l2.toNatClampNeg) (I 28 (l2.toNatClampNeg)) (sh_28 hT) (vp_in_lit (N := 15) c2 (by decide)) rfl rfl dX11_greatestOfPairs_16 ?_
      refine X_aload_n (pc := 17) (i := 0) 0 dX11_greatestOfPairs_17 rfl rfl ?_
      refine X_getr (pc := 18) (a := 0) (ci := 10) (j := 14) (c := 28) (sh_0 hT) (by decide) k_508 (rf_0_11 hT) (fun _ h => h) dX11_greatestOfPairs_18 ?_
      refine X_iload_n (pc := 21) (i := 2) 2 dX11_greatestOfPairs_21 rfl rfl ?_
      refine X_iconst (pc := 22) (1 : Int32) dX11_greatestOfPairs_22 (by decide) ?_
      refine X_iadd (pc := 23) dX11_greatestOfPairs_23 ?_
      obtain ⟨c3, hf⟩ := gd_some hf
      refine X_ialdj (pc := 24) (j := (l2 + (1 : Int32)).toNatClampNeg) (I 28 ((l2 + (1 : Int32)).toNatClampNeg)) (sh_28 hT) (vp_in_lit (N := 15) c3 (by decide)) rfl rfl dX11_greatestOfPairs_24 ?_
      refine X_isub (pc := 25) dX11_greatestOfPairs_25 ?_
      refine X_jabs (pc := 26) k_1110 (by decide) (Nat.le_of_ble_eq_true rfl) dX11_greatestOfPairs_26 ?_
      obtain ⟨x4, ex4, hf⟩ := bnd_e hf
      refine X_tope ex4 ?_
      refine X_jmax (pc := 29) k_1115 (by decide) (Nat.le_of_ble_eq_true rfl) dX11_greatestOfPairs_29 ?_
      obtain ⟨x5, ex5, hf⟩ := bnd_e hf
      refine X_tope ex5 ?_
      refine X_istore_n (pc := 32) (i := 1) [(1, .int x5), (0, .ref (xP G 0)), (2, .int l2)] dX11_greatestOfPairs_32 rfl (by decide) rfl ?_
      refine X_iinc (pc := 33) (i := 2) (q := 2) (v := (l2 + (2 : Int32))) [(2, .int (l2 + (2 : Int32))), (1, .int x5), (0, .ref (xP G 0))] dX11_greatestOfPairs_33 rfl rfl (by decide) rfl ?_
      refine X_goto (pc := 36) 4 dX11_greatestOfPairs_36 (by decide) ?_
      exact X_lvs [2, 1, 0] rfl (ih hf)
def f_H_greatestOfPairs (I : Nat → Nat → Int32) (L : Nat → Nat → Int64) : Option Int32 := (f_H_greatestOfPairs_L4 xF (0 : Int32) (0 : Int32) I L)
set_option maxRecDepth 100000 in
set_option maxHeartbeats 4000000 in
theorem c_H_greatestOfPairs {G : xG} {S : List xSh} {Rf : Nat → Nat → Option Nat} (hT : xTH S Rf) {I : Nat → Nat → Int32} {L : Nat → Nat → Int64} {q : Int32} (hf : f_H_greatestOfPairs I L = some q) : CT G 1 m_H_greatestOfPairs [.ref (xP G 0)] (S, I, L, Rf) (some (.int q), (S, I, L, Rf)) := by
  refine CT.of (by decide +kernel) (Nat.le_of_ble_eq_true rfl) ?_
  show X G 1 m_H_greatestOfPairs 0 [(0, .ref (xP G 0))] [] (S, I, L, Rf) (some (.int q), (S, I, L, Rf))
  replace hf := (f_H_greatestOfPairs.eq_1 _ _).symm.trans hf
  refine X_iconst (pc := 0) (0 : Int32) dX11_greatestOfPairs_0 (by decide) ?_
  refine X_istore_n (pc := 1) (i := 1) [(1, .int (0 : Int32)), (0, .ref (xP G 0))] dX11_greatestOfPairs_1 rfl (by decide) rfl ?_
  refine X_iconst (pc := 2) (0 : Int32) dX11_greatestOfPairs_2 (by decide) ?_
  refine X_istore_n (pc := 3) (i := 2) [(2, .int (0 : Int32)), (1, .int (0 : Int32)), (0, .ref (xP G 0))] dX11_greatestOfPairs_3 rfl (by decide) rfl ?_
  exact X_lvs [2, 1, 0] rfl (x_H_greatestOfPairs_L4 hT xF hf)
theorem dX11_farthestFromMean_0 : decode cX11_farthestFromMean 0 = .ok (.aload_n 0, 1) := by decide +kernel
theorem dX11_farthestFromMean_1 : decode cX11_farthestFromMean 1 = .ok (.invokevirtual 426, 3) := by decide +kernel
theorem dX11_farthestFromMean_4 : decode cX11_farthestFromMean 4 = .ok (.istore_n 1, 1) := by decide +kernel
theorem dX11_farthestFromMean_5 : decode cX11_farthestFromMean 5 = .ok (.iconst 0, 1) := by decide +kernel
theorem dX11_farthestFromMean_6 : decode cX11_farthestFromMean 6 = .ok (.istore_n 2, 1) := by decide +kernel
theorem dX11_farthestFromMean_7 : decode cX11_farthestFromMean 7 = .ok (.iconst 0, 1) := by decide +kernel
theorem dX11_farthestFromMean_8 : decode cX11_farthestFromMean 8 = .ok (.istore_n 3, 1) := by decide +kernel
theorem dX11_farthestFromMean_9 : decode cX11_farthestFromMean 9 = .ok (.iload_n 3, 1) := by decide +kernel
theorem dX11_farthestFromMean_10 : decode cX11_farthestFromMean 10 = .ok (.bipush 10, 2) := by decide +kernel
theorem dX11_farthestFromMean_12 : decode cX11_farthestFromMean 12 = .ok (.if_icmp .ge 28, 3) := by decide +kernel
theorem dX11_farthestFromMean_15 : decode cX11_farthestFromMean 15 = .ok (.iload_n 2, 1) := by decide +kernel
theorem dX11_farthestFromMean_16 : decode cX11_farthestFromMean 16 = .ok (.bipush 10, 2) := by decide +kernel
theorem dX11_farthestFromMean_18 : decode cX11_farthestFromMean 18 = .ok (.aload_n 0, 1) := by decide +kernel
theorem dX11_farthestFromMean_19 : decode cX11_farthestFromMean 19 = .ok (.getfield 77, 3) := by decide +kernel
theorem dX11_farthestFromMean_22 : decode cX11_farthestFromMean 22 = .ok (.iload_n 3, 1) := by decide +kernel
theorem dX11_farthestFromMean_23 : decode cX11_farthestFromMean 23 = .ok (.iaload, 1) := by decide +kernel
theorem dX11_farthestFromMean_24 : decode cX11_farthestFromMean 24 = .ok (.imul, 1) := by decide +kernel
theorem dX11_farthestFromMean_25 : decode cX11_farthestFromMean 25 = .ok (.iload_n 1, 1) := by decide +kernel
theorem dX11_farthestFromMean_26 : decode cX11_farthestFromMean 26 = .ok (.isub, 1) := by decide +kernel
theorem dX11_farthestFromMean_27 : decode cX11_farthestFromMean 27 = .ok (.invokestatic 438, 3) := by decide +kernel
theorem dX11_farthestFromMean_30 : decode cX11_farthestFromMean 30 = .ok (.invokestatic 440, 3) := by decide +kernel
theorem dX11_farthestFromMean_33 : decode cX11_farthestFromMean 33 = .ok (.istore_n 2, 1) := by decide +kernel
theorem dX11_farthestFromMean_34 : decode cX11_farthestFromMean 34 = .ok (.iinc 3 1, 3) := by decide +kernel
theorem dX11_farthestFromMean_37 : decode cX11_farthestFromMean 37 = .ok (.goto (-28), 3) := by decide +kernel
theorem dX11_farthestFromMean_40 : decode cX11_farthestFromMean 40 = .ok (.iload_n 2, 1) := by decide +kernel
theorem dX11_farthestFromMean_41 : decode cX11_farthestFromMean 41 = .ok (.ireturn, 1) := by decide +kernel
def f_H_farthestFromMean_L9 : Nat → Int32 → Int32 → Int32 → (Nat → Nat → Int32) → (Nat → Nat → Int64) → Option Int32
  | 0, _, _, _, _, _ => none
  | n + 1, l1, l2, l3, I, L => (if (10 : Int32) ≤ l3 then (some l2) else (if (0 ≤ l3 ∧ l3 < (15 : Int32)) then (bnd (jabs (((10 : Int32) * (I 28 (l3.toNatClampNeg))) - l1)) fun x5 => (bnd (jmax l2 x5) fun x6 => (f_H_farthestFromMean_L9 n l1 x6 (l3 + (1 : Int32)) I L))) else none))
set_option maxRecDepth 100000 in
set_option maxHeartbeats 4000000 in
theorem x_H_farthestFromMean_L9 {G : xG} {S : List xSh} {Rf : Nat → Nat → Option Nat} (hT : xTH S Rf) : ∀ (n : Nat) {l1 : Int32} {l2 : Int32} {l3 : Int32} {I : Nat → Nat → Int32} {L : Nat → Nat → Int64} {q : Int32}, f_H_farthestFromMean_L9 n l1 l2 l3 I L = some q → X G 2 m_H_farthestFromMean 9 [(0, .ref (xP G 0)), (1, .int l1), (2, .int l2), (3, .int l3)] [] (S, I, L, Rf) (some (.int q), (S, I, L, Rf)) := by
  intro n
  induction n with
  | zero =>
    intro l1 l2 l3 I L q hf
    exact absurd (show none = some q from hf) (by simp)
  | succ n ih =>
    intro l1 l2 l3 I L q hf
    replace hf := (f_H_farthestFromMean_L9.eq_2 _ _ _ _ _ _).symm.trans hf
    refine X_iload_n (pc := 9) (i := 3) 3 dX11_farthestFromMean_9 rfl rfl ?_
    refine X_bipush (pc := 10) (10 : Int32) dX11_farthestFromMean_10 (by decide) ?_
    by_cases c3 : (10 : Int32) ≤ l3
    · replace hf := (if_pos c3).symm.trans hf
      refine X_icmp_ge_t (pc := 12) 40 dX11_farthestFromMean_12 (by decide) c3 ?_
      refine X_iload_n (pc := 40) (i := 2) 2 dX11_farthestFromMean_40 rfl rfl ?_
      cases hf
      exact X_ireturn (pc := 41) rfl dX11_farthestFromMean_41
    · replace hf := (if_neg c3).symm.trans hf
      refine X_icmp_ge_f (pc := 12) 40 dX11_farthestFromMean_12 (by decide) c3 ?_
      refine X_iload_n (pc := 15) (i := 2) 2 dX11_farthestFromMean_15 rfl rfl ?_
      refine X_bipush (pc := 16) (10 : Int32) dX11_farthestFromMean_16 (by decide) ?_
      refine X_aload_n (pc := 18) (i := 0) 0 dX11_farthestFromMean_18 rfl rfl ?_
      refine X_getr (pc := 19) (a := 0) (ci := 10) (j := 14) (c := 28) (sh_0 hT) (by decide) k_508 (rf_0_11 hT) (fun _ h => h) dX11_farthestFromMean_19 ?_
      refine X_iload_n (pc := 22) (i := 3) 3 dX11_farthestFromMean_22 rfl rfl ?_
      obtain ⟨c4, hf⟩ := gd_some hf
      refine X_ialdj (pc := 23) (j := l3.toNatClampNeg) (I 28 (l3.toNatClampNeg)) (sh_28 hT) (vp_in_lit (N := 15) c4 (by decide)) rfl rfl dX11_farthestFromMean_23 ?_
      refine X_imul (pc := 24) dX11_farthestFromMean_24 ?_
      refine X_iload_n (pc := 25) (i := 1) 1 dX11_farthestFromMean_25 rfl rfl ?_
      refine X_isub (pc := 26) dX11_farthestFromMean_26 ?_
      refine X_jabs (pc := 27) k_1110 (by decide) (Nat.le_of_ble_eq_true rfl) dX11_farthestFromMean_27 ?_
      obtain ⟨x5, ex5, hf⟩ := bnd_e hf
      refine X_tope ex5 ?_
      refine X_jmax (pc := 30) k_1115 (by decide) (Nat.le_of_ble_eq_true rfl) dX11_farthestFromMean_30 ?_
      obtain ⟨x6, ex6, hf⟩ := bnd_e hf
      refine X_tope ex6 ?_
      refine X_istore_n (pc := 33) (i := 2) [(2, .int x6), (0, .ref (xP G 0)), (1, .int l1), (3, .int l3)] dX11_farthestFromMean_33 rfl (by decide) rfl ?_
      refine X_iinc (pc := 34) (i := 3) (q := 3) (v := (l3 + (1 : Int32))) [(3, .int (l3 + (1 : Int32))), (2, .int x6), (0, .ref (xP G 0)), (1, .int l1)] dX11_farthestFromMean_34 rfl rfl (by decide) rfl ?_
      refine X_goto (pc := 37) 9 dX11_farthestFromMean_37 (by decide) ?_
      exact X_lvs [2, 3, 1, 0] rfl (ih hf)
def f_H_farthestFromMean (I : Nat → Nat → Int32) (L : Nat → Nat → Int64) : Option Int32 := ((f_H_sumOfTen I L).bind fun q1 => (f_H_farthestFromMean_L9 xF q1 (0 : Int32) (0 : Int32) I L))
set_option maxRecDepth 100000 in
set_option maxHeartbeats 4000000 in
theorem c_H_farthestFromMean {G : xG} {S : List xSh} {Rf : Nat → Nat → Option Nat} (hT : xTH S Rf) {I : Nat → Nat → Int32} {L : Nat → Nat → Int64} {q : Int32} (hf : f_H_farthestFromMean I L = some q) : CT G 2 m_H_farthestFromMean [.ref (xP G 0)] (S, I, L, Rf) (some (.int q), (S, I, L, Rf)) := by
  refine CT.of (by decide +kernel) (Nat.le_of_ble_eq_true rfl) ?_
  show X G 2 m_H_farthestFromMean 0 [(0, .ref (xP G 0))] [] (S, I, L, Rf) (some (.int q), (S, I, L, Rf))
  replace hf := (f_H_farthestFromMean.eq_1 _ _).symm.trans hf
  refine X_aload_n (pc := 0) (i := 0) 0 dX11_farthestFromMean_0 rfl rfl ?_
  obtain ⟨q1, c2, hf⟩ := bd_some hf
  refine X_invV_i (pc := 1) (c_H_sumOfTen hT c2) ok_H_sumOfTen (ci := 10) (sh_0 hT) k_1102 k_1104 k_33 nd_4 (by decide) rfl (Nat.le_of_ble_eq_true rfl) dX11_farthestFromMean_1 ?_
  refine X_istore_n (pc := 4) (i := 1) [(1, .int q1), (0, .ref (xP G 0))] dX11_farthestFromMean_4 rfl (by decide) rfl ?_
  refine X_iconst (pc := 5) (0 : Int32) dX11_farthestFromMean_5 (by decide) ?_
  refine X_istore_n (pc := 6) (i := 2) [(2, .int (0 : Int32)), (1, .int q1), (0, .ref (xP G 0))] dX11_farthestFromMean_6 rfl (by decide) rfl ?_
  refine X_iconst (pc := 7) (0 : Int32) dX11_farthestFromMean_7 (by decide) ?_
  refine X_istore_n (pc := 8) (i := 3) [(3, .int (0 : Int32)), (2, .int (0 : Int32)), (1, .int q1), (0, .ref (xP G 0))] dX11_farthestFromMean_8 rfl (by decide) rfl ?_
  exact X_lvs [3, 2, 1, 0] rfl (x_H_farthestFromMean_L9 hT xF hf)
theorem dX11_trialNumber_0 : decode cX11_trialNumber 0 = .ok (.iload_n 1, 1) := by decide +kernel
theorem dX11_trialNumber_1 : decode cX11_trialNumber 1 = .ok (.tableswitch 133 0 6 #[43, 48, 53, 58, 88, 93, 109], 43) := by decide +kernel
theorem dX11_trialNumber_44 : decode cX11_trialNumber 44 = .ok (.aload_n 0, 1) := by decide +kernel
theorem dX11_trialNumber_45 : decode cX11_trialNumber 45 = .ok (.invokevirtual 426, 3) := by decide +kernel
theorem dX11_trialNumber_48 : decode cX11_trialNumber 48 = .ok (.ireturn, 1) := by decide +kernel
theorem dX11_trialNumber_49 : decode cX11_trialNumber 49 = .ok (.aload_n 0, 1) := by decide +kernel
theorem dX11_trialNumber_50 : decode cX11_trialNumber 50 = .ok (.invokevirtual 429, 3) := by decide +kernel
theorem dX11_trialNumber_53 : decode cX11_trialNumber 53 = .ok (.ireturn, 1) := by decide +kernel
theorem dX11_trialNumber_54 : decode cX11_trialNumber 54 = .ok (.aload_n 0, 1) := by decide +kernel
theorem dX11_trialNumber_55 : decode cX11_trialNumber 55 = .ok (.invokevirtual 432, 3) := by decide +kernel
theorem dX11_trialNumber_58 : decode cX11_trialNumber 58 = .ok (.ireturn, 1) := by decide +kernel
theorem dX11_trialNumber_59 : decode cX11_trialNumber 59 = .ok (.aload_n 0, 1) := by decide +kernel
theorem dX11_trialNumber_60 : decode cX11_trialNumber 60 = .ok (.getfield 77, 3) := by decide +kernel
theorem dX11_trialNumber_63 : decode cX11_trialNumber 63 = .ok (.iconst 0, 1) := by decide +kernel
theorem dX11_trialNumber_64 : decode cX11_trialNumber 64 = .ok (.iaload, 1) := by decide +kernel
theorem dX11_trialNumber_65 : decode cX11_trialNumber 65 = .ok (.aload_n 0, 1) := by decide +kernel
theorem dX11_trialNumber_66 : decode cX11_trialNumber 66 = .ok (.getfield 77, 3) := by decide +kernel
theorem dX11_trialNumber_69 : decode cX11_trialNumber 69 = .ok (.iconst 1, 1) := by decide +kernel
theorem dX11_trialNumber_70 : decode cX11_trialNumber 70 = .ok (.iaload, 1) := by decide +kernel
theorem dX11_trialNumber_71 : decode cX11_trialNumber 71 = .ok (.iadd, 1) := by decide +kernel
theorem dX11_trialNumber_72 : decode cX11_trialNumber 72 = .ok (.aload_n 0, 1) := by decide +kernel
theorem dX11_trialNumber_73 : decode cX11_trialNumber 73 = .ok (.getfield 77, 3) := by decide +kernel
theorem dX11_trialNumber_76 : decode cX11_trialNumber 76 = .ok (.bipush 8, 2) := by decide +kernel
theorem dX11_trialNumber_78 : decode cX11_trialNumber 78 = .ok (.iaload, 1) := by decide +kernel
theorem dX11_trialNumber_79 : decode cX11_trialNumber 79 = .ok (.isub, 1) := by decide +kernel
theorem dX11_trialNumber_80 : decode cX11_trialNumber 80 = .ok (.aload_n 0, 1) := by decide +kernel
theorem dX11_trialNumber_81 : decode cX11_trialNumber 81 = .ok (.getfield 77, 3) := by decide +kernel
theorem dX11_trialNumber_84 : decode cX11_trialNumber 84 = .ok (.bipush 9, 2) := by decide +kernel
theorem dX11_trialNumber_86 : decode cX11_trialNumber 86 = .ok (.iaload, 1) := by decide +kernel
theorem dX11_trialNumber_87 : decode cX11_trialNumber 87 = .ok (.isub, 1) := by decide +kernel
theorem dX11_trialNumber_88 : decode cX11_trialNumber 88 = .ok (.ireturn, 1) := by decide +kernel
theorem dX11_trialNumber_89 : decode cX11_trialNumber 89 = .ok (.aload_n 0, 1) := by decide +kernel
theorem dX11_trialNumber_90 : decode cX11_trialNumber 90 = .ok (.invokevirtual 435, 3) := by decide +kernel
theorem dX11_trialNumber_93 : decode cX11_trialNumber 93 = .ok (.ireturn, 1) := by decide +kernel
theorem dX11_trialNumber_94 : decode cX11_trialNumber 94 = .ok (.aload_n 0, 1) := by decide +kernel
theorem dX11_trialNumber_95 : decode cX11_trialNumber 95 = .ok (.getfield 77, 3) := by decide +kernel
theorem dX11_trialNumber_98 : decode cX11_trialNumber 98 = .ok (.bipush 12, 2) := by decide +kernel
theorem dX11_trialNumber_100 : decode cX11_trialNumber 100 = .ok (.iaload, 1) := by decide +kernel
theorem dX11_trialNumber_101 : decode cX11_trialNumber 101 = .ok (.aload_n 0, 1) := by decide +kernel
theorem dX11_trialNumber_102 : decode cX11_trialNumber 102 = .ok (.getfield 77, 3) := by decide +kernel
theorem dX11_trialNumber_105 : decode cX11_trialNumber 105 = .ok (.bipush 10, 2) := by decide +kernel
theorem dX11_trialNumber_107 : decode cX11_trialNumber 107 = .ok (.iaload, 1) := by decide +kernel
theorem dX11_trialNumber_108 : decode cX11_trialNumber 108 = .ok (.isub, 1) := by decide +kernel
theorem dX11_trialNumber_109 : decode cX11_trialNumber 109 = .ok (.ireturn, 1) := by decide +kernel
theorem dX11_trialNumber_110 : decode cX11_trialNumber 110 = .ok (.iconst 2, 1) := by decide +kernel
theorem dX11_trialNumber_111 : decode cX11_trialNumber 111 = .ok (.aload_n 0, 1) := by decide +kernel
theorem dX11_trialNumber_112 : decode cX11_trialNumber 112 = .ok (.getfield 77, 3) := by decide +kernel
theorem dX11_trialNumber_115 : decode cX11_trialNumber 115 = .ok (.bipush 14, 2) := by decide +kernel
theorem dX11_trialNumber_117 : decode cX11_trialNumber 117 = .ok (.iaload, 1) := by decide +kernel
theorem dX11_trialNumber_118 : decode cX11_trialNumber 118 = .ok (.imul, 1) := by decide +kernel
theorem dX11_trialNumber_119 : decode cX11_trialNumber 119 = .ok (.aload_n 0, 1) := by decide +kernel
theorem dX11_trialNumber_120 : decode cX11_trialNumber 120 = .ok (.getfield 77, 3) := by decide +kernel
theorem dX11_trialNumber_123 : decode cX11_trialNumber 123 = .ok (.iconst 0, 1) := by decide +kernel
theorem dX11_trialNumber_124 : decode cX11_trialNumber 124 = .ok (.iaload, 1) := by decide +kernel
theorem dX11_trialNumber_125 : decode cX11_trialNumber 125 = .ok (.isub, 1) := by decide +kernel
theorem dX11_trialNumber_126 : decode cX11_trialNumber 126 = .ok (.aload_n 0, 1) := by decide +kernel
theorem dX11_trialNumber_127 : decode cX11_trialNumber 127 = .ok (.getfield 77, 3) := by decide +kernel
theorem dX11_trialNumber_130 : decode cX11_trialNumber 130 = .ok (.iconst 1, 1) := by decide +kernel
theorem dX11_trialNumber_131 : decode cX11_trialNumber 131 = .ok (.iaload, 1) := by decide +kernel
theorem dX11_trialNumber_132 : decode cX11_trialNumber 132 = .ok (.isub, 1) := by decide +kernel
theorem dX11_trialNumber_133 : decode cX11_trialNumber 133 = .ok (.ireturn, 1) := by decide +kernel
theorem dX11_trialNumber_134 : decode cX11_trialNumber 134 = .ok (.ldc_w 328, 3) := by decide +kernel
theorem dX11_trialNumber_137 : decode cX11_trialNumber 137 = .ok (.ireturn, 1) := by decide +kernel
def f_H_trialNumber (a0 : Int32) (I : Nat → Nat → Int32) (L : Nat → Nat → Int64) : Option Int32 := (if a0 = (0 : Int32) then ((f_H_sumOfTen I L).bind fun q8 => (some q8)) else (if a0 = (1 : Int32) then ((f_H_sumOfPairs I L).bind fun q10 => (some q10)) else (if a0 = (2 : Int32) then ((f_H_greatestOfPairs I L).bind fun q12 => (some q12)) else (if a0 = (3 : Int32) then (some ((((I 28 0) + (I 28 1)) - (I 28 8)) - (I 28 9))) else (if a0 = (4 : Int32) then ((f_H_farthestFromMean I L).bind fun q14 => (some q14)) else (if a0 = (5 : Int32) then (some ((I 28 12) - (I 28 10))) else (if a0 = (6 : Int32) then (some ((((2 : Int32) * (I 28 14)) - (I 28 0)) - (I 28 1))) else (some (-9999999 : Int32)))))))))
set_option maxRecDepth 100000 in
set_option maxHeartbeats 4000000 in
theorem c_H_trialNumber {G : xG} {S : List xSh} {Rf : Nat → Nat → Option Nat} (hT : xTH S Rf) {a0 : Int32} {I : Nat → Nat → Int32} {L : Nat → Nat → Int64} {q : Int32} (hf : f_H_trialNumber a0 I L = some q) : CT G 3 m_H_trialNumber [.ref (xP G 0), .int a0] (S, I, L, Rf) (some (.int q), (S, I, L, Rf)) := by
  refine CT.of (by decide +kernel) (Nat.le_of_ble_eq_true rfl) ?_
  show X G 3 m_H_trialNumber 0 [(0, .ref (xP G 0)), (1, .int a0)] [] (S, I, L, Rf) (some (.int q), (S, I, L, Rf))
  replace hf := (f_H_trialNumber.eq_1 _ _ _).symm.trans hf
  refine X_iload_n (pc := 0) (i := 1) 1 dX11_trialNumber_0 rfl rfl ?_
  by_cases c1 : a0 = (0 : Int32)
  · replace hf := (if_pos c1).symm.trans hf
    refine X_tabIn (pc := 1) (off := 43) (0) 44 dX11_trialNumber_1 (by rw [c1]; rfl) (by decide) ?_
    refine X_aload_n (pc := 44) (i := 0) 0 dX11_trialNumber_44 rfl rfl ?_
    obtain ⟨q8, c9, hf⟩ := bd_some hf
    refine X_invV_i (pc := 45) (c_H_sumOfTen hT c9) ok_H_sumOfTen (ci := 10) (sh_0 hT) k_1102 k_1104 k_33 nd_4 (by decide) rfl (Nat.le_of_ble_eq_true rfl) dX11_trialNumber_45 ?_
    cases hf
    exact X_ireturn (pc := 48) rfl dX11_trialNumber_48
  · replace hf := (if_neg c1).symm.trans hf
    by_cases c2 : a0 = (1 : Int32)
    · replace hf := (if_pos c2).symm.trans hf
      refine X_tabIn (pc := 1) (off := 48) (1) 49 dX11_trialNumber_1 (by rw [c2]; rfl) (by decide) ?_
      refine X_aload_n (pc := 49) (i := 0) 0 dX11_trialNumber_49 rfl rfl ?_
      obtain ⟨q10, c11, hf⟩ := bd_some hf
      refine X_invV_i (pc := 50) (c_H_sumOfPairs hT c11) ok_H_sumOfPairs (ci := 10) (sh_0 hT) k_1106 k_1108 k_34 nd_4 (by decide) rfl (Nat.le_of_ble_eq_true rfl) dX11_trialNumber_50 ?_
      cases hf
      exact X_ireturn (pc := 53) rfl dX11_trialNumber_53
    · replace hf := (if_neg c2).symm.trans hf
      by_cases c3 : a0 = (2 : Int32)
      · replace hf := (if_pos c3).symm.trans hf
        refine X_tabIn (pc := 1) (off := 53) (2) 54 dX11_trialNumber_1 (by rw [c3]; rfl) (by decide) ?_
        refine X_aload_n (pc := 54) (i := 0) 0 dX11_trialNumber_54 rfl rfl ?_
        obtain ⟨q12, c13, hf⟩ := bd_some hf
        refine X_invV_i (pc := 55) (c_H_greatestOfPairs hT c13) ok_H_greatestOfPairs (ci := 10) (sh_0 hT) k_1111 k_1113 k_35 nd_4 (by decide) rfl (Nat.le_of_ble_eq_true rfl) dX11_trialNumber_55 ?_
        cases hf
        exact X_ireturn (pc := 58) rfl dX11_trialNumber_58
      · replace hf := (if_neg c3).symm.trans hf
        by_cases c4 : a0 = (3 : Int32)
        · replace hf := (if_pos c4).symm.trans hf
          refine X_tabIn (pc := 1) (off := 58) (3) 59 dX11_trialNumber_1 (by rw [c4]; rfl) (by decide) ?_
          refine X_aload_n (pc := 59) (i := 0) 0 dX11_trialNumber_59 rfl rfl ?_
          refine X_getr (pc := 60) (a := 0) (ci := 10) (j := 14) (c := 28) (sh_0 hT) (by decide) k_508 (rf_0_11 hT) (fun _ h => h) dX11_trialNumber_60 ?_
          refine X_iconst (pc := 63) (0 : Int32) dX11_trialNumber_63 (by decide) ?_
          refine X_ialdj (pc := 64) (j := 0) (I 28 0) (sh_28 hT) (vp_in_lit (N := 15) (by decide) (by decide)) (by decide) rfl dX11_trialNumber_64 ?_
          refine X_aload_n (pc := 65) (i := 0) 0 dX11_trialNumber_65 rfl rfl ?_
          refine X_getr (pc := 66) (a := 0) (ci := 10) (j := 14) (c := 28) (sh_0 hT) (by decide) k_508 (rf_0_11 hT) (fun _ h => h) dX11_trialNumber_66 ?_
          refine X_iconst (pc := 69) (1 : Int32) dX11_trialNumber_69 (by decide) ?_
          refine X_ialdj (pc := 70) (j := 1) (I 28 1) (sh_28 hT) (vp_in_lit (N := 15) (by decide) (by decide)) (by decide) rfl dX11_trialNumber_70 ?_
          refine X_iadd (pc := 71) dX11_trialNumber_71 ?_
          refine X_aload_n (pc := 72) (i := 0) 0 dX11_trialNumber_72 rfl rfl ?_
          refine X_getr (pc := 73) (a := 0) (ci := 10) (j := 14) (c := 28) (sh_0 hT) (by decide) k_508 (rf_0_11 hT) (fun _ h => h) dX11_trialNumber_73 ?_
          refine X_bipush (pc := 76) (8 : Int32) dX11_trialNumber_76 (by decide) ?_
          refine X_ialdj (pc := 78) (j := 8) (I 28 8) (sh_28 hT) (vp_in_lit (N := 15) (by decide) (by decide)) (by decide) rfl dX11_trialNumber_78 ?_
          refine X_isub (pc := 79) dX11_trialNumber_79 ?_
          refine X_aload_n (pc := 80) (i := 0) 0 dX11_trialNumber_80 rfl rfl ?_
          refine X_getr (pc := 81) (a := 0) (ci := 10) (j := 14) (c := 28) (sh_0 hT) (by decide) k_508 (rf_0_11 hT) (fun _ h => h) dX11_trialNumber_81 ?_
          refine X_bipush (pc := 84) (9 : Int32) dX11_trialNumber_84 (by decide) ?_
          refine X_ialdj (pc := 86) (j := 9) (I 28 9) (sh_28 hT) (vp_in_lit (N := 15) (by decide) (by decide)) (by decide) rfl dX11_trialNumber_86 ?_
          refine X_isub (pc := 87) dX11_trialNumber_87 ?_
          cases hf
          exact X_ireturn (pc := 88) rfl dX11_trialNumber_88
        · replace hf := (if_neg c4).symm.trans hf
          by_cases c5 : a0 = (4 : Int32)
          · replace hf := (if_pos c5).symm.trans hf
            refine X_tabIn (pc := 1) (off := 88) (4) 89 dX11_trialNumber_1 (by rw [c5]; rfl) (by decide) ?_
            refine X_aload_n (pc := 89) (i := 0) 0 dX11_trialNumber_89 rfl rfl ?_
            obtain ⟨q14, c15, hf⟩ := bd_some hf
            refine X_invV_i (pc := 90) (c_H_farthestFromMean hT c15) ok_H_farthestFromMean (ci := 10) (sh_0 hT) k_1116 k_1118 k_36 nd_4 (by decide) rfl (Nat.le_of_ble_eq_true rfl) dX11_trialNumber_90 ?_
            cases hf
            exact X_ireturn (pc := 93) rfl dX11_trialNumber_93
          · replace hf := (if_neg c5).symm.trans hf
            by_cases c6 : a0 = (5 : Int32)
            · replace hf := (if_pos c6).symm.trans hf
              refine X_tabIn (pc := 1) (off := 93) (5) 94 dX11_trialNumber_1 (by rw [c6]; rfl) (by decide) ?_
              refine X_aload_n (pc := 94) (i := 0) 0 dX11_trialNumber_94 rfl rfl ?_
              refine X_getr (pc := 95) (a := 0) (ci := 10) (j := 14) (c := 28) (sh_0 hT) (by decide) k_508 (rf_0_11 hT) (fun _ h => h) dX11_trialNumber_95 ?_
              refine X_bipush (pc := 98) (12 : Int32) dX11_trialNumber_98 (by decide) ?_
              refine X_ialdj (pc := 100) (j := 12) (I 28 12) (sh_28 hT) (vp_in_lit (N := 15) (by decide) (by decide)) (by decide) rfl dX11_trialNumber_100 ?_
              refine X_aload_n (pc := 101) (i := 0) 0 dX11_trialNumber_101 rfl rfl ?_
              refine X_getr (pc := 102) (a := 0) (ci := 10) (j := 14) (c := 28) (sh_0 hT) (by decide) k_508 (rf_0_11 hT) (fun _ h => h) dX11_trialNumber_102 ?_
              refine X_bipush (pc := 105) (10 : Int32) dX11_trialNumber_105 (by decide) ?_
              refine X_ialdj (pc := 107) (j := 10) (I 28 10) (sh_28 hT) (vp_in_lit (N := 15) (by decide) (by decide)) (by decide) rfl dX11_trialNumber_107 ?_
              refine X_isub (pc := 108) dX11_trialNumber_108 ?_
              cases hf
              exact X_ireturn (pc := 109) rfl dX11_trialNumber_109
            · replace hf := (if_neg c6).symm.trans hf
              by_cases c7 : a0 = (6 : Int32)
              · replace hf := (if_pos c7).symm.trans hf
                refine X_tabIn (pc := 1) (off := 109) (6) 110 dX11_trialNumber_1 (by rw [c7]; rfl) (by decide) ?_
                refine X_iconst (pc := 110) (2 : Int32) dX11_trialNumber_110 (by decide) ?_
                refine X_aload_n (pc := 111) (i := 0) 0 dX11_trialNumber_111 rfl rfl ?_
                refine X_getr (pc := 112) (a := 0) (ci := 10) (j := 14) (c := 28) (sh_0 hT) (by decide) k_508 (rf_0_11 hT) (fun _ h => h) dX11_trialNumber_112 ?_
                refine X_bipush (pc := 115) (14 : Int32) dX11_trialNumber_115 (by decide) ?_
                refine X_ialdj (pc := 117) (j := 14) (I 28 14) (sh_28 hT) (vp_in_lit (N := 15) (by decide) (by decide)) (by decide) rfl dX11_trialNumber_117 ?_
                refine X_imul (pc := 118) dX11_trialNumber_118 ?_
                refine X_aload_n (pc := 119) (i := 0) 0 dX11_trialNumber_119 rfl rfl ?_
                refine X_getr (pc := 120) (a := 0) (ci := 10) (j := 14) (c := 28) (sh_0 hT) (by decide) k_508 (rf_0_11 hT) (fun _ h => h) dX11_trialNumber_120 ?_
                refine X_iconst (pc := 123) (0 : Int32) dX11_trialNumber_123 (by decide) ?_
                refine X_ialdj (pc := 124) (j := 0) (I 28 0) (sh_28 hT) (vp_in_lit (N := 15) (by decide) (by decide)) (by decide) rfl dX11_trialNumber_124 ?_
                refine X_isub (pc := 125) dX11_trialNumber_125 ?_
                refine X_aload_n (pc := 126) (i := 0) 0 dX11_trialNumber_126 rfl rfl ?_
                refine X_getr (pc := 127) (a := 0) (ci := 10) (j := 14) (c := 28) (sh_0 hT) (by decide) k_508 (rf_0_11 hT) (fun _ h => h) dX11_trialNumber_127 ?_
                refine X_iconst (pc := 130) (1 : Int32) dX11_trialNumber_130 (by decide) ?_
                refine X_ialdj (pc := 131) (j := 1) (I 28 1) (sh_28 hT) (vp_in_lit (N := 15) (by decide) (by decide)) (by decide) rfl dX11_trialNumber_131 ?_
                refine X_isub (pc := 132) dX11_trialNumber_132 ?_
                cases hf
                exact X_ireturn (pc := 133) rfl dX11_trialNumber_133
              · replace hf := (if_neg c7).symm.trans hf
                refine X_tabOut (pc := 1) 134 dX11_trialNumber_1 (by have zc1 := lv_neT (a := 0) c1 rfl; have zc2 := lv_neT (a := 1) c2 rfl; have zc3 := lv_neT (a := 2) c3 rfl; have zc4 := lv_neT (a := 3) c4 rfl; have zc5 := lv_neT (a := 4) c5 rfl; have zc6 := lv_neT (a := 5) c6 rfl; have zc7 := lv_neT (a := 6) c7 rfl; omega) (by decide) ?_
                refine X_ldcw (pc := 134) (-9999999 : Int32) k_1075 dX11_trialNumber_134 ?_
                cases hf
                exact X_ireturn (pc := 137) rfl dX11_trialNumber_137
theorem dX11_verdict_0 : decode cX11_verdict 0 = .ok (.iload_n 1, 1) := by decide +kernel
theorem dX11_verdict_1 : decode cX11_verdict 1 = .ok (.bipush 7, 2) := by decide +kernel
theorem dX11_verdict_3 : decode cX11_verdict 3 = .ok (.if_icmp .eq 9, 3) := by decide +kernel
theorem dX11_verdict_6 : decode cX11_verdict 6 = .ok (.aload_n 0, 1) := by decide +kernel
theorem dX11_verdict_7 : decode cX11_verdict 7 = .ok (.iload_n 1, 1) := by decide +kernel
theorem dX11_verdict_8 : decode cX11_verdict 8 = .ok (.invokevirtual 333, 3) := by decide +kernel
theorem dX11_verdict_11 : decode cX11_verdict 11 = .ok (.ireturn, 1) := by decide +kernel
theorem dX11_verdict_12 : decode cX11_verdict 12 = .ok (.iconst 0, 1) := by decide +kernel
theorem dX11_verdict_13 : decode cX11_verdict 13 = .ok (.istore_n 2, 1) := by decide +kernel
theorem dX11_verdict_14 : decode cX11_verdict 14 = .ok (.iconst 0, 1) := by decide +kernel
theorem dX11_verdict_15 : decode cX11_verdict 15 = .ok (.istore_n 3, 1) := by decide +kernel
theorem dX11_verdict_16 : decode cX11_verdict 16 = .ok (.iload_n 3, 1) := by decide +kernel
theorem dX11_verdict_17 : decode cX11_verdict 17 = .ok (.getstatic 336, 3) := by decide +kernel
theorem dX11_verdict_20 : decode cX11_verdict 20 = .ok (.arraylength, 1) := by decide +kernel
theorem dX11_verdict_21 : decode cX11_verdict 21 = .ok (.if_icmp .ge 36, 3) := by decide +kernel
theorem dX11_verdict_24 : decode cX11_verdict 24 = .ok (.aload_n 0, 1) := by decide +kernel
theorem dX11_verdict_25 : decode cX11_verdict 25 = .ok (.iload_n 3, 1) := by decide +kernel
theorem dX11_verdict_26 : decode cX11_verdict 26 = .ok (.invokevirtual 333, 3) := by decide +kernel
theorem dX11_verdict_29 : decode cX11_verdict 29 = .ok (.getstatic 336, 3) := by decide +kernel
theorem dX11_verdict_32 : decode cX11_verdict 32 = .ok (.iload_n 3, 1) := by decide +kernel
theorem dX11_verdict_33 : decode cX11_verdict 33 = .ok (.iaload, 1) := by decide +kernel
theorem dX11_verdict_34 : decode cX11_verdict 34 = .ok (.getstatic 339, 3) := by decide +kernel
theorem dX11_verdict_37 : decode cX11_verdict 37 = .ok (.iload_n 3, 1) := by decide +kernel
theorem dX11_verdict_38 : decode cX11_verdict 38 = .ok (.iaload, 1) := by decide +kernel
theorem dX11_verdict_39 : decode cX11_verdict 39 = .ok (.invokestatic 113, 3) := by decide +kernel
theorem dX11_verdict_42 : decode cX11_verdict 42 = .ok (.ifCond .ne 9, 3) := by decide +kernel
theorem dX11_verdict_45 : decode cX11_verdict 45 = .ok (.iload_n 2, 1) := by decide +kernel
theorem dX11_verdict_46 : decode cX11_verdict 46 = .ok (.iconst 1, 1) := by decide +kernel
theorem dX11_verdict_47 : decode cX11_verdict 47 = .ok (.iload_n 3, 1) := by decide +kernel
theorem dX11_verdict_48 : decode cX11_verdict 48 = .ok (.ishl, 1) := by decide +kernel
theorem dX11_verdict_49 : decode cX11_verdict 49 = .ok (.ior, 1) := by decide +kernel
theorem dX11_verdict_50 : decode cX11_verdict 50 = .ok (.istore_n 2, 1) := by decide +kernel
theorem dX11_verdict_51 : decode cX11_verdict 51 = .ok (.iinc 3 1, 3) := by decide +kernel
theorem dX11_verdict_54 : decode cX11_verdict 54 = .ok (.goto (-38), 3) := by decide +kernel
theorem dX11_verdict_57 : decode cX11_verdict 57 = .ok (.iload_n 2, 1) := by decide +kernel
theorem dX11_verdict_58 : decode cX11_verdict 58 = .ok (.ireturn, 1) := by decide +kernel
def f_H_verdict_L16 : Nat → Int32 → Int32 → (Nat → Nat → Int32) → (Nat → Nat → Int64) → Option Int32
  | 0, _, _, _, _ => none
  | n + 1, l2, l3, I, L => (if (7 : Int32) ≤ l3 then (some l2) else ((f_H_trialNumber l3 I L).bind fun q3 => (if (0 ≤ l3 ∧ l3 < (7 : Int32)) then (if (0 ≤ l3 ∧ l3 < (7 : Int32)) then (bnd (f_H_isWithin q3 (xsv false (l3.toNatClampNeg)) (xsv true (l3.toNatClampNeg))) fun x7 => (if x7 = (0 : Int32) then (bnd (l2 ||| ((1 : Int32) <<< (l3 &&& 31))) fun x9 => (f_H_verdict_L16 n x9 (l3 + (1 : Int32)) I L)) else (f_H_verdict_L16 n l2 (l3 + (1 : Int32)) I L))) else none) else none)))
set_option maxRecDepth 100000 in
set_option maxHeartbeats 4000000 in
theorem x_H_verdict_L16 {G : xG} {S : List xSh} {Rf : Nat → Nat → Option Nat} (hT : xTH S Rf) : ∀ (n : Nat) {l2 : Int32} {l3 : Int32} {I : Nat → Nat → Int32} {L : Nat → Nat → Int64} {q : Int32}, f_H_verdict_L16 n l2 l3 I L = some q → X G 4 m_H_verdict 16 [(0, .ref (xP G 0)), (2, .int l2), (3, .int l3)] [] (S, I, L, Rf) (some (.int q), (S, I, L, Rf)) := by
  intro n
  induction n with
  | zero =>
    intro l2 l3 I L q hf
    exact absurd (show none = some q from hf) (by simp)
  | succ n ih =>
    intro l2 l3 I L q hf
    replace hf := (f_H_verdict_L16.eq_2 _ _ _ _ _).symm.trans hf
    refine X_iload_n (pc := 16) (i := 3) 2 dX11_verdict_16 rfl rfl ?_
    refine X_gets (pc := 17) false k_1120 dX11_verdict_17 ?_
    refine X_salen (pc := 20) dX11_verdict_20 ?_
    by_cases c2 : (7 : Int32) ≤ l3
    · replace hf := (if_pos c2).symm.trans hf
      refine X_icmp_ge_t (pc := 21) 57 dX11_verdict_21 (by decide) c2 ?_
      refine X_iload_n (pc := 57) (i := 2) 1 dX11_verdict_57 rfl rfl ?_
      cases hf
      exact X_ireturn (pc := 58) rfl dX11_verdict_58
    · replace hf := (if_neg c2).symm.trans hf
      refine X_icmp_ge_f (pc := 21) 57 dX11_verdict_21 (by decide) c2 ?_
      refine X_aload_n (pc := 24) (i := 0) 0 dX11_verdict_24 rfl rfl ?_
      refine X_iload_n (pc := 25) (i := 3) 2 dX11_verdict_25 rfl rfl ?_
      obtain ⟨q3, c4, hf⟩ := bd_some hf
      refine X_invV_i (pc := 26) (c_H_trialNumber hT c4) ok_H_trialNumber (ci := 10) (sh_0 hT) k_1098 k_1100 k_32 nd_8 (by decide) rfl (Nat.le_of_ble_eq_true rfl) dX11_verdict_26 ?_
      refine X_gets (pc := 29) false k_1120 dX11_verdict_29 ?_
      refine X_iload_n (pc := 32) (i := 3) 2 dX11_verdict_32 rfl rfl ?_
      obtain ⟨c5, hf⟩ := gd_some hf
      refine X_saldj (pc := 33) (vp_in_lit (N := 7) c5 (by decide)) rfl dX11_verdict_33 ?_
      refine X_gets (pc := 34) true k_1122 dX11_verdict_34 ?_
      refine X_iload_n (pc := 37) (i := 3) 2 dX11_verdict_37 rfl rfl ?_
      obtain ⟨c6, hf⟩ := gd_some hf
      refine X_saldj (pc := 38) (vp_in_lit (N := 7) c6 (by decide)) rfl dX11_verdict_38 ?_
      refine X_invS_i (pc := 39) (c_H_isWithin hT rfl) ok_H_isWithin k_563 k_564 nd_6 (by decide) rfl (Nat.le_of_ble_eq_true rfl) dX11_verdict_39 ?_
      obtain ⟨x7, ex7, hf⟩ := bnd_e hf
      refine X_tope ex7 ?_
      by_cases c8 : x7 = (0 : Int32)
      · replace hf := (if_pos c8).symm.trans hf
        refine X_if_ne_f (pc := 42) 51 dX11_verdict_42 (by decide) c8 ?_
        refine X_iload_n (pc := 45) (i := 2) 1 dX11_verdict_45 rfl rfl ?_
        refine X_iconst (pc := 46) (1 : Int32) dX11_verdict_46 (by decide) ?_
        refine X_iload_n (pc := 47) (i := 3) 2 dX11_verdict_47 rfl rfl ?_
        refine X_ishl (pc := 48) dX11_verdict_48 ?_
        refine X_ior (pc := 49) dX11_verdict_49 ?_
        obtain ⟨x9, ex9, hf⟩ := bnd_e hf
        refine X_tope ex9 ?_
        refine X_istore_n (pc := 50) (i := 2) [(2, .int x9), (0, .ref (xP G 0)), (3, .int l3)] dX11_verdict_50 rfl (by decide) rfl ?_
        refine X_iinc (pc := 51) (i := 3) (q := 2) (v := (l3 + (1 : Int32))) [(3, .int (l3 + (1 : Int32))), (2, .int x9), (0, .ref (xP G 0))] dX11_verdict_51 rfl rfl (by decide) rfl ?_
        refine X_goto (pc := 54) 16 dX11_verdict_54 (by decide) ?_
        exact X_lvs [2, 1, 0] rfl (ih hf)
      · replace hf := (if_neg c8).symm.trans hf
        refine X_if_ne_t (pc := 42) 51 dX11_verdict_42 (by decide) c8 ?_
        refine X_iinc (pc := 51) (i := 3) (q := 2) (v := (l3 + (1 : Int32))) [(3, .int (l3 + (1 : Int32))), (0, .ref (xP G 0)), (2, .int l2)] dX11_verdict_51 rfl rfl (by decide) rfl ?_
        refine X_goto (pc := 54) 16 dX11_verdict_54 (by decide) ?_
        exact X_lvs [1, 2, 0] rfl (ih hf)
def f_H_verdict (a0 : Int32) (I : Nat → Nat → Int32) (L : Nat → Nat → Int64) : Option Int32 := (if a0 = (7 : Int32) then (f_H_verdict_L16 xF (0 : Int32) (0 : Int32) I L) else ((f_H_trialNumber a0 I L).bind fun q10 => (some q10)))
set_option maxRecDepth 100000 in
set_option maxHeartbeats 4000000 in
theorem c_H_verdict {G : xG} {S : List xSh} {Rf : Nat → Nat → Option Nat} (hT : xTH S Rf) {a0 : Int32} {I : Nat → Nat → Int32} {L : Nat → Nat → Int64} {q : Int32} (hf : f_H_verdict a0 I L = some q) : CT G 4 m_H_verdict [.ref (xP G 0), .int a0] (S, I, L, Rf) (some (.int q), (S, I, L, Rf)) := by
  refine CT.of (by decide +kernel) (Nat.le_of_ble_eq_true rfl) ?_
  show X G 4 m_H_verdict 0 [(0, .ref (xP G 0)), (1, .int a0)] [] (S, I, L, Rf) (some (.int q), (S, I, L, Rf))
  replace hf := (f_H_verdict.eq_1 _ _ _).symm.trans hf
  refine X_iload_n (pc := 0) (i := 1) 1 dX11_verdict_0 rfl rfl ?_
  refine X_bipush (pc := 1) (7 : Int32) dX11_verdict_1 (by decide) ?_
  by_cases c1 : a0 = (7 : Int32)
  · replace hf := (if_pos c1).symm.trans hf
    refine X_icmp_eq_t (pc := 3) 12 dX11_verdict_3 (by decide) c1 ?_
    refine X_iconst (pc := 12) (0 : Int32) dX11_verdict_12 (by decide) ?_
    refine X_istore_n (pc := 13) (i := 2) [(2, .int (0 : Int32)), (0, .ref (xP G 0)), (1, .int a0)] dX11_verdict_13 rfl (by decide) rfl ?_
    refine X_iconst (pc := 14) (0 : Int32) dX11_verdict_14 (by decide) ?_
    refine X_istore_n (pc := 15) (i := 3) [(3, .int (0 : Int32)), (2, .int (0 : Int32)), (0, .ref (xP G 0)), (1, .int a0)] dX11_verdict_15 rfl (by decide) rfl ?_
    exact X_lvs [2, 1, 0] rfl (x_H_verdict_L16 hT xF hf)
  · replace hf := (if_neg c1).symm.trans hf
    refine X_icmp_eq_f (pc := 3) 12 dX11_verdict_3 (by decide) c1 ?_
    refine X_aload_n (pc := 6) (i := 0) 0 dX11_verdict_6 rfl rfl ?_
    refine X_iload_n (pc := 7) (i := 1) 1 dX11_verdict_7 rfl rfl ?_
    obtain ⟨q10, c11, hf⟩ := bd_some hf
    refine X_invV_i (pc := 8) (c_H_trialNumber hT c11) ok_H_trialNumber (ci := 10) (sh_0 hT) k_1098 k_1100 k_32 nd_8 (by decide) rfl (Nat.le_of_ble_eq_true rfl) dX11_verdict_8 ?_
    cases hf
    exact X_ireturn (pc := 11) rfl dX11_verdict_11
theorem dX0_has_0 : decode cX0_has 0 = .ok (.iload_n 0, 1) := by decide +kernel
theorem dX0_has_1 : decode cX0_has 1 = .ok (.iconst 0, 1) := by decide +kernel
theorem dX0_has_2 : decode cX0_has 2 = .ok (.iconst 3, 1) := by decide +kernel
theorem dX0_has_3 : decode cX0_has 3 = .ok (.invokestatic 25, 3) := by decide +kernel
theorem dX0_has_6 : decode cX0_has 6 = .ok (.ifCond .eq 17, 3) := by decide +kernel
theorem dX0_has_9 : decode cX0_has 9 = .ok (.iload_n 1, 1) := by decide +kernel
theorem dX0_has_10 : decode cX0_has 10 = .ok (.iconst 0, 1) := by decide +kernel
theorem dX0_has_11 : decode cX0_has 11 = .ok (.bipush 31, 2) := by decide +kernel
theorem dX0_has_13 : decode cX0_has 13 = .ok (.invokestatic 25, 3) := by decide +kernel
theorem dX0_has_16 : decode cX0_has 16 = .ok (.ifCond .eq 7, 3) := by decide +kernel
theorem dX0_has_19 : decode cX0_has 19 = .ok (.iconst 1, 1) := by decide +kernel
theorem dX0_has_20 : decode cX0_has 20 = .ok (.goto 4, 3) := by decide +kernel
theorem dX0_has_23 : decode cX0_has 23 = .ok (.iconst 0, 1) := by decide +kernel
theorem dX0_has_24 : decode cX0_has 24 = .ok (.ireturn, 1) := by decide +kernel
def f_Be_has (a0 : Int32) (a1 : Int32) : Int32 := (bnd (f_H_isWithin a0 (0 : Int32) (3 : Int32)) fun x1 => (if x1 = (0 : Int32) then (0 : Int32) else (bnd (f_H_isWithin a1 (0 : Int32) (31 : Int32)) fun x3 => (if x3 = (0 : Int32) then (0 : Int32) else (1 : Int32)))))
set_option maxRecDepth 100000 in
set_option maxHeartbeats 4000000 in
theorem c_Be_has {G : xG} {S : List xSh} {Rf : Nat → Nat → Option Nat} (hT : xTH S Rf) {a0 : Int32} {a1 : Int32} {I : Nat → Nat → Int32} {L : Nat → Nat → Int64} {q : Int32} (hf : f_Be_has a0 a1 = q) : CT G 2 m_Be_has [.int a0, .int a1] (S, I, L, Rf) (some (.int q), (S, I, L, Rf)) := by
  refine CT.of (by decide +kernel) (Nat.le_of_ble_eq_true rfl) ?_
  show X G 2 m_Be_has 0 [(0, .int a0), (1, .int a1)] [] (S, I, L, Rf) (some (.int q), (S, I, L, Rf))
  replace hf := (f_Be_has.eq_1 _ _).symm.trans hf
  refine X_iload_n (pc := 0) (i := 0) 0 dX0_has_0 rfl rfl ?_
  refine X_iconst (pc := 1) (0 : Int32) dX0_has_1 (by decide) ?_
  refine X_iconst (pc := 2) (3 : Int32) dX0_has_2 (by decide) ?_
  refine X_invSN_i (pc := 3) (c_H_isWithin hT rfl) ok_H_isWithin k_1131 k_564 nd_6 (by decide) rfl (Nat.le_of_ble_eq_true rfl) dX0_has_3 ?_
  obtain ⟨x1, ex1, hf⟩ := bnd_e hf
  refine X_tope ex1 ?_
  by_cases c2 : x1 = (0 : Int32)
  · replace hf := (if_pos c2).symm.trans hf
    refine X_if_eq_t (pc := 6) 23 dX0_has_6 (by decide) c2 ?_
    refine X_iconst (pc := 23) (0 : Int32) dX0_has_23 (by decide) ?_
    subst hf
    exact X_zreturn (pc := 24) rfl (nar_b (by decide)) dX0_has_24
  · replace hf := (if_neg c2).symm.trans hf
    refine X_if_eq_f (pc := 6) 23 dX0_has_6 (by decide) c2 ?_
    refine X_iload_n (pc := 9) (i := 1) 1 dX0_has_9 rfl rfl ?_
    refine X_iconst (pc := 10) (0 : Int32) dX0_has_10 (by decide) ?_
    refine X_bipush (pc := 11) (31 : Int32) dX0_has_11 (by decide) ?_
    refine X_invSN_i (pc := 13) (c_H_isWithin hT rfl) ok_H_isWithin k_1131 k_564 nd_6 (by decide) rfl (Nat.le_of_ble_eq_true rfl) dX0_has_13 ?_
    obtain ⟨x3, ex3, hf⟩ := bnd_e hf
    refine X_tope ex3 ?_
    by_cases c4 : x3 = (0 : Int32)
    · replace hf := (if_pos c4).symm.trans hf
      refine X_if_eq_t (pc := 16) 23 dX0_has_16 (by decide) c4 ?_
      refine X_iconst (pc := 23) (0 : Int32) dX0_has_23 (by decide) ?_
      subst hf
      exact X_zreturn (pc := 24) rfl (nar_b (by decide)) dX0_has_24
    · replace hf := (if_neg c4).symm.trans hf
      refine X_if_eq_f (pc := 16) 23 dX0_has_16 (by decide) c4 ?_
      refine X_iconst (pc := 19) (1 : Int32) dX0_has_19 (by decide) ?_
      refine X_goto (pc := 20) 24 dX0_has_20 (by decide) ?_
      subst hf
      exact X_zreturn (pc := 24) rfl (nar_b (by decide)) dX0_has_24
theorem dX0_put_0 : decode cX0_put 0 = .ok (.iload_n 1, 1) := by decide +kernel
theorem dX0_put_1 : decode cX0_put 1 = .ok (.bipush 32, 2) := by decide +kernel
theorem dX0_put_3 : decode cX0_put 3 = .ok (.imul, 1) := by decide +kernel
theorem dX0_put_4 : decode cX0_put 4 = .ok (.iload_n 2, 1) := by decide +kernel
theorem dX0_put_5 : decode cX0_put 5 = .ok (.iadd, 1) := by decide +kernel
theorem dX0_put_6 : decode cX0_put 6 = .ok (.istore 4, 2) := by decide +kernel
theorem dX0_put_8 : decode cX0_put 8 = .ok (.aload_n 0, 1) := by decide +kernel
theorem dX0_put_9 : decode cX0_put 9 = .ok (.getfield 18, 3) := by decide +kernel
theorem dX0_put_12 : decode cX0_put 12 = .ok (.iload 4, 2) := by decide +kernel
theorem dX0_put_14 : decode cX0_put 14 = .ok (.iaload, 1) := by decide +kernel
theorem dX0_put_15 : decode cX0_put 15 = .ok (.istore 5, 2) := by decide +kernel
theorem dX0_put_17 : decode cX0_put 17 = .ok (.aload_n 0, 1) := by decide +kernel
theorem dX0_put_18 : decode cX0_put 18 = .ok (.getfield 18, 3) := by decide +kernel
theorem dX0_put_21 : decode cX0_put 21 = .ok (.iload 4, 2) := by decide +kernel
theorem dX0_put_23 : decode cX0_put 23 = .ok (.iload_n 3, 1) := by decide +kernel
theorem dX0_put_24 : decode cX0_put 24 = .ok (.iastore, 1) := by decide +kernel
theorem dX0_put_25 : decode cX0_put 25 = .ok (.aload_n 0, 1) := by decide +kernel
theorem dX0_put_26 : decode cX0_put 26 = .ok (.getfield 21, 3) := by decide +kernel
theorem dX0_put_29 : decode cX0_put 29 = .ok (.iload 4, 2) := by decide +kernel
theorem dX0_put_31 : decode cX0_put 31 = .ok (.iconst 0, 1) := by decide +kernel
theorem dX0_put_32 : decode cX0_put 32 = .ok (.bastore, 1) := by decide +kernel
theorem dX0_put_33 : decode cX0_put 33 = .ok (.iload 5, 2) := by decide +kernel
theorem dX0_put_35 : decode cX0_put 35 = .ok (.ireturn, 1) := by decide +kernel
def f_Be_put (a0 : Int32) (a1 : Int32) (a2 : Int32) (I : Nat → Nat → Int32) (L : Nat → Nat → Int64) : Option (Int32 × (Nat → Nat → Int32) × (Nat → Nat → Int64)) := (bnd ((a0 * (32 : Int32)) + a1) fun x1 => (if (0 ≤ x1 ∧ x1 < (128 : Int32)) then (bnd (I 32 (x1.toNatClampNeg)) fun x3 => (if (0 ≤ x1 ∧ x1 < (128 : Int32)) then (if (0 ≤ x1 ∧ x1 < (128 : Int32)) then (some (x3, (uI (uI I 32 (x1.toNatClampNeg) a2) 33 (x1.toNatClampNeg) (0 : Int32)), L)) else none) else none)) else none))
set_option maxRecDepth 100000 in
set_option maxHeartbeats 4000000 in
theorem c_Be_put {G : xG} {S : List xSh} {Rf : Nat → Nat → Option Nat} (hT : xTH S Rf) {a0 : Int32} {a1 : Int32} {a2 : Int32} {I : Nat → Nat → Int32} {L : Nat → Nat → Int64} {q : (Int32 × (Nat → Nat → Int32) × (Nat → Nat → Int64))} (hf : f_Be_put a0 a1 a2 I L = some q) : CT G 1 m_Be_put [.ref (xP G 29), .int a0, .int a1, .int a2] (S, I, L, Rf) (some (.int q.1), (S, q.2.1, q.2.2, Rf)) := by
  refine CT.of (by decide +kernel) (Nat.le_of_ble_eq_true rfl) ?_
  show X G 1 m_Be_put 0 [(0, .ref (xP G 29)), (1, .int a0), (2, .int a1), (3, .int a2)] [] (S, I, L, Rf) (some (.int q.1), (S, q.2.1, q.2.2, Rf))
  replace hf := (f_Be_put.eq_1 _ _ _ _ _).symm.trans hf
  refine X_iload_n (pc := 0) (i := 1) 1 dX0_put_0 rfl rfl ?_
  refine X_bipush (pc := 1) (32 : Int32) dX0_put_1 (by decide) ?_
  refine X_imul (pc := 3) dX0_put_3 ?_
  refine X_iload_n (pc := 4) (i := 2) 2 dX0_put_4 rfl rfl ?_
  refine X_iadd (pc := 5) dX0_put_5 ?_
  obtain ⟨x1, ex1, hf⟩ := bnd_e hf
  refine X_tope ex1 ?_
  refine X_istore (pc := 6) [(4, .int x1), (0, .ref (xP G 29)), (1, .int a0), (2, .int a1), (3, .int a2)] dX0_put_6 (by decide) rfl ?_
  refine X_aload_n (pc := 8) (i := 0) 1 dX0_put_8 rfl rfl ?_
  refine X_getr (pc := 9) (a := 29) (ci := 0) (j := 3) (c := 32) (sh_29 hT) (by decide) k_339 (rf_29_3 hT) (fun _ h => h) dX0_put_9 ?_
  refine X_iload (pc := 12) 0 dX0_put_12 rfl ?_
  obtain ⟨c2, hf⟩ := gd_some hf
  refine X_ialdj (pc := 14) (j := x1.toNatClampNeg) (I 32 (x1.toNatClampNeg)) (sh_32 hT) (vp_in_lit (N := 128) c2 (by decide)) rfl rfl dX0_put_14 ?_
  obtain ⟨x3, ex3, hf⟩ := bnd_e hf
  refine X_tope ex3 ?_
  refine X_istore (pc := 15) [(5, .int x3), (4, .int x1), (0, .ref (xP G 29)), (1, .int a0), (2, .int a1), (3, .int a2)] dX0_put_15 (by decide) rfl ?_
  refine X_aload_n (pc := 17) (i := 0) 2 dX0_put_17 rfl rfl ?_
  refine X_getr (pc := 18) (a := 29) (ci := 0) (j := 3) (c := 32) (sh_29 hT) (by decide) k_339 (rf_29_3 hT) (fun _ h => h) dX0_put_18 ?_
  refine X_iload (pc := 21) 1 dX0_put_21 rfl ?_
  refine X_iload_n (pc := 23) (i := 3) 5 dX0_put_23 rfl rfl ?_
  obtain ⟨c4, hf⟩ := gd_some hf
  refine X_iastj (pc := 24) (j := (x1.toNatClampNeg)) (sh_32 hT) (vp_in_lit (N := 128) c4 (by decide)) rfl dX0_put_24 ?_
  refine X_aload_n (pc := 25) (i := 0) 2 dX0_put_25 rfl rfl ?_
  refine X_getr (pc := 26) (a := 29) (ci := 0) (j := 4) (c := 33) (sh_29 hT) (by decide) k_340 (rf_29_4 hT) (fun _ h => h) dX0_put_26 ?_
  refine X_iload (pc := 29) 1 dX0_put_29 rfl ?_
  refine X_iconst (pc := 31) (0 : Int32) dX0_put_31 (by decide) ?_
  obtain ⟨c5, hf⟩ := gd_some hf
  refine X_zastj (pc := 32) (j := (x1.toNatClampNeg)) (by decide) (sh_33 hT) (vp_in_lit (N := 128) c5 (by decide)) rfl dX0_put_32 ?_
  refine X_iload (pc := 33) 0 dX0_put_33 rfl ?_
  cases hf
  exact X_ireturn (pc := 35) rfl dX0_put_35
theorem u_Be_put {S : List xSh} {a0 : Int32} {a1 : Int32} {a2 : Int32} {I : Nat → Nat → Int32} {L : Nat → Nat → Int64} {q : (Int32 × (Nat → Nat → Int32) × (Nat → Nat → Int64))} (hf : f_Be_put a0 a1 a2 I L = some q) : FR S [32, 33] [] I q.2.1 L q.2.2 := by
  replace hf := (f_Be_put.eq_1 _ _ _ _ _).symm.trans hf
  obtain ⟨x1, ex1, hf⟩ := bnd_e hf
  obtain ⟨c2, hf⟩ := gd_some hf
  obtain ⟨x3, ex3, hf⟩ := bnd_e hf
  obtain ⟨c4, hf⟩ := gd_some hf
  obtain ⟨c5, hf⟩ := gd_some hf
  cases hf
  exact (FR.ai (FR.ai FR.rf (by decide)) (by decide))
theorem dX11_change_0 : decode cX11_change 0 = .ok (.iload_n 1, 1) := by decide +kernel
theorem dX11_change_1 : decode cX11_change 1 = .ok (.iload_n 2, 1) := by decide +kernel
theorem dX11_change_2 : decode cX11_change 2 = .ok (.invokestatic 342, 3) := by decide +kernel
theorem dX11_change_5 : decode cX11_change 5 = .ok (.ifCond .eq 14, 3) := by decide +kernel
theorem dX11_change_8 : decode cX11_change 8 = .ok (.iload_n 3, 1) := by decide +kernel
theorem dX11_change_9 : decode cX11_change 9 = .ok (.ldc 179, 2) := by decide +kernel
theorem dX11_change_11 : decode cX11_change 11 = .ok (.ldc 133, 2) := by decide +kernel
theorem dX11_change_13 : decode cX11_change 13 = .ok (.invokestatic 113, 3) := by decide +kernel
theorem dX11_change_16 : decode cX11_change 16 = .ok (.ifCond .ne 5, 3) := by decide +kernel
theorem dX11_change_19 : decode cX11_change 19 = .ok (.iconst (-1), 1) := by decide +kernel
theorem dX11_change_20 : decode cX11_change 20 = .ok (.ireturn, 1) := by decide +kernel
theorem dX11_change_21 : decode cX11_change 21 = .ok (.aload_n 0, 1) := by decide +kernel
theorem dX11_change_22 : decode cX11_change 22 = .ok (.getfield 84, 3) := by decide +kernel
theorem dX11_change_25 : decode cX11_change 25 = .ok (.iload_n 1, 1) := by decide +kernel
theorem dX11_change_26 : decode cX11_change 26 = .ok (.iload_n 2, 1) := by decide +kernel
theorem dX11_change_27 : decode cX11_change 27 = .ok (.iload_n 3, 1) := by decide +kernel
theorem dX11_change_28 : decode cX11_change 28 = .ok (.invokevirtual 343, 3) := by decide +kernel
theorem dX11_change_31 : decode cX11_change 31 = .ok (.ireturn, 1) := by decide +kernel
def f_H_change (a0 : Int32) (a1 : Int32) (a2 : Int32) (I : Nat → Nat → Int32) (L : Nat → Nat → Int64) : Option (Int32 × (Nat → Nat → Int32) × (Nat → Nat → Int64)) := (if (f_Be_has a0 a1) = (0 : Int32) then (some ((-1 : Int32), I, L)) else (bnd (f_H_isWithin a2 (-1000000 : Int32) (1000000 : Int32)) fun x2 => (if x2 = (0 : Int32) then (some ((-1 : Int32), I, L)) else ((f_Be_put a0 a1 a2 I L).bind fun q4 => (some (q4.1, q4.2.1, q4.2.2))))))
set_option maxRecDepth 100000 in
set_option maxHeartbeats 4000000 in
theorem c_H_change {G : xG} {S : List xSh} {Rf : Nat → Nat → Option Nat} (hT : xTH S Rf) {a0 : Int32} {a1 : Int32} {a2 : Int32} {I : Nat → Nat → Int32} {L : Nat → Nat → Int64} {q : (Int32 × (Nat → Nat → Int32) × (Nat → Nat → Int64))} (hf : f_H_change a0 a1 a2 I L = some q) : CT G 3 m_H_change [.ref (xP G 0), .int a0, .int a1, .int a2] (S, I, L, Rf) (some (.int q.1), (S, q.2.1, q.2.2, Rf)) := by
  refine CT.of (by decide +kernel) (Nat.le_of_ble_eq_true rfl) ?_
  show X G 3 m_H_change 0 [(0, .ref (xP G 0)), (1, .int a0), (2, .int a1), (3, .int a2)] [] (S, I, L, Rf) (some (.int q.1), (S, q.2.1, q.2.2, Rf))
  replace hf := (f_H_change.eq_1 _ _ _ _ _).symm.trans hf
  refine X_iload_n (pc := 0) (i := 1) 1 dX11_change_0 rfl rfl ?_
  refine X_iload_n (pc := 1) (i := 2) 2 dX11_change_1 rfl rfl ?_
  refine X_invS_i (pc := 2) (c_Be_has hT rfl) ok_Be_has k_1128 k_1129 nd_25 (by decide) rfl (Nat.le_of_ble_eq_true rfl) dX11_change_2 ?_
  by_cases c1 : (f_Be_has a0 a1) = (0 : Int32)
  · replace hf := (if_pos c1).symm.trans hf
    refine X_if_eq_t (pc := 5) 19 dX11_change_5 (by decide) c1 ?_
    refine X_iconst (pc := 19) (-1 : Int32) dX11_change_19 (by decide) ?_
    cases hf
    exact X_ireturn (pc := 20) rfl dX11_change_20
  · replace hf := (if_neg c1).symm.trans hf
    refine X_if_eq_f (pc := 5) 19 dX11_change_5 (by decide) c1 ?_
    refine X_iload_n (pc := 8) (i := 3) 3 dX11_change_8 rfl rfl ?_
    refine X_ldc (pc := 9) (-1000000 : Int32) k_837 dX11_change_9 ?_
    refine X_ldc (pc := 11) (1000000 : Int32) k_636 dX11_change_11 ?_
    refine X_invS_i (pc := 13) (c_H_isWithin hT rfl) ok_H_isWithin k_563 k_564 nd_6 (by decide) rfl (Nat.le_of_ble_eq_true rfl) dX11_change_13 ?_
    obtain ⟨x2, ex2, hf⟩ := bnd_e hf
    refine X_tope ex2 ?_
    by_cases c3 : x2 = (0 : Int32)
    · replace hf := (if_pos c3).symm.trans hf
      refine X_if_ne_f (pc := 16) 21 dX11_change_16 (by decide) c3 ?_
      refine X_iconst (pc := 19) (-1 : Int32) dX11_change_19 (by decide) ?_
      cases hf
      exact X_ireturn (pc := 20) rfl dX11_change_20
    · replace hf := (if_neg c3).symm.trans hf
      refine X_if_ne_t (pc := 16) 21 dX11_change_16 (by decide) c3 ?_
      refine X_aload_n (pc := 21) (i := 0) 0 dX11_change_21 rfl rfl ?_
      refine X_getr (pc := 22) (a := 0) (ci := 10) (j := 15) (c := 29) (sh_0 hT) (by decide) k_509 (rf_0_12 hT) (fun _ h => h) dX11_change_22 ?_
      refine X_iload_n (pc := 25) (i := 1) 1 dX11_change_25 rfl rfl ?_
      refine X_iload_n (pc := 26) (i := 2) 2 dX11_change_26 rfl rfl ?_
      refine X_iload_n (pc := 27) (i := 3) 3 dX11_change_27 rfl rfl ?_
      obtain ⟨q4, c5, hf⟩ := bd_some hf
      refine X_invV_i (pc := 28) (c_Be_put hT c5) ok_Be_put (ci := 0) (sh_29 hT) k_1132 k_1133 k_1134 nd_16 (by decide) rfl (Nat.le_of_ble_eq_true rfl) dX11_change_28 ?_
      cases hf
      exact X_ireturn (pc := 31) rfl dX11_change_31
theorem u_H_change {S : List xSh} {a0 : Int32} {a1 : Int32} {a2 : Int32} {I : Nat → Nat → Int32} {L : Nat → Nat → Int64} {q : (Int32 × (Nat → Nat → Int32) × (Nat → Nat → Int64))} (hf : f_H_change a0 a1 a2 I L = some q) : FR S [32, 33] [] I q.2.1 L q.2.2 := by
  replace hf := (f_H_change.eq_1 _ _ _ _ _).symm.trans hf
  by_cases c1 : (f_Be_has a0 a1) = (0 : Int32)
  · replace hf := (if_pos c1).symm.trans hf
    cases hf
    exact FR.rf
  · replace hf := (if_neg c1).symm.trans hf
    obtain ⟨x2, ex2, hf⟩ := bnd_e hf
    by_cases c3 : x2 = (0 : Int32)
    · replace hf := (if_pos c3).symm.trans hf
      cases hf
      exact FR.rf
    · replace hf := (if_neg c3).symm.trans hf
      obtain ⟨q4, c5, hf⟩ := bd_some hf
      cases hf
      exact (FR.tr FR.rf (u_Be_put (q := q4) c5) (by decide) (by decide))
theorem dX0_ofVersion_0 : decode cX0_ofVersion 0 = .ok (.aload_n 0, 1) := by decide +kernel
theorem dX0_ofVersion_1 : decode cX0_ofVersion 1 = .ok (.getfield 15, 3) := by decide +kernel
theorem dX0_ofVersion_4 : decode cX0_ofVersion 4 = .ok (.iload_n 1, 1) := by decide +kernel
theorem dX0_ofVersion_5 : decode cX0_ofVersion 5 = .ok (.bipush 32, 2) := by decide +kernel
theorem dX0_ofVersion_7 : decode cX0_ofVersion 7 = .ok (.imul, 1) := by decide +kernel
theorem dX0_ofVersion_8 : decode cX0_ofVersion 8 = .ok (.iload_n 2, 1) := by decide +kernel
theorem dX0_ofVersion_9 : decode cX0_ofVersion 9 = .ok (.iadd, 1) := by decide +kernel
theorem dX0_ofVersion_10 : decode cX0_ofVersion 10 = .ok (.iaload, 1) := by decide +kernel
theorem dX0_ofVersion_11 : decode cX0_ofVersion 11 = .ok (.ireturn, 1) := by decide +kernel
def f_Be_ofVersion (a0 : Int32) (a1 : Int32) (I : Nat → Nat → Int32) (L : Nat → Nat → Int64) : Option Int32 := (if (0 ≤ ((a0 * (32 : Int32)) + a1) ∧ ((a0 * (32 : Int32)) + a1) < (16032 : Int32)) then (some (I 31 (((a0 * (32 : Int32)) + a1).toNatClampNeg))) else none)
set_option maxRecDepth 100000 in
set_option maxHeartbeats 4000000 in
theorem c_Be_ofVersion {G : xG} {S : List xSh} {Rf : Nat → Nat → Option Nat} (hT : xTH S Rf) {a0 : Int32} {a1 : Int32} {I : Nat → Nat → Int32} {L : Nat → Nat → Int64} {q : Int32} (hf : f_Be_ofVersion a0 a1 I L = some q) : CT G 1 m_Be_ofVersion [.ref (xP G 29), .int a0, .int a1] (S, I, L, Rf) (some (.int q), (S, I, L, Rf)) := by
  refine CT.of (by decide +kernel) (Nat.le_of_ble_eq_true rfl) ?_
  show X G 1 m_Be_ofVersion 0 [(0, .ref (xP G 29)), (1, .int a0), (2, .int a1)] [] (S, I, L, Rf) (some (.int q), (S, I, L, Rf))
  replace hf := (f_Be_ofVersion.eq_1 _ _ _ _).symm.trans hf
  refine X_aload_n (pc := 0) (i := 0) 0 dX0_ofVersion_0 rfl rfl ?_
  refine X_getr (pc := 1) (a := 29) (ci := 0) (j := 2) (c := 31) (sh_29 hT) (by decide) k_338 (rf_29_2 hT) (fun _ h => h) dX0_ofVersion_1 ?_
  refine X_iload_n (pc := 4) (i := 1) 1 dX0_ofVersion_4 rfl rfl ?_
  refine X_bipush (pc := 5) (32 : Int32) dX0_ofVersion_5 (by decide) ?_
  refine X_imul (pc := 7) dX0_ofVersion_7 ?_
  refine X_iload_n (pc := 8) (i := 2) 2 dX0_ofVersion_8 rfl rfl ?_
  refine X_iadd (pc := 9) dX0_ofVersion_9 ?_
  obtain ⟨c1, hf⟩ := gd_some hf
  refine X_ialdj (pc := 10) (j := ((a0 * (32 : Int32)) + a1).toNatClampNeg) (I 31 (((a0 * (32 : Int32)) + a1).toNatClampNeg)) (sh_31 hT) (vp_in_lit (N := 16032) c1 (by decide)) rfl rfl dX0_ofVersion_10 ?_
  cases hf
  exact X_ireturn (pc := 11) rfl dX0_ofVersion_11
theorem dX0_ofCopy_0 : decode cX0_ofCopy 0 = .ok (.aload_n 0, 1) := by decide +kernel
theorem dX0_ofCopy_1 : decode cX0_ofCopy 1 = .ok (.getfield 18, 3) := by decide +kernel
theorem dX0_ofCopy_4 : decode cX0_ofCopy 4 = .ok (.iload_n 1, 1) := by decide +kernel
theorem dX0_ofCopy_5 : decode cX0_ofCopy 5 = .ok (.bipush 32, 2) := by decide +kernel
theorem dX0_ofCopy_7 : decode cX0_ofCopy 7 = .ok (.imul, 1) := by decide +kernel
theorem dX0_ofCopy_8 : decode cX0_ofCopy 8 = .ok (.iload_n 2, 1) := by decide +kernel
theorem dX0_ofCopy_9 : decode cX0_ofCopy 9 = .ok (.iadd, 1) := by decide +kernel
theorem dX0_ofCopy_10 : decode cX0_ofCopy 10 = .ok (.iaload, 1) := by decide +kernel
theorem dX0_ofCopy_11 : decode cX0_ofCopy 11 = .ok (.ireturn, 1) := by decide +kernel
def f_Be_ofCopy (a0 : Int32) (a1 : Int32) (I : Nat → Nat → Int32) (L : Nat → Nat → Int64) : Option Int32 := (if (0 ≤ ((a0 * (32 : Int32)) + a1) ∧ ((a0 * (32 : Int32)) + a1) < (128 : Int32)) then (some (I 32 (((a0 * (32 : Int32)) + a1).toNatClampNeg))) else none)
set_option maxRecDepth 100000 in
set_option maxHeartbeats 4000000 in
theorem c_Be_ofCopy {G : xG} {S : List xSh} {Rf : Nat → Nat → Option Nat} (hT : xTH S Rf) {a0 : Int32} {a1 : Int32} {I : Nat → Nat → Int32} {L : Nat → Nat → Int64} {q : Int32} (hf : f_Be_ofCopy a0 a1 I L = some q) : CT G 1 m_Be_ofCopy [.ref (xP G 29), .int a0, .int a1] (S, I, L, Rf) (some (.int q), (S, I, L, Rf)) := by
  refine CT.of (by decide +kernel) (Nat.le_of_ble_eq_true rfl) ?_
  show X G 1 m_Be_ofCopy 0 [(0, .ref (xP G 29)), (1, .int a0), (2, .int a1)] [] (S, I, L, Rf) (some (.int q), (S, I, L, Rf))
  replace hf := (f_Be_ofCopy.eq_1 _ _ _ _).symm.trans hf
  refine X_aload_n (pc := 0) (i := 0) 0 dX0_ofCopy_0 rfl rfl ?_
  refine X_getr (pc := 1) (a := 29) (ci := 0) (j := 3) (c := 32) (sh_29 hT) (by decide) k_339 (rf_29_3 hT) (fun _ h => h) dX0_ofCopy_1 ?_
  refine X_iload_n (pc := 4) (i := 1) 1 dX0_ofCopy_4 rfl rfl ?_
  refine X_bipush (pc := 5) (32 : Int32) dX0_ofCopy_5 (by decide) ?_
  refine X_imul (pc := 7) dX0_ofCopy_7 ?_
  refine X_iload_n (pc := 8) (i := 2) 2 dX0_ofCopy_8 rfl rfl ?_
  refine X_iadd (pc := 9) dX0_ofCopy_9 ?_
  obtain ⟨c1, hf⟩ := gd_some hf
  refine X_ialdj (pc := 10) (j := ((a0 * (32 : Int32)) + a1).toNatClampNeg) (I 32 (((a0 * (32 : Int32)) + a1).toNatClampNeg)) (sh_32 hT) (vp_in_lit (N := 128) c1 (by decide)) rfl rfl dX0_ofCopy_10 ?_
  cases hf
  exact X_ireturn (pc := 11) rfl dX0_ofCopy_11
theorem dX0_isConflict_0 : decode cX0_isConflict 0 = .ok (.aload_n 0, 1) := by decide +kernel
theorem dX0_isConflict_1 : decode cX0_isConflict 1 = .ok (.aload_n 0, 1) := by decide +kernel
theorem dX0_isConflict_2 : decode cX0_isConflict 2 = .ok (.getfield 11, 3) := by decide +kernel
theorem dX0_isConflict_5 : decode cX0_isConflict 5 = .ok (.iload_n 1, 1) := by decide +kernel
theorem dX0_isConflict_6 : decode cX0_isConflict 6 = .ok (.iaload, 1) := by decide +kernel
theorem dX0_isConflict_7 : decode cX0_isConflict 7 = .ok (.iload_n 2, 1) := by decide +kernel
theorem dX0_isConflict_8 : decode cX0_isConflict 8 = .ok (.invokevirtual 29, 3) := by decide +kernel
theorem dX0_isConflict_11 : decode cX0_isConflict 11 = .ok (.istore_n 3, 1) := by decide +kernel
theorem dX0_isConflict_12 : decode cX0_isConflict 12 = .ok (.aload_n 0, 1) := by decide +kernel
theorem dX0_isConflict_13 : decode cX0_isConflict 13 = .ok (.iload_n 1, 1) := by decide +kernel
theorem dX0_isConflict_14 : decode cX0_isConflict 14 = .ok (.iload_n 2, 1) := by decide +kernel
theorem dX0_isConflict_15 : decode cX0_isConflict 15 = .ok (.invokevirtual 33, 3) := by decide +kernel
theorem dX0_isConflict_18 : decode cX0_isConflict 18 = .ok (.istore 4, 2) := by decide +kernel
theorem dX0_isConflict_20 : decode cX0_isConflict 20 = .ok (.aload_n 0, 1) := by decide +kernel
theorem dX0_isConflict_21 : decode cX0_isConflict 21 = .ok (.aload_n 0, 1) := by decide +kernel
theorem dX0_isConflict_22 : decode cX0_isConflict 22 = .ok (.getfield 36, 3) := by decide +kernel
theorem dX0_isConflict_25 : decode cX0_isConflict 25 = .ok (.iload_n 2, 1) := by decide +kernel
theorem dX0_isConflict_26 : decode cX0_isConflict 26 = .ok (.invokevirtual 29, 3) := by decide +kernel
theorem dX0_isConflict_29 : decode cX0_isConflict 29 = .ok (.istore 5, 2) := by decide +kernel
theorem dX0_isConflict_31 : decode cX0_isConflict 31 = .ok (.iload 4, 2) := by decide +kernel
theorem dX0_isConflict_33 : decode cX0_isConflict 33 = .ok (.iload_n 3, 1) := by decide +kernel
theorem dX0_isConflict_34 : decode cX0_isConflict 34 = .ok (.if_icmp .eq 34, 3) := by decide +kernel
theorem dX0_isConflict_37 : decode cX0_isConflict 37 = .ok (.iload 5, 2) := by decide +kernel
theorem dX0_isConflict_39 : decode cX0_isConflict 39 = .ok (.iload_n 3, 1) := by decide +kernel
theorem dX0_isConflict_40 : decode cX0_isConflict 40 = .ok (.if_icmp .eq 28, 3) := by decide +kernel
theorem dX0_isConflict_43 : decode cX0_isConflict 43 = .ok (.iload 4, 2) := by decide +kernel
theorem dX0_isConflict_45 : decode cX0_isConflict 45 = .ok (.iload 5, 2) := by decide +kernel
theorem dX0_isConflict_47 : decode cX0_isConflict 47 = .ok (.if_icmp .eq 21, 3) := by decide +kernel
theorem dX0_isConflict_50 : decode cX0_isConflict 50 = .ok (.aload_n 0, 1) := by decide +kernel
theorem dX0_isConflict_51 : decode cX0_isConflict 51 = .ok (.getfield 21, 3) := by decide +kernel
theorem dX0_isConflict_54 : decode cX0_isConflict 54 = .ok (.iload_n 1, 1) := by decide +kernel
theorem dX0_isConflict_55 : decode cX0_isConflict 55 = .ok (.bipush 32, 2) := by decide +kernel
theorem dX0_isConflict_57 : decode cX0_isConflict 57 = .ok (.imul, 1) := by decide +kernel
theorem dX0_isConflict_58 : decode cX0_isConflict 58 = .ok (.iload_n 2, 1) := by decide +kernel
theorem dX0_isConflict_59 : decode cX0_isConflict 59 = .ok (.iadd, 1) := by decide +kernel
theorem dX0_isConflict_60 : decode cX0_isConflict 60 = .ok (.baload, 1) := by decide +kernel
theorem dX0_isConflict_61 : decode cX0_isConflict 61 = .ok (.ifCond .ne 7, 3) := by decide +kernel
theorem dX0_isConflict_64 : decode cX0_isConflict 64 = .ok (.iconst 1, 1) := by decide +kernel
theorem dX0_isConflict_65 : decode cX0_isConflict 65 = .ok (.goto 4, 3) := by decide +kernel
theorem dX0_isConflict_68 : decode cX0_isConflict 68 = .ok (.iconst 0, 1) := by decide +kernel
theorem dX0_isConflict_69 : decode cX0_isConflict 69 = .ok (.ireturn, 1) := by decide +kernel
def f_Be_isConflict (a0 : Int32) (a1 : Int32) (I : Nat → Nat → Int32) (L : Nat → Nat → Int64) : Option Int32 := (if (0 ≤ a0 ∧ a0 < (4 : Int32)) then ((f_Be_ofVersion (I 30 (a0.toNatClampNeg)) a1 I L).bind fun q2 => ((f_Be_ofCopy a0 a1 I L).bind fun q4 => ((f_Be_ofVersion (I 29 0) a1 I L).bind fun q6 => (if q4 = q2 then (some (0 : Int32)) else (if q6 = q2 then (some (0 : Int32)) else (if q4 = q6 then (some (0 : Int32)) else (if (0 ≤ ((a0 * (32 : Int32)) + a1) ∧ ((a0 * (32 : Int32)) + a1) < (128 : Int32)) then (if (I 33 (((a0 * (32 : Int32)) + a1).toNatClampNeg)) = (0 : Int32) then (some (1 : Int32)) else (some (0 : Int32))) else none))))))) else none)
set_option maxRecDepth 100000 in
set_option maxHeartbeats 4000000 in
theorem c_Be_isConflict {G : xG} {S : List xSh} {Rf : Nat → Nat → Option Nat} (hT : xTH S Rf) {a0 : Int32} {a1 : Int32} {I : Nat → Nat → Int32} {L : Nat → Nat → Int64} {q : Int32} (hf : f_Be_isConflict a0 a1 I L = some q) : CT G 2 m_Be_isConflict [.ref (xP G 29), .int a0, .int a1] (S, I, L, Rf) (some (.int q), (S, I, L, Rf)) := by
  refine CT.of (by decide +kernel) (Nat.le_of_ble_eq_true rfl) ?_
  show X G 2 m_Be_isConflict 0 [(0, .ref (xP G 29)), (1, .int a0), (2, .int a1)] [] (S, I, L, Rf) (some (.int q), (S, I, L, Rf))
  replace hf := (f_Be_isConflict.eq_1 _ _ _ _).symm.trans hf
  refine X_aload_n (pc := 0) (i := 0) 0 dX0_isConflict_0 rfl rfl ?_
  refine X_aload_n (pc := 1) (i := 0) 0 dX0_isConflict_1 rfl rfl ?_
  refine X_getr (pc := 2) (a := 29) (ci := 0) (j := 1) (c := 30) (sh_29 hT) (by decide) k_336 (rf_29_1 hT) (fun _ h => h) dX0_isConflict_2 ?_
  refine X_iload_n (pc := 5) (i := 1) 1 dX0_isConflict_5 rfl rfl ?_
  obtain ⟨c1, hf⟩ := gd_some hf
  refine X_ialdj (pc := 6) (j := a0.toNatClampNeg) (I 30 (a0.toNatClampNeg)) (sh_30 hT) (vp_in_lit (N := 4) c1 (by decide)) rfl rfl dX0_isConflict_6 ?_
  refine X_iload_n (pc := 7) (i := 2) 2 dX0_isConflict_7 rfl rfl ?_
  obtain ⟨q2, c3, hf⟩ := bd_some hf
  refine X_invV_i (pc := 8) (c_Be_ofVersion hT c3) ok_Be_ofVersion (ci := 0) (sh_29 hT) k_1152 k_1153 k_1154 nd_21 (by decide) rfl (Nat.le_of_ble_eq_true rfl) dX0_isConflict_8 ?_
  refine X_istore_n (pc := 11) (i := 3) [(3, .int q2), (0, .ref (xP G 29)), (1, .int a0), (2, .int a1)] dX0_isConflict_11 rfl (by decide) rfl ?_
  refine X_aload_n (pc := 12) (i := 0) 1 dX0_isConflict_12 rfl rfl ?_
  refine X_iload_n (pc := 13) (i := 1) 2 dX0_isConflict_13 rfl rfl ?_
  refine X_iload_n (pc := 14) (i := 2) 3 dX0_isConflict_14 rfl rfl ?_
  obtain ⟨q4, c5, hf⟩ := bd_some hf
  refine X_invV_i (pc := 15) (c_Be_ofCopy hT c5) ok_Be_ofCopy (ci := 0) (sh_29 hT) k_1156 k_1157 k_1158 nd_21 (by decide) rfl (Nat.le_of_ble_eq_true rfl) dX0_isConflict_15 ?_
  refine X_istore (pc := 18) [(4, .int q4), (3, .int q2), (0, .ref (xP G 29)), (1, .int a0), (2, .int a1)] dX0_isConflict_18 (by decide) rfl ?_
  refine X_aload_n (pc := 20) (i := 0) 2 dX0_isConflict_20 rfl rfl ?_
  refine X_aload_n (pc := 21) (i := 0) 2 dX0_isConflict_21 rfl rfl ?_
  refine X_get (pc := 22) (a := 29) (ci := 0) (j := 0) (.int (I 29 0)) (sh_29 hT) (by decide) k_334 rfl dX0_isConflict_22 ?_
  refine X_iload_n (pc := 25) (i := 2) 4 dX0_isConflict_25 rfl rfl ?_
  obtain ⟨q6, c7, hf⟩ := bd_some hf
  refine X_invV_i (pc := 26) (c_Be_ofVersion hT c7) ok_Be_ofVersion (ci := 0) (sh_29 hT) k_1152 k_1153 k_1154 nd_21 (by decide) rfl (Nat.le_of_ble_eq_true rfl) dX0_isConflict_26 ?_
  refine X_istore (pc := 29) [(5, .int q6), (4, .int q4), (3, .int q2), (0, .ref (xP G 29)), (1, .int a0), (2, .int a1)] dX0_isConflict_29 (by decide) rfl ?_
  refine X_iload (pc := 31) 1 dX0_isConflict_31 rfl ?_
  refine X_iload_n (pc := 33) (i := 3) 2 dX0_isConflict_33 rfl rfl ?_
  by_cases c8 : q4 = q2
  · replace hf := (if_pos c8).symm.trans hf
    refine X_icmp_eq_t (pc := 34) 68 dX0_isConflict_34 (by decide) c8 ?_
    refine X_iconst (pc := 68) (0 : Int32) dX0_isConflict_68 (by decide) ?_
    cases hf
    exact X_zreturn (pc := 69) rfl (nar_b (by decide)) dX0_isConflict_69
  · replace hf := (if_neg c8).symm.trans hf
    refine X_icmp_eq_f (pc := 34) 68 dX0_isConflict_34 (by decide) c8 ?_
    refine X_iload (pc := 37) 0 dX0_isConflict_37 rfl ?_
    refine X_iload_n (pc := 39) (i := 3) 2 dX0_isConflict_39 rfl rfl ?_
    by_cases c9 : q6 = q2
    · replace hf := (if_pos c9).symm.trans hf
      refine X_icmp_eq_t (pc := 40) 68 dX0_isConflict_40 (by decide) c9 ?_
      refine X_iconst (pc := 68) (0 : Int32) dX0_isConflict_68 (by decide) ?_
      cases hf
      exact X_zreturn (pc := 69) rfl (nar_b (by decide)) dX0_isConflict_69
    · replace hf := (if_neg c9).symm.trans hf
      refine X_icmp_eq_f (pc := 40) 68 dX0_isConflict_40 (by decide) c9 ?_
      refine X_iload (pc := 43) 1 dX0_isConflict_43 rfl ?_
      refine X_iload (pc := 45) 0 dX0_isConflict_45 rfl ?_
      by_cases c10 : q4 = q6
      · replace hf := (if_pos c10).symm.trans hf
        refine X_icmp_eq_t (pc := 47) 68 dX0_isConflict_47 (by decide) c10 ?_
        refine X_iconst (pc := 68) (0 : Int32) dX0_isConflict_68 (by decide) ?_
        cases hf
        exact X_zreturn (pc := 69) rfl (nar_b (by decide)) dX0_isConflict_69
      · replace hf := (if_neg c10).symm.trans hf
        refine X_icmp_eq_f (pc := 47) 68 dX0_isConflict_47 (by decide) c10 ?_
        refine X_aload_n (pc := 50) (i := 0) 3 dX0_isConflict_50 rfl rfl ?_
        refine X_getr (pc := 51) (a := 29) (ci := 0) (j := 4) (c := 33) (sh_29 hT) (by decide) k_340 (rf_29_4 hT) (fun _ h => h) dX0_isConflict_51 ?_
        refine X_iload_n (pc := 54) (i := 1) 4 dX0_isConflict_54 rfl rfl ?_
        refine X_bipush (pc := 55) (32 : Int32) dX0_isConflict_55 (by decide) ?_
        refine X_imul (pc := 57) dX0_isConflict_57 ?_
        refine X_iload_n (pc := 58) (i := 2) 5 dX0_isConflict_58 rfl rfl ?_
        refine X_iadd (pc := 59) dX0_isConflict_59 ?_
        obtain ⟨c11, hf⟩ := gd_some hf
        refine X_zaldj (pc := 60) (j := ((a0 * (32 : Int32)) + a1).toNatClampNeg) (I 33 (((a0 * (32 : Int32)) + a1).toNatClampNeg)) (sh_33 hT) (vp_in_lit (N := 128) c11 (by decide)) rfl rfl dX0_isConflict_60 ?_
        by_cases c12 : (I 33 (((a0 * (32 : Int32)) + a1).toNatClampNeg)) = (0 : Int32)
        · replace hf := (if_pos c12).symm.trans hf
          refine X_if_ne_f (pc := 61) 68 dX0_isConflict_61 (by decide) c12 ?_
          refine X_iconst (pc := 64) (1 : Int32) dX0_isConflict_64 (by decide) ?_
          refine X_goto (pc := 65) 69 dX0_isConflict_65 (by decide) ?_
          cases hf
          exact X_zreturn (pc := 69) rfl (nar_b (by decide)) dX0_isConflict_69
        · replace hf := (if_neg c12).symm.trans hf
          refine X_if_ne_t (pc := 61) 68 dX0_isConflict_61 (by decide) c12 ?_
          refine X_iconst (pc := 68) (0 : Int32) dX0_isConflict_68 (by decide) ?_
          cases hf
          exact X_zreturn (pc := 69) rfl (nar_b (by decide)) dX0_isConflict_69

def f_Ro_has_13 (a0 : Int32) (a1 : Int32) (I : Nat → Nat → Int32) (L : Nat → Nat → Int64) : Int32 := (if a0 < (0 : Int32) then (0 : Int32) else (if (I 13 1) ≤ a0 then (0 : Int32) else (if (I 13 3) ≤ a0 then (0 : Int32) else (if a1 < (0 : Int32) then (0 : Int32) else (if (I 13 0) ≤ a1 then (0 : Int32) else (1 : Int32))))))
set_option maxRecDepth 100000 in
set_option maxHeartbeats 4000000 in
theorem c_Ro_has_13 {G : xG} {S : List xSh} {Rf : Nat → Nat → Option Nat} (hT : xTH S Rf) {a0 : Int32} {a1 : Int32} {I : Nat → Nat → Int32} {L : Nat → Nat → Int64} {q : Int32} (hf : f_Ro_has_13 a0 a1 I L = q) : CT G 1 m_Ro_has [.ref (xB G + 13), .int a0, .int a1] (S, I, L, Rf) (some (.int q), (S, I, L, Rf)) := by
  refine CT.of (by decide +kernel) (Nat.le_of_ble_eq_true rfl) ?_
  show X G 1 m_Ro_has 0 [(0, .ref (xB G + 13)), (1, .int a0), (2, .int a1)] [] (S, I, L, Rf) (some (.int q), (S, I, L, Rf))
  replace hf := (f_Ro_has_13.eq_1 _ _ _ _).symm.trans hf
  refine X_iload_n (pc := 0) (i := 1) 1 dX7_has_0 rfl rfl ?_
  by_cases c1 : a0 < (0 : Int32)
  · replace hf := (if_pos c1).symm.trans hf
    refine X_if_lt_t (pc := 1) 36 dX7_has_1 (by decide) c1 ?_
    refine X_iconst (pc := 36) (0 : Int32) dX7_has_36 (by decide) ?_
    subst hf
    exact X_zreturn (pc := 37) rfl (nar_b (by decide)) dX7_has_37
  · replace hf := (if_neg c1).symm.trans hf
    refine X_if_lt_f (pc := 1) 36 dX7_has_1 (by decide) c1 ?_
    refine X_iload_n (pc := 4) (i := 1) 1 dX7_has_4 rfl rfl ?_
    refine X_aload_n (pc := 5) (i := 0) 0 dX7_has_5 rfl rfl ?_
    refine X_get (pc := 6) (a := 13) (ci := 7) (j := 1) (.int (I 13 1)) (sh_13 hT) (by decide) k_158 rfl dX7_has_6 ?_
    by_cases c2 : (I 13 1) ≤ a0
    · replace hf := (if_pos c2).symm.trans hf
      refine X_icmp_ge_t (pc := 9) 36 dX7_has_9 (by decide) c2 ?_
      refine X_iconst (pc := 36) (0 : Int32) dX7_has_36 (by decide) ?_
      subst hf
      exact X_zreturn (pc := 37) rfl (nar_b (by decide)) dX7_has_37
    · replace hf := (if_neg c2).symm.trans hf
      refine X_icmp_ge_f (pc := 9) 36 dX7_has_9 (by decide) c2 ?_
      refine X_iload_n (pc := 12) (i := 1) 1 dX7_has_12 rfl rfl ?_
      refine X_aload_n (pc := 13) (i := 0) 0 dX7_has_13 rfl rfl ?_
      refine X_get (pc := 14) (a := 13) (ci := 7) (j := 3) (.int (I 13 3)) (sh_13 hT) (by decide) k_160 rfl dX7_has_14 ?_
      by_cases c3 : (I 13 3) ≤ a0
      · replace hf := (if_pos c3).symm.trans hf
        refine X_icmp_ge_t (pc := 17) 36 dX7_has_17 (by decide) c3 ?_
        refine X_iconst (pc := 36) (0 : Int32) dX7_has_36 (by decide) ?_
        subst hf
        exact X_zreturn (pc := 37) rfl (nar_b (by decide)) dX7_has_37
      · replace hf := (if_neg c3).symm.trans hf
        refine X_icmp_ge_f (pc := 17) 36 dX7_has_17 (by decide) c3 ?_
        refine X_iload_n (pc := 20) (i := 2) 2 dX7_has_20 rfl rfl ?_
        by_cases c4 : a1 < (0 : Int32)
        · replace hf := (if_pos c4).symm.trans hf
          refine X_if_lt_t (pc := 21) 36 dX7_has_21 (by decide) c4 ?_
          refine X_iconst (pc := 36) (0 : Int32) dX7_has_36 (by decide) ?_
          subst hf
          exact X_zreturn (pc := 37) rfl (nar_b (by decide)) dX7_has_37
        · replace hf := (if_neg c4).symm.trans hf
          refine X_if_lt_f (pc := 21) 36 dX7_has_21 (by decide) c4 ?_
          refine X_iload_n (pc := 24) (i := 2) 2 dX7_has_24 rfl rfl ?_
          refine X_aload_n (pc := 25) (i := 0) 0 dX7_has_25 rfl rfl ?_
          refine X_get (pc := 26) (a := 13) (ci := 7) (j := 0) (.int (I 13 0)) (sh_13 hT) (by decide) k_157 rfl dX7_has_26 ?_
          by_cases c5 : (I 13 0) ≤ a1
          · replace hf := (if_pos c5).symm.trans hf
            refine X_icmp_ge_t (pc := 29) 36 dX7_has_29 (by decide) c5 ?_
            refine X_iconst (pc := 36) (0 : Int32) dX7_has_36 (by decide) ?_
            subst hf
            exact X_zreturn (pc := 37) rfl (nar_b (by decide)) dX7_has_37
          · replace hf := (if_neg c5).symm.trans hf
            refine X_icmp_ge_f (pc := 29) 36 dX7_has_29 (by decide) c5 ?_
            refine X_iconst (pc := 32) (1 : Int32) dX7_has_32 (by decide) ?_
            refine X_goto (pc := 33) 37 dX7_has_33 (by decide) ?_
            subst hf
            exact X_zreturn (pc := 37) rfl (nar_b (by decide)) dX7_has_37
def f_Ro_at_13 (a0 : Int32) (a1 : Int32) (I : Nat → Nat → Int32) (L : Nat → Nat → Int64) : Option Int32 := (if (f_Ro_has_13 a0 a1 I L) = (0 : Int32) then (some (-1 : Int32)) else (if (0 ≤ ((a0 * (I 13 0)) + a1) ∧ ((a0 * (I 13 0)) + a1) < (3000 : Int32)) then (some (I 14 (((a0 * (I 13 0)) + a1).toNatClampNeg))) else none))
set_option maxRecDepth 100000 in
set_option maxHeartbeats 4000000 in
theorem c_Ro_at_13 {G : xG} {S : List xSh} {Rf : Nat → Nat → Option Nat} (hT : xTH S Rf) {a0 : Int32} {a1 : Int32} {I : Nat → Nat → Int32} {L : Nat → Nat → Int64} {q : Int32} (hf : f_Ro_at_13 a0 a1 I L = some q) : CT G 2 m_Ro_at [.ref (xB G + 13), .int a0, .int a1] (S, I, L, Rf) (some (.int q), (S, I, L, Rf)) := by
  refine CT.of (by decide +kernel) (Nat.le_of_ble_eq_true rfl) ?_
  show X G 2 m_Ro_at 0 [(0, .ref (xB G + 13)), (1, .int a0), (2, .int a1)] [] (S, I, L, Rf) (some (.int q), (S, I, L, Rf))
  replace hf := (f_Ro_at_13.eq_1 _ _ _ _).symm.trans hf
  refine X_aload_n (pc := 0) (i := 0) 0 dX7_at_0 rfl rfl ?_
  refine X_iload_n (pc := 1) (i := 1) 1 dX7_at_1 rfl rfl ?_
  refine X_iload_n (pc := 2) (i := 2) 2 dX7_at_2 rfl rfl ?_
  refine X_invV_i (pc := 3) (c_Ro_has_13 hT rfl) ok_Ro_has (ci := 7) (sh_13 hT) k_911 k_912 k_913 nd_25 (by decide) rfl (Nat.le_of_ble_eq_true rfl) dX7_at_3 ?_
  by_cases c1 : (f_Ro_has_13 a0 a1 I L) = (0 : Int32)
  · replace hf := (if_pos c1).symm.trans hf
    refine X_if_eq_t (pc := 6) 25 dX7_at_6 (by decide) c1 ?_
    refine X_iconst (pc := 25) (-1 : Int32) dX7_at_25 (by decide) ?_
    cases hf
    exact X_ireturn (pc := 26) rfl dX7_at_26
  · replace hf := (if_neg c1).symm.trans hf
    refine X_if_eq_f (pc := 6) 25 dX7_at_6 (by decide) c1 ?_
    refine X_aload_n (pc := 9) (i := 0) 0 dX7_at_9 rfl rfl ?_
    refine X_getr (pc := 10) (a := 13) (ci := 7) (j := 2) (c := 14) (sh_13 hT) (by decide) k_159 (rf_13_2 hT) (fun _ h => h) dX7_at_10 ?_
    refine X_iload_n (pc := 13) (i := 1) 1 dX7_at_13 rfl rfl ?_
    refine X_aload_n (pc := 14) (i := 0) 0 dX7_at_14 rfl rfl ?_
    refine X_get (pc := 15) (a := 13) (ci := 7) (j := 0) (.int (I 13 0)) (sh_13 hT) (by decide) k_157 rfl dX7_at_15 ?_
    refine X_imul (pc := 18) dX7_at_18 ?_
    refine X_iload_n (pc := 19) (i := 2) 2 dX7_at_19 rfl rfl ?_
    refine X_iadd (pc := 20) dX7_at_20 ?_
    obtain ⟨c2, hf⟩ := gd_some hf
    refine X_ialdj (pc := 21) (j := ((a0 * (I 13 0)) + a1).toNatClampNeg) (I 14 (((a0 * (I 13 0)) + a1).toNatClampNeg)) (sh_14 hT) (vp_in_lit (N := 3000) c2 (by decide)) rfl rfl dX7_at_21 ?_
    refine X_goto (pc := 22) 26 dX7_at_22 (by decide) ?_
    cases hf
    exact X_ireturn (pc := 26) rfl dX7_at_26
theorem dX11_struck_0 : decode cX11_struck 0 = .ok (.aload_n 0, 1) := by decide +kernel
theorem dX11_struck_1 : decode cX11_struck 1 = .ok (.getfield 38, 3) := by decide +kernel
theorem dX11_struck_4 : decode cX11_struck 4 = .ok (.iload_n 1, 1) := by decide +kernel
theorem dX11_struck_5 : decode cX11_struck 5 = .ok (.iload_n 2, 1) := by decide +kernel
theorem dX11_struck_6 : decode cX11_struck 6 = .ok (.invokevirtual 250, 3) := by decide +kernel
theorem dX11_struck_9 : decode cX11_struck 9 = .ok (.ifCond .eq 15, 3) := by decide +kernel
theorem dX11_struck_12 : decode cX11_struck 12 = .ok (.aload_n 0, 1) := by decide +kernel
theorem dX11_struck_13 : decode cX11_struck 13 = .ok (.getfield 38, 3) := by decide +kernel
theorem dX11_struck_16 : decode cX11_struck 16 = .ok (.iload_n 1, 1) := by decide +kernel
theorem dX11_struck_17 : decode cX11_struck 17 = .ok (.iload_n 2, 1) := by decide +kernel
theorem dX11_struck_18 : decode cX11_struck 18 = .ok (.invokevirtual 253, 3) := by decide +kernel
theorem dX11_struck_21 : decode cX11_struck 21 = .ok (.goto 4, 3) := by decide +kernel
theorem dX11_struck_24 : decode cX11_struck 24 = .ok (.iconst (-1), 1) := by decide +kernel
theorem dX11_struck_25 : decode cX11_struck 25 = .ok (.ireturn, 1) := by decide +kernel
def f_H_struck (a0 : Int32) (a1 : Int32) (I : Nat → Nat → Int32) (L : Nat → Nat → Int64) : Option Int32 := (if (f_Ro_has_13 a0 a1 I L) = (0 : Int32) then (some (-1 : Int32)) else ((f_Ro_at_13 a0 a1 I L).bind fun q2 => (some q2)))
set_option maxRecDepth 100000 in
set_option maxHeartbeats 4000000 in
theorem c_H_struck {G : xG} {S : List xSh} {Rf : Nat → Nat → Option Nat} (hT : xTH S Rf) {a0 : Int32} {a1 : Int32} {I : Nat → Nat → Int32} {L : Nat → Nat → Int64} {q : Int32} (hf : f_H_struck a0 a1 I L = some q) : CT G 3 m_H_struck [.ref (xB G + 0), .int a0, .int a1] (S, I, L, Rf) (some (.int q), (S, I, L, Rf)) := by
  refine CT.of (by decide +kernel) (Nat.le_of_ble_eq_true rfl) ?_
  show X G 3 m_H_struck 0 [(0, .ref (xB G + 0)), (1, .int a0), (2, .int a1)] [] (S, I, L, Rf) (some (.int q), (S, I, L, Rf))
  replace hf := (f_H_struck.eq_1 _ _ _ _).symm.trans hf
  refine X_aload_n (pc := 0) (i := 0) 0 dX11_struck_0 rfl rfl ?_
  refine X_getr (pc := 1) (a := 0) (ci := 10) (j := 4) (c := 13) (sh_0 hT) (by decide) k_381 (rf_0_4 hT) (fun _ h => h) dX11_struck_1 ?_
  refine X_iload_n (pc := 4) (i := 1) 1 dX11_struck_4 rfl rfl ?_
  refine X_iload_n (pc := 5) (i := 2) 2 dX11_struck_5 rfl rfl ?_
  refine X_invV_i (pc := 6) (c_Ro_has_13 hT rfl) ok_Ro_has (ci := 7) (sh_13 hT) k_934 k_912 k_913 nd_25 (by decide) rfl (Nat.le_of_ble_eq_true rfl) dX11_struck_6 ?_
  by_cases c1 : (f_Ro_has_13 a0 a1 I L) = (0 : Int32)
  · replace hf := (if_pos c1).symm.trans hf
    refine X_if_eq_t (pc := 9) 24 dX11_struck_9 (by decide) c1 ?_
    refine X_iconst (pc := 24) (-1 : Int32) dX11_struck_24 (by decide) ?_
    cases hf
    exact X_ireturn (pc := 25) rfl dX11_struck_25
  · replace hf := (if_neg c1).symm.trans hf
    refine X_if_eq_f (pc := 9) 24 dX11_struck_9 (by decide) c1 ?_
    refine X_aload_n (pc := 12) (i := 0) 0 dX11_struck_12 rfl rfl ?_
    refine X_getr (pc := 13) (a := 0) (ci := 10) (j := 4) (c := 13) (sh_0 hT) (by decide) k_381 (rf_0_4 hT) (fun _ h => h) dX11_struck_13 ?_
    refine X_iload_n (pc := 16) (i := 1) 1 dX11_struck_16 rfl rfl ?_
    refine X_iload_n (pc := 17) (i := 2) 2 dX11_struck_17 rfl rfl ?_
    obtain ⟨q2, c3, hf⟩ := bd_some hf
    refine X_invV_i (pc := 18) (c_Ro_at_13 hT c3) ok_Ro_at (ci := 7) (sh_13 hT) k_907 k_908 k_909 nd_22 (by decide) rfl (Nat.le_of_ble_eq_true rfl) dX11_struck_18 ?_
    refine X_goto (pc := 21) 25 dX11_struck_21 (by decide) ?_
    cases hf
    exact X_ireturn (pc := 25) rfl dX11_struck_25
theorem dX11_hand_0 : decode cX11_hand 0 = .ok (.aload_n 0, 1) := by decide +kernel
theorem dX11_hand_1 : decode cX11_hand 1 = .ok (.iload_n 1, 1) := by decide +kernel
theorem dX11_hand_2 : decode cX11_hand 2 = .ok (.invokevirtual 176, 3) := by decide +kernel
theorem dX11_hand_5 : decode cX11_hand 5 = .ok (.astore_n 3, 1) := by decide +kernel
theorem dX11_hand_6 : decode cX11_hand 6 = .ok (.aload_n 3, 1) := by decide +kernel
theorem dX11_hand_7 : decode cX11_hand 7 = .ok (.ifnonnull 5, 3) := by decide +kernel
theorem dX11_hand_10 : decode cX11_hand 10 = .ok (.iconst (-1), 1) := by decide +kernel
theorem dX11_hand_11 : decode cX11_hand 11 = .ok (.ireturn, 1) := by decide +kernel
theorem dX11_hand_12 : decode cX11_hand 12 = .ok (.iload_n 2, 1) := by decide +kernel
theorem dX11_hand_13 : decode cX11_hand 13 = .ok (.tableswitch 59 0 3 #[31, 36, 41, 46], 31) := by decide +kernel
theorem dX11_hand_44 : decode cX11_hand 44 = .ok (.aload_n 3, 1) := by decide +kernel
theorem dX11_hand_45 : decode cX11_hand 45 = .ok (.getfield 263, 3) := by decide +kernel
theorem dX11_hand_48 : decode cX11_hand 48 = .ok (.ireturn, 1) := by decide +kernel
theorem dX11_hand_49 : decode cX11_hand 49 = .ok (.aload_n 3, 1) := by decide +kernel
theorem dX11_hand_50 : decode cX11_hand 50 = .ok (.getfield 266, 3) := by decide +kernel
theorem dX11_hand_53 : decode cX11_hand 53 = .ok (.ireturn, 1) := by decide +kernel
theorem dX11_hand_54 : decode cX11_hand 54 = .ok (.aload_n 3, 1) := by decide +kernel
theorem dX11_hand_55 : decode cX11_hand 55 = .ok (.getfield 269, 3) := by decide +kernel
theorem dX11_hand_58 : decode cX11_hand 58 = .ok (.ireturn, 1) := by decide +kernel
theorem dX11_hand_59 : decode cX11_hand 59 = .ok (.aload_n 3, 1) := by decide +kernel
theorem dX11_hand_60 : decode cX11_hand 60 = .ok (.getfield 272, 3) := by decide +kernel
theorem dX11_hand_63 : decode cX11_hand 63 = .ok (.ifCond .eq 7, 3) := by decide +kernel
theorem dX11_hand_66 : decode cX11_hand 66 = .ok (.iconst 1, 1) := by decide +kernel
theorem dX11_hand_67 : decode cX11_hand 67 = .ok (.goto 4, 3) := by decide +kernel
theorem dX11_hand_70 : decode cX11_hand 70 = .ok (.iconst 0, 1) := by decide +kernel
theorem dX11_hand_71 : decode cX11_hand 71 = .ok (.ireturn, 1) := by decide +kernel
theorem dX11_hand_72 : decode cX11_hand 72 = .ok (.iconst (-1), 1) := by decide +kernel
theorem dX11_hand_73 : decode cX11_hand 73 = .ok (.ireturn, 1) := by decide +kernel
def f_H_hand (S : List xSh) (Rf : Nat → Nat → Option Nat) (a0 : Int32) (a1 : Int32) (I : Nat → Nat → Int32) (L : Nat → Nat → Int64) : Option Int32 := ((f_H_chronographAt S Rf a0 I L).bind fun q1 => (oc q1 (some (-1 : Int32)) fun w3 => (if S[w3]? = some (.inl 3) then (if a1 = (0 : Int32) then (some (I w3 1)) else (if a1 = (1 : Int32) then (some (I w3 2)) else (if a1 = (2 : Int32) then (some (I w3 3)) else (if a1 = (3 : Int32) then (if (I w3 4) = (0 : Int32) then (some (0 : Int32)) else (some (1 : Int32))) else (some (-1 : Int32)))))) else none)))
set_option maxRecDepth 100000 in
set_option maxHeartbeats 4000000 in
theorem c_H_hand {G : xG} {S : List xSh} {Rf : Nat → Nat → Option Nat} (hT : xTH S Rf) {a0 : Int32} {a1 : Int32} {I : Nat → Nat → Int32} {L : Nat → Nat → Int64} {q : Int32} (hf : f_H_hand S Rf a0 a1 I L = some q) : CT G 3 m_H_hand [.ref (xB G + 0), .int a0, .int a1] (S, I, L, Rf) (some (.int q), (S, I, L, Rf)) := by
  refine CT.of (by decide +kernel) (Nat.le_of_ble_eq_true rfl) ?_
  show X G 3 m_H_hand 0 [(0, .ref (xB G + 0)), (1, .int a0), (2, .int a1)] [] (S, I, L, Rf) (some (.int q), (S, I, L, Rf))
  replace hf := (f_H_hand.eq_1 _ _ _ _ _ _).symm.trans hf
  refine X_aload_n (pc := 0) (i := 0) 0 dX11_hand_0 rfl rfl ?_
  refine X_iload_n (pc := 1) (i := 1) 1 dX11_hand_1 rfl rfl ?_
  obtain ⟨q1, c2, hf⟩ := bd_some hf
  rcases oc_cases hf with ⟨hr4, hf⟩ | ⟨w3, hr4, hf⟩
  · rw [hr4] at c2
    refine X_invV_aN (pc := 2) (c_H_chronographAt hT c2) ok_H_chronographAt (ci := 10) (sh_0 hT) k_821 k_823 k_17 nd_23 (by decide) rfl (Nat.le_of_ble_eq_true rfl) dX11_hand_2 ?_
    refine X_astore_nN (pc := 5) (i := 3) [(3, .null), (0, .ref (xB G + 0)), (1, .int a0), (2, .int a1)] dX11_hand_5 rfl (by decide) rfl ?_
    refine X_aload_nN (pc := 6) (i := 3) 0 dX11_hand_6 rfl rfl ?_
    refine X_ifnonnull_f (pc := 7) dX11_hand_7 ?_
    refine X_iconst (pc := 10) (-1 : Int32) dX11_hand_10 (by decide) ?_
    cases hf
    exact X_ireturn (pc := 11) rfl dX11_hand_11
  · obtain ⟨hs5, hf⟩ := gd_some hf
    rw [hr4] at c2
    refine X_invV_aS (pc := 2) (c_H_chronographAt hT c2) ok_H_chronographAt (ci := 10) (sh_0 hT) k_821 k_823 k_17 nd_23 (by decide) rfl (Nat.le_of_ble_eq_true rfl) dX11_hand_2 ?_
    refine X_astore_n (pc := 5) (i := 3) [(3, .ref (xB G + w3)), (0, .ref (xB G + 0)), (1, .int a0), (2, .int a1)] dX11_hand_5 rfl (by decide) rfl ?_
    refine X_aload_n (pc := 6) (i := 3) 0 dX11_hand_6 rfl rfl ?_
    refine X_ifnonnull_t (pc := 7) 12 dX11_hand_7 (by decide) ?_
    refine X_iload_n (pc := 12) (i := 2) 3 dX11_hand_12 rfl rfl ?_
    by_cases c6 : a1 = (0 : Int32)
    · replace hf := (if_pos c6).symm.trans hf
      refine X_tabIn (pc := 13) (off := 31) (0) 44 dX11_hand_13 (by rw [c6]; rfl) (by decide) ?_
      refine X_aload_n (pc := 44) (i := 3) 0 dX11_hand_44 rfl rfl ?_
      refine X_get (pc := 45) (a := w3) (ci := 3) (j := 1) (.int (I w3 1)) hs5 (by decide) k_655 rfl dX11_hand_45 ?_
      cases hf
      exact X_ireturn (pc := 48) rfl dX11_hand_48
    · replace hf := (if_neg c6).symm.trans hf
      by_cases c7 : a1 = (1 : Int32)
      · replace hf := (if_pos c7).symm.trans hf
        refine X_tabIn (pc := 13) (off := 36) (1) 49 dX11_hand_13 (by rw [c7]; rfl) (by decide) ?_
        refine X_aload_n (pc := 49) (i := 3) 0 dX11_hand_49 rfl rfl ?_
        refine X_get (pc := 50) (a := w3) (ci := 3) (j := 2) (.int (I w3 2)) hs5 (by decide) k_657 rfl dX11_hand_50 ?_
        cases hf
        exact X_ireturn (pc := 53) rfl dX11_hand_53
      · replace hf := (if_neg c7).symm.trans hf
        by_cases c8 : a1 = (2 : Int32)
        · replace hf := (if_pos c8).symm.trans hf
          refine X_tabIn (pc := 13) (off := 41) (2) 54 dX11_hand_13 (by rw [c8]; rfl) (by decide) ?_
          refine X_aload_n (pc := 54) (i := 3) 0 dX11_hand_54 rfl rfl ?_
          refine X_get (pc := 55) (a := w3) (ci := 3) (j := 3) (.int (I w3 3)) hs5 (by decide) k_659 rfl dX11_hand_55 ?_
          cases hf
          exact X_ireturn (pc := 58) rfl dX11_hand_58
        · replace hf := (if_neg c8).symm.trans hf
          by_cases c9 : a1 = (3 : Int32)
          · replace hf := (if_pos c9).symm.trans hf
            refine X_tabIn (pc := 13) (off := 46) (3) 59 dX11_hand_13 (by rw [c9]; rfl) (by decide) ?_
            refine X_aload_n (pc := 59) (i := 3) 0 dX11_hand_59 rfl rfl ?_
            refine X_get (pc := 60) (a := w3) (ci := 3) (j := 4) (.int (I w3 4)) hs5 (by decide) k_661 rfl dX11_hand_60 ?_
            by_cases c10 : (I w3 4) = (0 : Int32)
            · replace hf := (if_pos c10).symm.trans hf
              refine X_if_eq_t (pc := 63) 70 dX11_hand_63 (by decide) c10 ?_
              refine X_iconst (pc := 70) (0 : Int32) dX11_hand_70 (by decide) ?_
              cases hf
              exact X_ireturn (pc := 71) rfl dX11_hand_71
            · replace hf := (if_neg c10).symm.trans hf
              refine X_if_eq_f (pc := 63) 70 dX11_hand_63 (by decide) c10 ?_
              refine X_iconst (pc := 66) (1 : Int32) dX11_hand_66 (by decide) ?_
              refine X_goto (pc := 67) 71 dX11_hand_67 (by decide) ?_
              cases hf
              exact X_ireturn (pc := 71) rfl dX11_hand_71
          · replace hf := (if_neg c9).symm.trans hf
            refine X_tabOut (pc := 13) 72 dX11_hand_13 (by have zc6 := lv_neT (a := 0) c6 rfl; have zc7 := lv_neT (a := 1) c7 rfl; have zc8 := lv_neT (a := 2) c8 rfl; have zc9 := lv_neT (a := 3) c9 rfl; omega) (by decide) ?_
            refine X_iconst (pc := 72) (-1 : Int32) dX11_hand_72 (by decide) ?_
            cases hf
            exact X_ireturn (pc := 73) rfl dX11_hand_73
theorem dX11_count_0 : decode cX11_count 0 = .ok (.iload_n 1, 1) := by decide +kernel
theorem dX11_count_1 : decode cX11_count 1 = .ok (.tableswitch 98 0 6 #[43, 51, 59, 64, 69, 77, 85], 43) := by decide +kernel
theorem dX11_count_44 : decode cX11_count 44 = .ok (.aload_n 0, 1) := by decide +kernel
theorem dX11_count_45 : decode cX11_count 45 = .ok (.getfield 20, 3) := by decide +kernel
theorem dX11_count_48 : decode cX11_count 48 = .ok (.getfield 275, 3) := by decide +kernel
theorem dX11_count_51 : decode cX11_count 51 = .ok (.ireturn, 1) := by decide +kernel
theorem dX11_count_52 : decode cX11_count 52 = .ok (.aload_n 0, 1) := by decide +kernel
theorem dX11_count_53 : decode cX11_count 53 = .ok (.getfield 20, 3) := by decide +kernel
theorem dX11_count_56 : decode cX11_count 56 = .ok (.getfield 278, 3) := by decide +kernel
theorem dX11_count_59 : decode cX11_count 59 = .ok (.ireturn, 1) := by decide +kernel
theorem dX11_count_60 : decode cX11_count 60 = .ok (.aload_n 0, 1) := by decide +kernel
theorem dX11_count_61 : decode cX11_count 61 = .ok (.getfield 132, 3) := by decide +kernel
theorem dX11_count_64 : decode cX11_count 64 = .ok (.ireturn, 1) := by decide +kernel
theorem dX11_count_65 : decode cX11_count 65 = .ok (.aload_n 0, 1) := by decide +kernel
theorem dX11_count_66 : decode cX11_count 66 = .ok (.getfield 138, 3) := by decide +kernel
theorem dX11_count_69 : decode cX11_count 69 = .ok (.ireturn, 1) := by decide +kernel
theorem dX11_count_70 : decode cX11_count 70 = .ok (.aload_n 0, 1) := by decide +kernel
theorem dX11_count_71 : decode cX11_count 71 = .ok (.getfield 42, 3) := by decide +kernel
theorem dX11_count_74 : decode cX11_count 74 = .ok (.getfield 73, 3) := by decide +kernel
theorem dX11_count_77 : decode cX11_count 77 = .ok (.ireturn, 1) := by decide +kernel
theorem dX11_count_78 : decode cX11_count 78 = .ok (.aload_n 0, 1) := by decide +kernel
theorem dX11_count_79 : decode cX11_count 79 = .ok (.getfield 38, 3) := by decide +kernel
theorem dX11_count_82 : decode cX11_count 82 = .ok (.getfield 73, 3) := by decide +kernel
theorem dX11_count_85 : decode cX11_count 85 = .ok (.ireturn, 1) := by decide +kernel
theorem dX11_count_86 : decode cX11_count 86 = .ok (.aload_n 0, 1) := by decide +kernel
theorem dX11_count_87 : decode cX11_count 87 = .ok (.getfield 77, 3) := by decide +kernel
theorem dX11_count_90 : decode cX11_count 90 = .ok (.ifCond .eq 7, 3) := by decide +kernel
theorem dX11_count_93 : decode cX11_count 93 = .ok (.iconst 1, 1) := by decide +kernel
theorem dX11_count_94 : decode cX11_count 94 = .ok (.goto 4, 3) := by decide +kernel
theorem dX11_count_97 : decode cX11_count 97 = .ok (.iconst 0, 1) := by decide +kernel
theorem dX11_count_98 : decode cX11_count 98 = .ok (.ireturn, 1) := by decide +kernel
theorem dX11_count_99 : decode cX11_count 99 = .ok (.iconst (-1), 1) := by decide +kernel
theorem dX11_count_100 : decode cX11_count 100 = .ok (.ireturn, 1) := by decide +kernel
def f_H_count (a0 : Int32) (I : Nat → Nat → Int32) (L : Nat → Nat → Int64) : Int32 := (if a0 = (0 : Int32) then (I 2 0) else (if a0 = (1 : Int32) then (I 2 1) else (if a0 = (2 : Int32) then (I 0 6) else (if a0 = (3 : Int32) then (I 0 7) else (if a0 = (4 : Int32) then (I 15 3) else (if a0 = (5 : Int32) then (I 13 3) else (if a0 = (6 : Int32) then (if (I 0 8) = (0 : Int32) then (0 : Int32) else (1 : Int32)) else (-1 : Int32))))))))
set_option maxRecDepth 100000 in
set_option maxHeartbeats 4000000 in
theorem c_H_count {G : xG} {S : List xSh} {Rf : Nat → Nat → Option Nat} (hT : xTH S Rf) {a0 : Int32} {I : Nat → Nat → Int32} {L : Nat → Nat → Int64} {q : Int32} (hf : f_H_count a0 I L = q) : CT G 1 m_H_count [.ref (xB G + 0), .int a0] (S, I, L, Rf) (some (.int q), (S, I, L, Rf)) := by
  refine CT.of (by decide +kernel) (Nat.le_of_ble_eq_true rfl) ?_
  show X G 1 m_H_count 0 [(0, .ref (xB G + 0)), (1, .int a0)] [] (S, I, L, Rf) (some (.int q), (S, I, L, Rf))
  replace hf := (f_H_count.eq_1 _ _ _).symm.trans hf
  refine X_iload_n (pc := 0) (i := 1) 1 dX11_count_0 rfl rfl ?_
  by_cases c1 : a0 = (0 : Int32)
  · replace hf := (if_pos c1).symm.trans hf
    refine X_tabIn (pc := 1) (off := 43) (0) 44 dX11_count_1 (by rw [c1]; rfl) (by decide) ?_
    refine X_aload_n (pc := 44) (i := 0) 0 dX11_count_44 rfl rfl ?_
    refine X_getr (pc := 45) (a := 0) (ci := 10) (j := 1) (c := 2) (sh_0 hT) (by decide) k_378 (rf_0_1 hT) (fun _ h => h) dX11_count_45 ?_
    refine X_get (pc := 48) (a := 2) (ci := 6) (j := 0) (.int (I 2 0)) (sh_2 hT) (by decide) k_107 rfl dX11_count_48 ?_
    subst hf
    exact X_ireturn (pc := 51) rfl dX11_count_51
  · replace hf := (if_neg c1).symm.trans hf
    by_cases c2 : a0 = (1 : Int32)
    · replace hf := (if_pos c2).symm.trans hf
      refine X_tabIn (pc := 1) (off := 51) (1) 52 dX11_count_1 (by rw [c2]; rfl) (by decide) ?_
      refine X_aload_n (pc := 52) (i := 0) 0 dX11_count_52 rfl rfl ?_
      refine X_getr (pc := 53) (a := 0) (ci := 10) (j := 1) (c := 2) (sh_0 hT) (by decide) k_378 (rf_0_1 hT) (fun _ h => h) dX11_count_53 ?_
      refine X_get (pc := 56) (a := 2) (ci := 6) (j := 1) (.int (I 2 1)) (sh_2 hT) (by decide) k_109 rfl dX11_count_56 ?_
      subst hf
      exact X_ireturn (pc := 59) rfl dX11_count_59
    · replace hf := (if_neg c2).symm.trans hf
      by_cases c3 : a0 = (2 : Int32)
      · replace hf := (if_pos c3).symm.trans hf
        refine X_tabIn (pc := 1) (off := 59) (2) 60 dX11_count_1 (by rw [c3]; rfl) (by decide) ?_
        refine X_aload_n (pc := 60) (i := 0) 0 dX11_count_60 rfl rfl ?_
        refine X_get (pc := 61) (a := 0) (ci := 10) (j := 6) (.int (I 0 6)) (sh_0 hT) (by decide) k_383 rfl dX11_count_61 ?_
        subst hf
        exact X_ireturn (pc := 64) rfl dX11_count_64
      · replace hf := (if_neg c3).symm.trans hf
        by_cases c4 : a0 = (3 : Int32)
        · replace hf := (if_pos c4).symm.trans hf
          refine X_tabIn (pc := 1) (off := 64) (3) 65 dX11_count_1 (by rw [c4]; rfl) (by decide) ?_
          refine X_aload_n (pc := 65) (i := 0) 0 dX11_count_65 rfl rfl ?_
          refine X_get (pc := 66) (a := 0) (ci := 10) (j := 7) (.int (I 0 7)) (sh_0 hT) (by decide) k_384 rfl dX11_count_66 ?_
          subst hf
          exact X_ireturn (pc := 69) rfl dX11_count_69
        · replace hf := (if_neg c4).symm.trans hf
          by_cases c5 : a0 = (4 : Int32)
          · replace hf := (if_pos c5).symm.trans hf
            refine X_tabIn (pc := 1) (off := 69) (4) 70 dX11_count_1 (by rw [c5]; rfl) (by decide) ?_
            refine X_aload_n (pc := 70) (i := 0) 0 dX11_count_70 rfl rfl ?_
            refine X_getr (pc := 71) (a := 0) (ci := 10) (j := 5) (c := 15) (sh_0 hT) (by decide) k_382 (rf_0_5 hT) (fun _ h => h) dX11_count_71 ?_
            refine X_get (pc := 74) (a := 15) (ci := 7) (j := 3) (.int (I 15 3)) (sh_15 hT) (by decide) k_161 rfl dX11_count_74 ?_
            subst hf
            exact X_ireturn (pc := 77) rfl dX11_count_77
          · replace hf := (if_neg c5).symm.trans hf
            by_cases c6 : a0 = (5 : Int32)
            · replace hf := (if_pos c6).symm.trans hf
              refine X_tabIn (pc := 1) (off := 77) (5) 78 dX11_count_1 (by rw [c6]; rfl) (by decide) ?_
              refine X_aload_n (pc := 78) (i := 0) 0 dX11_count_78 rfl rfl ?_
              refine X_getr (pc := 79) (a := 0) (ci := 10) (j := 4) (c := 13) (sh_0 hT) (by decide) k_381 (rf_0_4 hT) (fun _ h => h) dX11_count_79 ?_
              refine X_get (pc := 82) (a := 13) (ci := 7) (j := 3) (.int (I 13 3)) (sh_13 hT) (by decide) k_161 rfl dX11_count_82 ?_
              subst hf
              exact X_ireturn (pc := 85) rfl dX11_count_85
            · replace hf := (if_neg c6).symm.trans hf
              by_cases c7 : a0 = (6 : Int32)
              · replace hf := (if_pos c7).symm.trans hf
                refine X_tabIn (pc := 1) (off := 85) (6) 86 dX11_count_1 (by rw [c7]; rfl) (by decide) ?_
                refine X_aload_n (pc := 86) (i := 0) 0 dX11_count_86 rfl rfl ?_
                refine X_get (pc := 87) (a := 0) (ci := 10) (j := 8) (.int (I 0 8)) (sh_0 hT) (by decide) k_385 rfl dX11_count_87 ?_
                by_cases c8 : (I 0 8) = (0 : Int32)
                · replace hf := (if_pos c8).symm.trans hf
                  refine X_if_eq_t (pc := 90) 97 dX11_count_90 (by decide) c8 ?_
                  refine X_iconst (pc := 97) (0 : Int32) dX11_count_97 (by decide) ?_
                  subst hf
                  exact X_ireturn (pc := 98) rfl dX11_count_98
                · replace hf := (if_neg c8).symm.trans hf
                  refine X_if_eq_f (pc := 90) 97 dX11_count_90 (by decide) c8 ?_
                  refine X_iconst (pc := 93) (1 : Int32) dX11_count_93 (by decide) ?_
                  refine X_goto (pc := 94) 98 dX11_count_94 (by decide) ?_
                  subst hf
                  exact X_ireturn (pc := 98) rfl dX11_count_98
              · replace hf := (if_neg c7).symm.trans hf
                refine X_tabOut (pc := 1) 99 dX11_count_1 (by have zc1 := lv_neT (a := 0) c1 rfl; have zc2 := lv_neT (a := 1) c2 rfl; have zc3 := lv_neT (a := 2) c3 rfl; have zc4 := lv_neT (a := 3) c4 rfl; have zc5 := lv_neT (a := 4) c5 rfl; have zc6 := lv_neT (a := 5) c6 rfl; have zc7 := lv_neT (a := 6) c7 rfl; omega) (by decide) ?_
                refine X_iconst (pc := 99) (-1 : Int32) dX11_count_99 (by decide) ?_
                subst hf
                exact X_ireturn (pc := 100) rfl dX11_count_100
theorem dX9_setLimits_0 : decode cX9_setLimits 0 = .ok (.iload_n 1, 1) := by decide +kernel
theorem dX9_setLimits_1 : decode cX9_setLimits 1 = .ok (.ifCond .ne 16, 3) := by decide +kernel
theorem dX9_setLimits_4 : decode cX9_setLimits 4 = .ok (.aload_n 0, 1) := by decide +kernel
theorem dX9_setLimits_5 : decode cX9_setLimits 5 = .ok (.iload_n 2, 1) := by decide +kernel
theorem dX9_setLimits_6 : decode cX9_setLimits 6 = .ok (.putfield 9, 3) := by decide +kernel
theorem dX9_setLimits_9 : decode cX9_setLimits 9 = .ok (.aload_n 0, 1) := by decide +kernel
theorem dX9_setLimits_10 : decode cX9_setLimits 10 = .ok (.iload_n 3, 1) := by decide +kernel
theorem dX9_setLimits_11 : decode cX9_setLimits 11 = .ok (.putfield 15, 3) := by decide +kernel
theorem dX9_setLimits_14 : decode cX9_setLimits 14 = .ok (.goto 13, 3) := by decide +kernel
theorem dX9_setLimits_17 : decode cX9_setLimits 17 = .ok (.aload_n 0, 1) := by decide +kernel
theorem dX9_setLimits_18 : decode cX9_setLimits 18 = .ok (.iload_n 2, 1) := by decide +kernel
theorem dX9_setLimits_19 : decode cX9_setLimits 19 = .ok (.putfield 18, 3) := by decide +kernel
theorem dX9_setLimits_22 : decode cX9_setLimits 22 = .ok (.aload_n 0, 1) := by decide +kernel
theorem dX9_setLimits_23 : decode cX9_setLimits 23 = .ok (.iload_n 3, 1) := by decide +kernel
theorem dX9_setLimits_24 : decode cX9_setLimits 24 = .ok (.putfield 21, 3) := by decide +kernel
theorem dX9_setLimits_27 : decode cX9_setLimits 27 = .ok (.return_, 1) := by decide +kernel
def f_Tr_setLimits (a0 : Int32) (a1 : Int32) (a2 : Int32) (I : Nat → Nat → Int32) (L : Nat → Nat → Int64) : Option ((Nat → Nat → Int32) × (Nat → Nat → Int64)) := (if a0 = (0 : Int32) then (some ((uI (uI I 17 0 a1) 17 1 a2), L)) else (some ((uI (uI I 17 2 a1) 17 3 a2), L)))
set_option maxRecDepth 100000 in
set_option maxHeartbeats 4000000 in
theorem c_Tr_setLimits {G : xG} {S : List xSh} {Rf : Nat → Nat → Option Nat} (hT : xTH S Rf) {a0 : Int32} {a1 : Int32} {a2 : Int32} {I : Nat → Nat → Int32} {L : Nat → Nat → Int64} {q : ((Nat → Nat → Int32) × (Nat → Nat → Int64))} (hf : f_Tr_setLimits a0 a1 a2 I L = some q) : CT G 1 m_Tr_setLimits [.ref (xB G + 17), .int a0, .int a1, .int a2] (S, I, L, Rf) (none, (S, q.1, q.2, Rf)) := by
  refine CT.of (by decide +kernel) (Nat.le_of_ble_eq_true rfl) ?_
  show X G 1 m_Tr_setLimits 0 [(0, .ref (xB G + 17)), (1, .int a0), (2, .int a1), (3, .int a2)] [] (S, I, L, Rf) (none, (S, q.1, q.2, Rf))
  replace hf := (f_Tr_setLimits.eq_1 _ _ _ _ _).symm.trans hf
  refine X_iload_n (pc := 0) (i := 1) 1 dX9_setLimits_0 rfl rfl ?_
  by_cases c1 : a0 = (0 : Int32)
  · replace hf := (if_pos c1).symm.trans hf
    refine X_if_ne_f (pc := 1) 17 dX9_setLimits_1 (by decide) c1 ?_
    refine X_aload_n (pc := 4) (i := 0) 0 dX9_setLimits_4 rfl rfl ?_
    refine X_iload_n (pc := 5) (i := 2) 2 dX9_setLimits_5 rfl rfl ?_
    refine X_puti (pc := 6) (a := 17) (ci := 9) (j := 0) false (sh_17 hT) (by decide) k_244 rfl (fun h => by cases h) rfl dX9_setLimits_6 ?_
    refine X_aload_n (pc := 9) (i := 0) 0 dX9_setLimits_9 rfl rfl ?_
    refine X_iload_n (pc := 10) (i := 3) 3 dX9_setLimits_10 rfl rfl ?_
    refine X_puti (pc := 11) (a := 17) (ci := 9) (j := 1) false (sh_17 hT) (by decide) k_245 rfl (fun h => by cases h) rfl dX9_setLimits_11 ?_
    refine X_goto (pc := 14) 27 dX9_setLimits_14 (by decide) ?_
    cases hf
    exact X_return (pc := 27) rfl dX9_setLimits_27
  · replace hf := (if_neg c1).symm.trans hf
    refine X_if_ne_t (pc := 1) 17 dX9_setLimits_1 (by decide) c1 ?_
    refine X_aload_n (pc := 17) (i := 0) 0 dX9_setLimits_17 rfl rfl ?_
    refine X_iload_n (pc := 18) (i := 2) 2 dX9_setLimits_18 rfl rfl ?_
    refine X_puti (pc := 19) (a := 17) (ci := 9) (j := 2) false (sh_17 hT) (by decide) k_246 rfl (fun h => by cases h) rfl dX9_setLimits_19 ?_
    refine X_aload_n (pc := 22) (i := 0) 0 dX9_setLimits_22 rfl rfl ?_
    refine X_iload_n (pc := 23) (i := 3) 3 dX9_setLimits_23 rfl rfl ?_
    refine X_puti (pc := 24) (a := 17) (ci := 9) (j := 3) false (sh_17 hT) (by decide) k_247 rfl (fun h => by cases h) rfl dX9_setLimits_24 ?_
    cases hf
    exact X_return (pc := 27) rfl dX9_setLimits_27
theorem u_Tr_setLimits {S : List xSh} {a0 : Int32} {a1 : Int32} {a2 : Int32} {I : Nat → Nat → Int32} {L : Nat → Nat → Int64} {q : ((Nat → Nat → Int32) × (Nat → Nat → Int64))} (hf : f_Tr_setLimits a0 a1 a2 I L = some q) : FR S [2700, 2701, 2702, 2703] [] I q.1 L q.2 := by
  replace hf := (f_Tr_setLimits.eq_1 _ _ _ _ _).symm.trans hf
  by_cases c1 : a0 = (0 : Int32)
  · replace hf := (if_pos c1).symm.trans hf
    cases hf
    exact (FR.fi (FR.fi FR.rf (by decide)) (by decide))
  · replace hf := (if_neg c1).symm.trans hf
    cases hf
    exact (FR.fi (FR.fi FR.rf (by decide)) (by decide))
theorem dX11_teeth_0 : decode cX11_teeth 0 = .ok (.iload_n 1, 1) := by decide +kernel
theorem dX11_teeth_1 : decode cX11_teeth 1 = .ok (.iconst 0, 1) := by decide +kernel
theorem dX11_teeth_2 : decode cX11_teeth 2 = .ok (.iconst 1, 1) := by decide +kernel
theorem dX11_teeth_3 : decode cX11_teeth 3 = .ok (.invokestatic 91, 3) := by decide +kernel
theorem dX11_teeth_6 : decode cX11_teeth 6 = .ok (.ifCond .eq 20, 3) := by decide +kernel
theorem dX11_teeth_9 : decode cX11_teeth 9 = .ok (.iload_n 2, 1) := by decide +kernel
theorem dX11_teeth_10 : decode cX11_teeth 10 = .ok (.iconst 4, 1) := by decide +kernel
theorem dX11_teeth_11 : decode cX11_teeth 11 = .ok (.if_icmp .lt 15, 3) := by decide +kernel
theorem dX11_teeth_14 : decode cX11_teeth 14 = .ok (.iload_n 3, 1) := by decide +kernel
theorem dX11_teeth_15 : decode cX11_teeth 15 = .ok (.sipush 200, 3) := by decide +kernel
theorem dX11_teeth_18 : decode cX11_teeth 18 = .ok (.if_icmp .gt 8, 3) := by decide +kernel
theorem dX11_teeth_21 : decode cX11_teeth 21 = .ok (.iload_n 3, 1) := by decide +kernel
theorem dX11_teeth_22 : decode cX11_teeth 22 = .ok (.iload_n 2, 1) := by decide +kernel
theorem dX11_teeth_23 : decode cX11_teeth 23 = .ok (.if_icmp .ge 5, 3) := by decide +kernel
theorem dX11_teeth_26 : decode cX11_teeth 26 = .ok (.iconst (-1), 1) := by decide +kernel
theorem dX11_teeth_27 : decode cX11_teeth 27 = .ok (.ireturn, 1) := by decide +kernel
theorem dX11_teeth_28 : decode cX11_teeth 28 = .ok (.aload_n 0, 1) := by decide +kernel
theorem dX11_teeth_29 : decode cX11_teeth 29 = .ok (.getfield 48, 3) := by decide +kernel
theorem dX11_teeth_32 : decode cX11_teeth 32 = .ok (.iload_n 1, 1) := by decide +kernel
theorem dX11_teeth_33 : decode cX11_teeth 33 = .ok (.iload_n 2, 1) := by decide +kernel
theorem dX11_teeth_34 : decode cX11_teeth 34 = .ok (.iload_n 3, 1) := by decide +kernel
theorem dX11_teeth_35 : decode cX11_teeth 35 = .ok (.invokevirtual 281, 3) := by decide +kernel
theorem dX11_teeth_38 : decode cX11_teeth 38 = .ok (.iconst 0, 1) := by decide +kernel
theorem dX11_teeth_39 : decode cX11_teeth 39 = .ok (.ireturn, 1) := by decide +kernel
def f_H_teeth (a0 : Int32) (a1 : Int32) (a2 : Int32) (I : Nat → Nat → Int32) (L : Nat → Nat → Int64) : Option (Int32 × (Nat → Nat → Int32) × (Nat → Nat → Int64)) := (bnd (f_H_isWithin a0 (0 : Int32) (1 : Int32)) fun x1 => (if x1 = (0 : Int32) then (some ((-1 : Int32), I, L)) else (if a1 < (4 : Int32) then (some ((-1 : Int32), I, L)) else (if (200 : Int32) < a2 then (some ((-1 : Int32), I, L)) else (if a1 ≤ a2 then ((f_Tr_setLimits a0 a1 a2 I L).bind fun q6 => (some ((0 : Int32), q6.1, q6.2))) else (some ((-1 : Int32), I, L)))))))
set_option maxRecDepth 100000 in
set_option maxHeartbeats 4000000 in
theorem c_H_teeth {G : xG} {S : List xSh} {Rf : Nat → Nat → Option Nat} (hT : xTH S Rf) {a0 : Int32} {a1 : Int32} {a2 : Int32} {I : Nat → Nat → Int32} {L : Nat → Nat → Int64} {q : (Int32 × (Nat → Nat → Int32) × (Nat → Nat → Int64))} (hf : f_H_teeth a0 a1 a2 I L = some q) : CT G 2 m_H_teeth [.ref (xB G + 0), .int a0, .int a1, .int a2] (S, I, L, Rf) (some (.int q.1), (S, q.2.1, q.2.2, Rf)) := by
  refine CT.of (by decide +kernel) (Nat.le_of_ble_eq_true rfl) ?_
  show X G 2 m_H_teeth 0 [(0, .ref (xB G + 0)), (1, .int a0), (2, .int a1), (3, .int a2)] [] (S, I, L, Rf) (some (.int q.1), (S, q.2.1, q.2.2, Rf))
  replace hf := (f_H_teeth.eq_1 _ _ _ _ _).symm.trans hf
  refine X_iload_n (pc := 0) (i := 1) 1 dX11_teeth_0 rfl rfl ?_
  refine X_iconst (pc := 1) (0 : Int32) dX11_teeth_1 (by decide) ?_
  refine X_iconst (pc := 2) (1 : Int32) dX11_teeth_2 (by decide) ?_
  refine X_invS_i (pc := 3) (c_H_isWithin hT rfl) ok_H_isWithin k_437 k_438 nd_6 (by decide) rfl (Nat.le_of_ble_eq_true rfl) dX11_teeth_3 ?_
  obtain ⟨x1, ex1, hf⟩ := bnd_e hf
  refine X_tope ex1 ?_
  by_cases c2 : x1 = (0 : Int32)
  · replace hf := (if_pos c2).symm.trans hf
    refine X_if_eq_t (pc := 6) 26 dX11_teeth_6 (by decide) c2 ?_
    refine X_iconst (pc := 26) (-1 : Int32) dX11_teeth_26 (by decide) ?_
    cases hf
    exact X_ireturn (pc := 27) rfl dX11_teeth_27
  · replace hf := (if_neg c2).symm.trans hf
    refine X_if_eq_f (pc := 6) 26 dX11_teeth_6 (by decide) c2 ?_
    refine X_iload_n (pc := 9) (i := 2) 2 dX11_teeth_9 rfl rfl ?_
    refine X_iconst (pc := 10) (4 : Int32) dX11_teeth_10 (by decide) ?_
    by_cases c3 : a1 < (4 : Int32)
    · replace hf := (if_pos c3).symm.trans hf
      refine X_icmp_lt_t (pc := 11) 26 dX11_teeth_11 (by decide) c3 ?_
      refine X_iconst (pc := 26) (-1 : Int32) dX11_teeth_26 (by decide) ?_
      cases hf
      exact X_ireturn (pc := 27) rfl dX11_teeth_27
    · replace hf := (if_neg c3).symm.trans hf
      refine X_icmp_lt_f (pc := 11) 26 dX11_teeth_11 (by decide) c3 ?_
      refine X_iload_n (pc := 14) (i := 3) 3 dX11_teeth_14 rfl rfl ?_
      refine X_sipush (pc := 15) (200 : Int32) dX11_teeth_15 (by decide) ?_
      by_cases c4 : (200 : Int32) < a2
      · replace hf := (if_pos c4).symm.trans hf
        refine X_icmp_gt_t (pc := 18) 26 dX11_teeth_18 (by decide) c4 ?_
        refine X_iconst (pc := 26) (-1 : Int32) dX11_teeth_26 (by decide) ?_
        cases hf
        exact X_ireturn (pc := 27) rfl dX11_teeth_27
      · replace hf := (if_neg c4).symm.trans hf
        refine X_icmp_gt_f (pc := 18) 26 dX11_teeth_18 (by decide) c4 ?_
        refine X_iload_n (pc := 21) (i := 3) 3 dX11_teeth_21 rfl rfl ?_
        refine X_iload_n (pc := 22) (i := 2) 2 dX11_teeth_22 rfl rfl ?_
        by_cases c5 : a1 ≤ a2
        · replace hf := (if_pos c5).symm.trans hf
          refine X_icmp_ge_t (pc := 23) 28 dX11_teeth_23 (by decide) c5 ?_
          refine X_aload_n (pc := 28) (i := 0) 0 dX11_teeth_28 rfl rfl ?_
          refine X_getr (pc := 29) (a := 0) (ci := 10) (j := 9) (c := 17) (sh_0 hT) (by decide) k_386 (rf_0_9 hT) (fun _ h => h) dX11_teeth_29 ?_
          refine X_iload_n (pc := 32) (i := 1) 1 dX11_teeth_32 rfl rfl ?_
          refine X_iload_n (pc := 33) (i := 2) 2 dX11_teeth_33 rfl rfl ?_
          refine X_iload_n (pc := 34) (i := 3) 3 dX11_teeth_34 rfl rfl ?_
          obtain ⟨q6, c7, hf⟩ := bd_some hf
          refine X_invV_v (pc := 35) (c_Tr_setLimits hT c7) ok_Tr_setLimits (ci := 9) (sh_17 hT) k_967 k_968 k_969 nd_7 (by decide) rfl (Nat.le_of_ble_eq_true rfl) dX11_teeth_35 ?_
          refine X_iconst (pc := 38) (0 : Int32) dX11_teeth_38 (by decide) ?_
          cases hf
          exact X_ireturn (pc := 39) rfl dX11_teeth_39
        · replace hf := (if_neg c5).symm.trans hf
          refine X_icmp_ge_f (pc := 23) 28 dX11_teeth_23 (by decide) c5 ?_
          refine X_iconst (pc := 26) (-1 : Int32) dX11_teeth_26 (by decide) ?_
          cases hf
          exact X_ireturn (pc := 27) rfl dX11_teeth_27
theorem u_H_teeth {S : List xSh} {a0 : Int32} {a1 : Int32} {a2 : Int32} {I : Nat → Nat → Int32} {L : Nat → Nat → Int64} {q : (Int32 × (Nat → Nat → Int32) × (Nat → Nat → Int64))} (hf : f_H_teeth a0 a1 a2 I L = some q) : FR S [2700, 2701, 2702, 2703] [] I q.2.1 L q.2.2 := by
  replace hf := (f_H_teeth.eq_1 _ _ _ _ _).symm.trans hf
  obtain ⟨x1, ex1, hf⟩ := bnd_e hf
  by_cases c2 : x1 = (0 : Int32)
  · replace hf := (if_pos c2).symm.trans hf
    cases hf
    exact FR.rf
  · replace hf := (if_neg c2).symm.trans hf
    by_cases c3 : a1 < (4 : Int32)
    · replace hf := (if_pos c3).symm.trans hf
      cases hf
      exact FR.rf
    · replace hf := (if_neg c3).symm.trans hf
      by_cases c4 : (200 : Int32) < a2
      · replace hf := (if_pos c4).symm.trans hf
        cases hf
        exact FR.rf
      · replace hf := (if_neg c4).symm.trans hf
        by_cases c5 : a1 ≤ a2
        · replace hf := (if_pos c5).symm.trans hf
          obtain ⟨q6, c7, hf⟩ := bd_some hf
          cases hf
          exact (FR.tr FR.rf (u_Tr_setLimits (q := q6) c7) (by decide) (by decide))
        · replace hf := (if_neg c5).symm.trans hf
          cases hf
          exact FR.rf
theorem dX9_rowsOf_0 : decode cX9_rowsOf 0 = .ok (.iload_n 2, 1) := by decide +kernel
theorem dX9_rowsOf_1 : decode cX9_rowsOf 1 = .ok (.iload_n 1, 1) := by decide +kernel
theorem dX9_rowsOf_2 : decode cX9_rowsOf 2 = .ok (.isub, 1) := by decide +kernel
theorem dX9_rowsOf_3 : decode cX9_rowsOf 3 = .ok (.iconst 1, 1) := by decide +kernel
theorem dX9_rowsOf_4 : decode cX9_rowsOf 4 = .ok (.iadd, 1) := by decide +kernel
theorem dX9_rowsOf_5 : decode cX9_rowsOf 5 = .ok (.istore_n 3, 1) := by decide +kernel
theorem dX9_rowsOf_6 : decode cX9_rowsOf 6 = .ok (.iload_n 0, 1) := by decide +kernel
theorem dX9_rowsOf_7 : decode cX9_rowsOf 7 = .ok (.lookupswitch 35 #[(1, 25), (2, 27)], 25) := by decide +kernel
theorem dX9_rowsOf_32 : decode cX9_rowsOf 32 = .ok (.iload_n 3, 1) := by decide +kernel
theorem dX9_rowsOf_33 : decode cX9_rowsOf 33 = .ok (.ireturn, 1) := by decide +kernel
theorem dX9_rowsOf_34 : decode cX9_rowsOf 34 = .ok (.iload_n 3, 1) := by decide +kernel
theorem dX9_rowsOf_35 : decode cX9_rowsOf 35 = .ok (.iload_n 3, 1) := by decide +kernel
theorem dX9_rowsOf_36 : decode cX9_rowsOf 36 = .ok (.iconst 1, 1) := by decide +kernel
theorem dX9_rowsOf_37 : decode cX9_rowsOf 37 = .ok (.iadd, 1) := by decide +kernel
theorem dX9_rowsOf_38 : decode cX9_rowsOf 38 = .ok (.imul, 1) := by decide +kernel
theorem dX9_rowsOf_39 : decode cX9_rowsOf 39 = .ok (.iconst 2, 1) := by decide +kernel
theorem dX9_rowsOf_40 : decode cX9_rowsOf 40 = .ok (.idiv, 1) := by decide +kernel
theorem dX9_rowsOf_41 : decode cX9_rowsOf 41 = .ok (.ireturn, 1) := by decide +kernel
theorem dX9_rowsOf_42 : decode cX9_rowsOf 42 = .ok (.iload_n 3, 1) := by decide +kernel
theorem dX9_rowsOf_43 : decode cX9_rowsOf 43 = .ok (.iload_n 3, 1) := by decide +kernel
theorem dX9_rowsOf_44 : decode cX9_rowsOf 44 = .ok (.iconst 1, 1) := by decide +kernel
theorem dX9_rowsOf_45 : decode cX9_rowsOf 45 = .ok (.iadd, 1) := by decide +kernel
theorem dX9_rowsOf_46 : decode cX9_rowsOf 46 = .ok (.imul, 1) := by decide +kernel
theorem dX9_rowsOf_47 : decode cX9_rowsOf 47 = .ok (.iload_n 3, 1) := by decide +kernel
theorem dX9_rowsOf_48 : decode cX9_rowsOf 48 = .ok (.iconst 2, 1) := by decide +kernel
theorem dX9_rowsOf_49 : decode cX9_rowsOf 49 = .ok (.iadd, 1) := by decide +kernel
theorem dX9_rowsOf_50 : decode cX9_rowsOf 50 = .ok (.imul, 1) := by decide +kernel
theorem dX9_rowsOf_51 : decode cX9_rowsOf 51 = .ok (.bipush 6, 2) := by decide +kernel
theorem dX9_rowsOf_53 : decode cX9_rowsOf 53 = .ok (.idiv, 1) := by decide +kernel
theorem dX9_rowsOf_54 : decode cX9_rowsOf 54 = .ok (.ireturn, 1) := by decide +kernel
def f_Tr_rowsOf (a0 : Int32) (a1 : Int32) (a2 : Int32) : Int32 := (bnd ((a2 - a1) + (1 : Int32)) fun x1 => (if a0 = (1 : Int32) then x1 else (if a0 = (2 : Int32) then ((x1 * (x1 + (1 : Int32))) / (2 : Int32)) else (((x1 * (x1 + (1 : Int32))) * (x1 + (2 : Int32))) / (6 : Int32)))))
set_option maxRecDepth 100000 in
set_option maxHeartbeats 4000000 in
theorem c_Tr_rowsOf {G : xG} {S : List xSh} {Rf : Nat → Nat → Option Nat} (hT : xTH S Rf) {a0 : Int32} {a1 : Int32} {a2 : Int32} {I : Nat → Nat → Int32} {L : Nat → Nat → Int64} {q : Int32} (hf : f_Tr_rowsOf a0 a1 a2 = q) : CT G 1 m_Tr_rowsOf [.int a0, .int a1, .int a2] (S, I, L, Rf) (some (.int q), (S, I, L, Rf)) := by
  refine CT.of (by decide +kernel) (Nat.le_of_ble_eq_true rfl) ?_
  show X G 1 m_Tr_rowsOf 0 [(0, .int a0), (1, .int a1), (2, .int a2)] [] (S, I, L, Rf) (some (.int q), (S, I, L, Rf))
  replace hf := (f_Tr_rowsOf.eq_1 _ _ _).symm.trans hf
  refine X_iload_n (pc := 0) (i := 2) 2 dX9_rowsOf_0 rfl rfl ?_
  refine X_iload_n (pc := 1) (i := 1) 1 dX9_rowsOf_1 rfl rfl ?_
  refine X_isub (pc := 2) dX9_rowsOf_2 ?_
  refine X_iconst (pc := 3) (1 : Int32) dX9_rowsOf_3 (by decide) ?_
  refine X_iadd (pc := 4) dX9_rowsOf_4 ?_
  obtain ⟨x1, ex1, hf⟩ := bnd_e hf
  refine X_tope ex1 ?_
  refine X_istore_n (pc := 5) (i := 3) [(3, .int x1), (0, .int a0), (1, .int a1), (2, .int a2)] dX9_rowsOf_5 rfl (by decide) rfl ?_
  refine X_iload_n (pc := 6) (i := 0) 1 dX9_rowsOf_6 rfl rfl ?_
  by_cases c2 : a0 = (1 : Int32)
  · replace hf := (if_pos c2).symm.trans hf
    refine X_lookup (pc := 7) (off := 25) 32 dX9_rowsOf_7 (by decide) (by rw [c2]; rfl) (by decide) ?_
    refine X_iload_n (pc := 32) (i := 3) 0 dX9_rowsOf_32 rfl rfl ?_
    subst hf
    exact X_ireturn (pc := 33) rfl dX9_rowsOf_33
  · replace hf := (if_neg c2).symm.trans hf
    by_cases c3 : a0 = (2 : Int32)
    · replace hf := (if_pos c3).symm.trans hf
      refine X_lookup (pc := 7) (off := 27) 34 dX9_rowsOf_7 (by decide) (by rw [c3]; rfl) (by decide) ?_
      refine X_iload_n (pc := 34) (i := 3) 0 dX9_rowsOf_34 rfl rfl ?_
      refine X_iload_n (pc := 35) (i := 3) 0 dX9_rowsOf_35 rfl rfl ?_
      refine X_iconst (pc := 36) (1 : Int32) dX9_rowsOf_36 (by decide) ?_
      refine X_iadd (pc := 37) dX9_rowsOf_37 ?_
      refine X_imul (pc := 38) dX9_rowsOf_38 ?_
      refine X_iconst (pc := 39) (2 : Int32) dX9_rowsOf_39 (by decide) ?_
      refine X_idiv (pc := 40) dX9_rowsOf_40 (by decide) ?_
      subst hf
      exact X_ireturn (pc := 41) rfl dX9_rowsOf_41
    · replace hf := (if_neg c3).symm.trans hf
      refine X_lookup (pc := 7) (off := 35) 42 dX9_rowsOf_7 (by decide) ((lv_osw c2 rfl).trans ((lv_osw c3 rfl).trans rfl)) (by decide) ?_
      refine X_iload_n (pc := 42) (i := 3) 0 dX9_rowsOf_42 rfl rfl ?_
      refine X_iload_n (pc := 43) (i := 3) 0 dX9_rowsOf_43 rfl rfl ?_
      refine X_iconst (pc := 44) (1 : Int32) dX9_rowsOf_44 (by decide) ?_
      refine X_iadd (pc := 45) dX9_rowsOf_45 ?_
      refine X_imul (pc := 46) dX9_rowsOf_46 ?_
      refine X_iload_n (pc := 47) (i := 3) 0 dX9_rowsOf_47 rfl rfl ?_
      refine X_iconst (pc := 48) (2 : Int32) dX9_rowsOf_48 (by decide) ?_
      refine X_iadd (pc := 49) dX9_rowsOf_49 ?_
      refine X_imul (pc := 50) dX9_rowsOf_50 ?_
      refine X_bipush (pc := 51) (6 : Int32) dX9_rowsOf_51 (by decide) ?_
      refine X_idiv (pc := 53) dX9_rowsOf_53 (by decide) ?_
      subst hf
      exact X_ireturn (pc := 54) rfl dX9_rowsOf_54
theorem dX9_setError_0 : decode cX9_setError 0 = .ok (.aload_n 0, 1) := by decide +kernel
theorem dX9_setError_1 : decode cX9_setError 1 = .ok (.getfield 50, 3) := by decide +kernel
theorem dX9_setError_4 : decode cX9_setError 4 = .ok (.aload_n 0, 1) := by decide +kernel
theorem dX9_setError_5 : decode cX9_setError 5 = .ok (.getfield 47, 3) := by decide +kernel
theorem dX9_setError_8 : decode cX9_setError 8 = .ok (.lmul, 1) := by decide +kernel
theorem dX9_setError_9 : decode cX9_setError 9 = .ok (.lstore_n 1, 1) := by decide +kernel
theorem dX9_setError_10 : decode cX9_setError 10 = .ok (.aload_n 0, 1) := by decide +kernel
theorem dX9_setError_11 : decode cX9_setError 11 = .ok (.getfield 67, 3) := by decide +kernel
theorem dX9_setError_14 : decode cX9_setError 14 = .ok (.lload_n 1, 1) := by decide +kernel
theorem dX9_setError_15 : decode cX9_setError 15 = .ok (.invokestatic 108, 3) := by decide +kernel
theorem dX9_setError_18 : decode cX9_setError 18 = .ok (.lstore_n 3, 1) := by decide +kernel
theorem dX9_setError_19 : decode cX9_setError 19 = .ok (.aload_n 0, 1) := by decide +kernel
theorem dX9_setError_20 : decode cX9_setError 20 = .ok (.lload_n 3, 1) := by decide +kernel
theorem dX9_setError_21 : decode cX9_setError 21 = .ok (.lconst 0, 1) := by decide +kernel
theorem dX9_setError_22 : decode cX9_setError 22 = .ok (.lcmp, 1) := by decide +kernel
theorem dX9_setError_23 : decode cX9_setError 23 = .ok (.ifCond .le 12, 3) := by decide +kernel
theorem dX9_setError_26 : decode cX9_setError 26 = .ok (.aload_n 0, 1) := by decide +kernel
theorem dX9_setError_27 : decode cX9_setError 27 = .ok (.getfield 67, 3) := by decide +kernel
theorem dX9_setError_30 : decode cX9_setError 30 = .ok (.lload_n 3, 1) := by decide +kernel
theorem dX9_setError_31 : decode cX9_setError 31 = .ok (.ldiv, 1) := by decide +kernel
theorem dX9_setError_32 : decode cX9_setError 32 = .ok (.goto 4, 3) := by decide +kernel
theorem dX9_setError_35 : decode cX9_setError 35 = .ok (.lconst 0, 1) := by decide +kernel
theorem dX9_setError_36 : decode cX9_setError 36 = .ok (.putfield 112, 3) := by decide +kernel
theorem dX9_setError_39 : decode cX9_setError 39 = .ok (.aload_n 0, 1) := by decide +kernel
theorem dX9_setError_40 : decode cX9_setError 40 = .ok (.lload_n 3, 1) := by decide +kernel
theorem dX9_setError_41 : decode cX9_setError 41 = .ok (.lconst 0, 1) := by decide +kernel
theorem dX9_setError_42 : decode cX9_setError 42 = .ok (.lcmp, 1) := by decide +kernel
theorem dX9_setError_43 : decode cX9_setError 43 = .ok (.ifCond .le 9, 3) := by decide +kernel
theorem dX9_setError_46 : decode cX9_setError 46 = .ok (.lload_n 1, 1) := by decide +kernel
theorem dX9_setError_47 : decode cX9_setError 47 = .ok (.lload_n 3, 1) := by decide +kernel
theorem dX9_setError_48 : decode cX9_setError 48 = .ok (.ldiv, 1) := by decide +kernel
theorem dX9_setError_49 : decode cX9_setError 49 = .ok (.goto 4, 3) := by decide +kernel
theorem dX9_setError_52 : decode cX9_setError 52 = .ok (.lconst 0, 1) := by decide +kernel
theorem dX9_setError_53 : decode cX9_setError 53 = .ok (.putfield 115, 3) := by decide +kernel
theorem dX9_setError_56 : decode cX9_setError 56 = .ok (.return_, 1) := by decide +kernel
def f_Tr_setError_L36 (l1 : Int64) (l3 : Int64) (s1 : Int64) (I : (Nat → Nat → Int32)) (L : (Nat → Nat → Int64)) : Option ((Nat → Nat → Int32) × (Nat → Nat → Int64)) := (if l3 ≤ (0 : Int64) then (some (I, (uL (uL L 17 7 s1) 17 8 (0 : Int64)))) else (if ¬ l3 = (0 : Int64) then (bnd (l1 / l3) fun x7 => (some (I, (uL (uL L 17 7 s1) 17 8 x7)))) else none))
set_option maxRecDepth 100000 in
set_option maxHeartbeats 4000000 in
theorem x_Tr_setError_L36 {G : xG} {S : List xSh} {Rf : Nat → Nat → Option Nat} (hT : xTH S Rf) {l1 : Int64} {l3 : Int64} {s1 : Int64} {I : Nat → Nat → Int32} {L : Nat → Nat → Int64} {q : ((Nat → Nat → Int32) × (Nat → Nat → Int64))} (hf : f_Tr_setError_L36 l1 l3 s1 I L = some q) : X G 2 m_Tr_setError 36 [(0, .ref (xB G + 17)), (1, .long l1), (3, .long l3)] [.long s1, .ref (xB G + 17)] (S, I, L, Rf) (none, (S, q.1, q.2, Rf)) := by
  replace hf := (f_Tr_setError_L36.eq_1 _ _ _ _ _).symm.trans hf
  refine X_putl (pc := 36) (a := 17) (ci := 9) (j := 7) false (sh_17 hT) (by decide) k_254 rfl (fun h => by cases h) rfl dX9_setError_36 ?_
  refine X_aload_n (pc := 39) (i := 0) 0 dX9_setError_39 rfl rfl ?_
  refine X_lload_n (pc := 40) (i := 3) 2 dX9_setError_40 rfl rfl ?_
  refine X_lconst (pc := 41) (0 : Int64) dX9_setError_41 (by decide) ?_
  refine X_lcmp (pc := 42) dX9_setError_42 ?_
  by_cases c5 : l3 ≤ (0 : Int64)
  · replace hf := (if_pos c5).symm.trans hf
    refine X_if_le_t (pc := 43) 52 dX9_setError_43 (by decide) ((lg_cmp_le _ _).mpr c5) ?_
    refine X_lconst (pc := 52) (0 : Int64) dX9_setError_52 (by decide) ?_
    refine X_putl (pc := 53) (a := 17) (ci := 9) (j := 8) false (sh_17 hT) (by decide) k_256 rfl (fun h => by cases h) rfl dX9_setError_53 ?_
    cases hf
    exact X_return (pc := 56) rfl dX9_setError_56
  · replace hf := (if_neg c5).symm.trans hf
    refine X_if_le_f (pc := 43) 52 dX9_setError_43 (by decide) (fun h => c5 ((lg_cmp_le _ _).mp h)) ?_
    refine X_lload_n (pc := 46) (i := 1) 1 dX9_setError_46 rfl rfl ?_
    refine X_lload_n (pc := 47) (i := 3) 2 dX9_setError_47 rfl rfl ?_
    obtain ⟨c6, hf⟩ := gd_some hf
    refine X_ldiv (pc := 48) dX9_setError_48 c6 ?_
    refine X_goto (pc := 49) 53 dX9_setError_49 (by decide) ?_
    obtain ⟨x7, ex7, hf⟩ := bnd_e hf
    refine X_tople ex7 ?_
    refine X_putl (pc := 53) (a := 17) (ci := 9) (j := 8) false (sh_17 hT) (by decide) k_256 rfl (fun h => by cases h) rfl dX9_setError_53 ?_
    cases hf
    exact X_return (pc := 56) rfl dX9_setError_56
theorem u_Tr_setError_L36 {S : List xSh} {l1 : Int64} {l3 : Int64} {s1 : Int64} {I : Nat → Nat → Int32} {L : Nat → Nat → Int64} {q : ((Nat → Nat → Int32) × (Nat → Nat → Int64))} (hf : f_Tr_setError_L36 l1 l3 s1 I L = some q) : FR S [] [2707, 2708] I q.1 L q.2 := by
  replace hf := (f_Tr_setError_L36.eq_1 _ _ _ _ _).symm.trans hf
  by_cases c5 : l3 ≤ (0 : Int64)
  · replace hf := (if_pos c5).symm.trans hf
    cases hf
    exact (FR.fl (FR.fl FR.rf (by decide)) (by decide))
  · replace hf := (if_neg c5).symm.trans hf
    obtain ⟨c6, hf⟩ := gd_some hf
    obtain ⟨x7, ex7, hf⟩ := bnd_e hf
    cases hf
    exact (FR.fl (FR.fl FR.rf (by decide)) (by decide))
def f_Tr_setError (I : Nat → Nat → Int32) (L : Nat → Nat → Int64) : Option ((Nat → Nat → Int32) × (Nat → Nat → Int64)) := (bnd ((L 17 12) * (L 17 10)) fun x1 => ((f_H_commonDivisor (L 17 11) x1).bind fun q2 => (if q2 ≤ (0 : Int64) then (f_Tr_setError_L36 x1 q2 (0 : Int64) I L) else (if ¬ q2 = (0 : Int64) then (f_Tr_setError_L36 x1 q2 ((L 17 11) / q2) I L) else none))))
set_option maxRecDepth 100000 in
set_option maxHeartbeats 4000000 in
theorem c_Tr_setError {G : xG} {S : List xSh} {Rf : Nat → Nat → Option Nat} (hT : xTH S Rf) {I : Nat → Nat → Int32} {L : Nat → Nat → Int64} {q : ((Nat → Nat → Int32) × (Nat → Nat → Int64))} (hf : f_Tr_setError I L = some q) : CT G 2 m_Tr_setError [.ref (xB G + 17)] (S, I, L, Rf) (none, (S, q.1, q.2, Rf)) := by
  refine CT.of (by decide +kernel) (Nat.le_of_ble_eq_true rfl) ?_
  show X G 2 m_Tr_setError 0 [(0, .ref (xB G + 17))] [] (S, I, L, Rf) (none, (S, q.1, q.2, Rf))
  replace hf := (f_Tr_setError.eq_1 _ _).symm.trans hf
  refine X_aload_n (pc := 0) (i := 0) 0 dX9_setError_0 rfl rfl ?_
  refine X_get (pc := 1) (a := 17) (ci := 9) (j := 12) (.long (L 17 12)) (sh_17 hT) (by decide) k_261 rfl dX9_setError_1 ?_
  refine X_aload_n (pc := 4) (i := 0) 0 dX9_setError_4 rfl rfl ?_
  refine X_get (pc := 5) (a := 17) (ci := 9) (j := 10) (.long (L 17 10)) (sh_17 hT) (by decide) k_259 rfl dX9_setError_5 ?_
  refine X_lmul (pc := 8) dX9_setError_8 ?_
  obtain ⟨x1, ex1, hf⟩ := bnd_e hf
  refine X_tople ex1 ?_
  refine X_lstore_n (pc := 9) (i := 1) [(1, .long x1), (0, .ref (xB G + 17))] dX9_setError_9 rfl (by decide) rfl ?_
  refine X_aload_n (pc := 10) (i := 0) 1 dX9_setError_10 rfl rfl ?_
  refine X_get (pc := 11) (a := 17) (ci := 9) (j := 11) (.long (L 17 11)) (sh_17 hT) (by decide) k_260 rfl dX9_setError_11 ?_
  refine X_lload_n (pc := 14) (i := 1) 0 dX9_setError_14 rfl rfl ?_
  obtain ⟨q2, c3, hf⟩ := bd_some hf
  refine X_invSN_l (pc := 15) (c_H_commonDivisor hT c3) ok_H_commonDivisor k_1015 k_470 nd_9 (by decide) rfl (Nat.le_of_ble_eq_true rfl) dX9_setError_15 ?_
  refine X_lstore_n (pc := 18) (i := 3) [(3, .long q2), (1, .long x1), (0, .ref (xB G + 17))] dX9_setError_18 rfl (by decide) rfl ?_
  refine X_aload_n (pc := 19) (i := 0) 2 dX9_setError_19 rfl rfl ?_
  refine X_lload_n (pc := 20) (i := 3) 0 dX9_setError_20 rfl rfl ?_
  refine X_lconst (pc := 21) (0 : Int64) dX9_setError_21 (by decide) ?_
  refine X_lcmp (pc := 22) dX9_setError_22 ?_
  by_cases c4 : q2 ≤ (0 : Int64)
  · replace hf := (if_pos c4).symm.trans hf
    refine X_if_le_t (pc := 23) 35 dX9_setError_23 (by decide) ((lg_cmp_le _ _).mpr c4) ?_
    refine X_lconst (pc := 35) (0 : Int64) dX9_setError_35 (by decide) ?_
    exact X_lvs [2, 1, 0] rfl (x_Tr_setError_L36 hT hf)
  · replace hf := (if_neg c4).symm.trans hf
    refine X_if_le_f (pc := 23) 35 dX9_setError_23 (by decide) (fun h => c4 ((lg_cmp_le _ _).mp h)) ?_
    refine X_aload_n (pc := 26) (i := 0) 2 dX9_setError_26 rfl rfl ?_
    refine X_get (pc := 27) (a := 17) (ci := 9) (j := 11) (.long (L 17 11)) (sh_17 hT) (by decide) k_260 rfl dX9_setError_27 ?_
    refine X_lload_n (pc := 30) (i := 3) 0 dX9_setError_30 rfl rfl ?_
    obtain ⟨c8, hf⟩ := gd_some hf
    refine X_ldiv (pc := 31) dX9_setError_31 c8 ?_
    refine X_goto (pc := 32) 36 dX9_setError_32 (by decide) ?_
    exact X_lvs [2, 1, 0] rfl (x_Tr_setError_L36 hT hf)
theorem u_Tr_setError {S : List xSh} {I : Nat → Nat → Int32} {L : Nat → Nat → Int64} {q : ((Nat → Nat → Int32) × (Nat → Nat → Int64))} (hf : f_Tr_setError I L = some q) : FR S [] [2707, 2708] I q.1 L q.2 := by
  replace hf := (f_Tr_setError.eq_1 _ _).symm.trans hf
  obtain ⟨x1, ex1, hf⟩ := bnd_e hf
  obtain ⟨q2, c3, hf⟩ := bd_some hf
  by_cases c4 : q2 ≤ (0 : Int64)
  · replace hf := (if_pos c4).symm.trans hf
    exact FR.tr FR.rf (u_Tr_setError_L36 hf) (by decide) (by decide)
  · replace hf := (if_neg c4).symm.trans hf
    obtain ⟨c8, hf⟩ := gd_some hf
    exact FR.tr FR.rf (u_Tr_setError_L36 hf) (by decide) (by decide)
theorem dX9_isPerfect_0 : decode cX9_isPerfect 0 = .ok (.aload_n 0, 1) := by decide +kernel
theorem dX9_isPerfect_1 : decode cX9_isPerfect 1 = .ok (.getfield 50, 3) := by decide +kernel
theorem dX9_isPerfect_4 : decode cX9_isPerfect 4 = .ok (.lconst 0, 1) := by decide +kernel
theorem dX9_isPerfect_5 : decode cX9_isPerfect 5 = .ok (.lcmp, 1) := by decide +kernel
theorem dX9_isPerfect_6 : decode cX9_isPerfect 6 = .ok (.ifCond .le 16, 3) := by decide +kernel
theorem dX9_isPerfect_9 : decode cX9_isPerfect 9 = .ok (.aload_n 0, 1) := by decide +kernel
theorem dX9_isPerfect_10 : decode cX9_isPerfect 10 = .ok (.getfield 67, 3) := by decide +kernel
theorem dX9_isPerfect_13 : decode cX9_isPerfect 13 = .ok (.lconst 0, 1) := by decide +kernel
theorem dX9_isPerfect_14 : decode cX9_isPerfect 14 = .ok (.lcmp, 1) := by decide +kernel
theorem dX9_isPerfect_15 : decode cX9_isPerfect 15 = .ok (.ifCond .ne 7, 3) := by decide +kernel
theorem dX9_isPerfect_18 : decode cX9_isPerfect 18 = .ok (.iconst 1, 1) := by decide +kernel
theorem dX9_isPerfect_19 : decode cX9_isPerfect 19 = .ok (.goto 4, 3) := by decide +kernel
theorem dX9_isPerfect_22 : decode cX9_isPerfect 22 = .ok (.iconst 0, 1) := by decide +kernel
theorem dX9_isPerfect_23 : decode cX9_isPerfect 23 = .ok (.ireturn, 1) := by decide +kernel
def f_Tr_isPerfect (I : Nat → Nat → Int32) (L : Nat → Nat → Int64) : Int32 := (if (L 17 12) ≤ (0 : Int64) then (0 : Int32) else (if (L 17 11) = (0 : Int64) then (1 : Int32) else (0 : Int32)))
set_option maxRecDepth 100000 in
set_option maxHeartbeats 4000000 in
theorem c_Tr_isPerfect {G : xG} {S : List xSh} {Rf : Nat → Nat → Option Nat} (hT : xTH S Rf) {I : Nat → Nat → Int32} {L : Nat → Nat → Int64} {q : Int32} (hf : f_Tr_isPerfect I L = q) : CT G 1 m_Tr_isPerfect [.ref (xB G + 17)] (S, I, L, Rf) (some (.int q), (S, I, L, Rf)) := by
  refine CT.of (by decide +kernel) (Nat.le_of_ble_eq_true rfl) ?_
  show X G 1 m_Tr_isPerfect 0 [(0, .ref (xB G + 17))] [] (S, I, L, Rf) (some (.int q), (S, I, L, Rf))
  replace hf := (f_Tr_isPerfect.eq_1 _ _).symm.trans hf
  refine X_aload_n (pc := 0) (i := 0) 0 dX9_isPerfect_0 rfl rfl ?_
  refine X_get (pc := 1) (a := 17) (ci := 9) (j := 12) (.long (L 17 12)) (sh_17 hT) (by decide) k_261 rfl dX9_isPerfect_1 ?_
  refine X_lconst (pc := 4) (0 : Int64) dX9_isPerfect_4 (by decide) ?_
  refine X_lcmp (pc := 5) dX9_isPerfect_5 ?_
  by_cases c1 : (L 17 12) ≤ (0 : Int64)
  · replace hf := (if_pos c1).symm.trans hf
    refine X_if_le_t (pc := 6) 22 dX9_isPerfect_6 (by decide) ((lg_cmp_le _ _).mpr c1) ?_
    refine X_iconst (pc := 22) (0 : Int32) dX9_isPerfect_22 (by decide) ?_
    subst hf
    exact X_zreturn (pc := 23) rfl (nar_b (by decide)) dX9_isPerfect_23
  · replace hf := (if_neg c1).symm.trans hf
    refine X_if_le_f (pc := 6) 22 dX9_isPerfect_6 (by decide) (fun h => c1 ((lg_cmp_le _ _).mp h)) ?_
    refine X_aload_n (pc := 9) (i := 0) 0 dX9_isPerfect_9 rfl rfl ?_
    refine X_get (pc := 10) (a := 17) (ci := 9) (j := 11) (.long (L 17 11)) (sh_17 hT) (by decide) k_260 rfl dX9_isPerfect_10 ?_
    refine X_lconst (pc := 13) (0 : Int64) dX9_isPerfect_13 (by decide) ?_
    refine X_lcmp (pc := 14) dX9_isPerfect_14 ?_
    by_cases c2 : (L 17 11) = (0 : Int64)
    · replace hf := (if_pos c2).symm.trans hf
      refine X_if_ne_f (pc := 15) 22 dX9_isPerfect_15 (by decide) ((lg_cmp_eq _ _).mpr c2) ?_
      refine X_iconst (pc := 18) (1 : Int32) dX9_isPerfect_18 (by decide) ?_
      refine X_goto (pc := 19) 23 dX9_isPerfect_19 (by decide) ?_
      subst hf
      exact X_zreturn (pc := 23) rfl (nar_b (by decide)) dX9_isPerfect_23
    · replace hf := (if_neg c2).symm.trans hf
      refine X_if_ne_t (pc := 15) 22 dX9_isPerfect_15 (by decide) (fun h => c2 ((lg_cmp_eq _ _).mp h)) ?_
      refine X_iconst (pc := 22) (0 : Int32) dX9_isPerfect_22 (by decide) ?_
      subst hf
      exact X_zreturn (pc := 23) rfl (nar_b (by decide)) dX9_isPerfect_23
def f_Ar_fill_i_20_L5 : Nat → Int32 → Int32 → Int32 → (Nat → Nat → Int32) → (Nat → Nat → Int64) → Option ((Nat → Nat → Int32) × (Nat → Nat → Int64))
  | 0, _, _, _, _, _ => none
  | n + 1, l1, l2, l3, I, L => (if l3 ≤ l2 then (some (I, L)) else (if (0 ≤ l2 ∧ l2 < (3 : Int32)) then (f_Ar_fill_i_20_L5 n l1 (l2 + (1 : Int32)) l3 (uI I 20 (l2.toNatClampNeg) l1) L) else none))
set_option maxRecDepth 100000 in
set_option maxHeartbeats 4000000 in
theorem x_Ar_fill_i_20_L5 {G : xG} {S : List xSh} {Rf : Nat → Nat → Option Nat} (hT : xTH S Rf) : ∀ (n : Nat) {l1 : Int32} {l2 : Int32} {l3 : Int32} {I : Nat → Nat → Int32} {L : Nat → Nat → Int64} {q : ((Nat → Nat → Int32) × (Nat → Nat → Int64))}, f_Ar_fill_i_20_L5 n l1 l2 l3 I L = some q → X G 1 m_Ar_fill_i 5 [(0, .ref (xB G + 20)), (1, .int l1), (2, .int l2), (3, .int l3)] [] (S, I, L, Rf) (none, (S, q.1, q.2, Rf)) := by
  intro n
  induction n with
  | zero =>
    intro l1 l2 l3 I L q hf
    exact absurd (show none = some q from hf) (by simp)
  | succ n ih =>
    intro l1 l2 l3 I L q hf
    replace hf := (f_Ar_fill_i_20_L5.eq_2 _ _ _ _ _ _).symm.trans hf
    refine X_iload_n (pc := 5) (i := 2) 2 dJ7_fill_53178_5 rfl rfl ?_
    refine X_iload_n (pc := 6) (i := 3) 3 dJ7_fill_53178_6 rfl rfl ?_
    by_cases c1 : l3 ≤ l2
    · replace hf := (if_pos c1).symm.trans hf
      refine X_icmp_ge_t (pc := 7) 20 dJ7_fill_53178_7 (by decide) c1 ?_
      cases hf
      exact X_return (pc := 20) rfl dJ7_fill_53178_20
    · replace hf := (if_neg c1).symm.trans hf
      refine X_icmp_ge_f (pc := 7) 20 dJ7_fill_53178_7 (by decide) c1 ?_
      refine X_aload_n (pc := 10) (i := 0) 0 dJ7_fill_53178_10 rfl rfl ?_
      refine X_iload_n (pc := 11) (i := 2) 2 dJ7_fill_53178_11 rfl rfl ?_
      refine X_iload_n (pc := 12) (i := 1) 1 dJ7_fill_53178_12 rfl rfl ?_
      obtain ⟨c2, hf⟩ := gd_some hf
      refine X_iastj (pc := 13) (j := (l2.toNatClampNeg)) (sh_20 hT) (vp_in_lit (N := 3) c2 (by decide)) rfl dJ7_fill_53178_13 ?_
      refine X_iinc (pc := 14) (i := 2) (q := 2) (v := (l2 + (1 : Int32))) [(2, .int (l2 + (1 : Int32))), (0, .ref (xB G + 20)), (1, .int l1), (3, .int l3)] dJ7_fill_53178_14 rfl rfl (by decide) rfl ?_
      refine X_goto (pc := 17) 5 dJ7_fill_53178_17 (by decide) ?_
      exact X_lvs [1, 2, 0, 3] rfl (ih hf)
theorem u_Ar_fill_i_20_L5 {S : List xSh} : ∀ (n : Nat) {l1 : Int32} {l2 : Int32} {l3 : Int32} {I : Nat → Nat → Int32} {L : Nat → Nat → Int64} {q : ((Nat → Nat → Int32) × (Nat → Nat → Int64))}, f_Ar_fill_i_20_L5 n l1 l2 l3 I L = some q → FR S [20] [] I q.1 L q.2 := by
  intro n
  induction n with
  | zero =>
    intro l1 l2 l3 I L q hf
    exact absurd (show none = some q from hf) (by simp)
  | succ n ih =>
    intro l1 l2 l3 I L q hf
    replace hf := (f_Ar_fill_i_20_L5.eq_2 _ _ _ _ _ _).symm.trans hf
    by_cases c1 : l3 ≤ l2
    · replace hf := (if_pos c1).symm.trans hf
      cases hf
      exact FR.rf
    · replace hf := (if_neg c1).symm.trans hf
      obtain ⟨c2, hf⟩ := gd_some hf
      exact FR.tr (FR.ai FR.rf (by decide)) (ih hf) (by decide) (by decide)
def f_Ar_fill_i_20 (a1 : Int32) (I : Nat → Nat → Int32) (L : Nat → Nat → Int64) : Option ((Nat → Nat → Int32) × (Nat → Nat → Int64)) := (f_Ar_fill_i_20_L5 xF a1 (0 : Int32) (3 : Int32) I L)
set_option maxRecDepth 100000 in
set_option maxHeartbeats 4000000 in
theorem c_Ar_fill_i_20 {G : xG} {S : List xSh} {Rf : Nat → Nat → Option Nat} (hT : xTH S Rf) {a1 : Int32} {I : Nat → Nat → Int32} {L : Nat → Nat → Int64} {q : ((Nat → Nat → Int32) × (Nat → Nat → Int64))} (hf : f_Ar_fill_i_20 a1 I L = some q) : CT G 1 m_Ar_fill_i [.ref (xB G + 20), .int a1] (S, I, L, Rf) (none, (S, q.1, q.2, Rf)) := by
  refine CT.of (by decide +kernel) (Nat.le_of_ble_eq_true rfl) ?_
  show X G 1 m_Ar_fill_i 0 [(0, .ref (xB G + 20)), (1, .int a1)] [] (S, I, L, Rf) (none, (S, q.1, q.2, Rf))
  replace hf := (f_Ar_fill_i_20.eq_1 _ _ _).symm.trans hf
  refine X_iconst (pc := 0) (0 : Int32) dJ7_fill_53178_0 (by decide) ?_
  refine X_istore_n (pc := 1) (i := 2) [(2, .int (0 : Int32)), (0, .ref (xB G + 20)), (1, .int a1)] dJ7_fill_53178_1 rfl (by decide) rfl ?_
  refine X_aload_n (pc := 2) (i := 0) 1 dJ7_fill_53178_2 rfl rfl ?_
  refine X_alen (pc := 3) (3 : Int32) (by decide) (sh_20 hT) (by decide) dJ7_fill_53178_3 ?_
  refine X_istore_n (pc := 4) (i := 3) [(3, .int (3 : Int32)), (2, .int (0 : Int32)), (0, .ref (xB G + 20)), (1, .int a1)] dJ7_fill_53178_4 rfl (by decide) rfl ?_
  exact X_lvs [2, 3, 1, 0] rfl (x_Ar_fill_i_20_L5 hT xF hf)
theorem u_Ar_fill_i_20 {S : List xSh} {a1 : Int32} {I : Nat → Nat → Int32} {L : Nat → Nat → Int64} {q : ((Nat → Nat → Int32) × (Nat → Nat → Int64))} (hf : f_Ar_fill_i_20 a1 I L = some q) : FR S [20] [] I q.1 L q.2 := by
  replace hf := (f_Ar_fill_i_20.eq_1 _ _ _).symm.trans hf
  exact FR.tr FR.rf (u_Ar_fill_i_20_L5 xF hf) (by decide) (by decide)
theorem dX9_productOf_0 : decode cX9_productOf 0 = .ok (.lconst 1, 1) := by decide +kernel
theorem dX9_productOf_1 : decode cX9_productOf 1 = .ok (.lstore_n 2, 1) := by decide +kernel
theorem dX9_productOf_2 : decode cX9_productOf 2 = .ok (.iconst 0, 1) := by decide +kernel
theorem dX9_productOf_3 : decode cX9_productOf 3 = .ok (.istore 4, 2) := by decide +kernel
theorem dX9_productOf_5 : decode cX9_productOf 5 = .ok (.iload 4, 2) := by decide +kernel
theorem dX9_productOf_7 : decode cX9_productOf 7 = .ok (.iload_n 1, 1) := by decide +kernel
theorem dX9_productOf_8 : decode cX9_productOf 8 = .ok (.if_icmp .ge 24, 3) := by decide +kernel
theorem dX9_productOf_11 : decode cX9_productOf 11 = .ok (.iload 4, 2) := by decide +kernel
theorem dX9_productOf_13 : decode cX9_productOf 13 = .ok (.aload_n 0, 1) := by decide +kernel
theorem dX9_productOf_14 : decode cX9_productOf 14 = .ok (.arraylength, 1) := by decide +kernel
theorem dX9_productOf_15 : decode cX9_productOf 15 = .ok (.if_icmp .ge 17, 3) := by decide +kernel
theorem dX9_productOf_18 : decode cX9_productOf 18 = .ok (.lload_n 2, 1) := by decide +kernel
theorem dX9_productOf_19 : decode cX9_productOf 19 = .ok (.aload_n 0, 1) := by decide +kernel
theorem dX9_productOf_20 : decode cX9_productOf 20 = .ok (.iload 4, 2) := by decide +kernel
theorem dX9_productOf_22 : decode cX9_productOf 22 = .ok (.iaload, 1) := by decide +kernel
theorem dX9_productOf_23 : decode cX9_productOf 23 = .ok (.i2l, 1) := by decide +kernel
theorem dX9_productOf_24 : decode cX9_productOf 24 = .ok (.lmul, 1) := by decide +kernel
theorem dX9_productOf_25 : decode cX9_productOf 25 = .ok (.lstore_n 2, 1) := by decide +kernel
theorem dX9_productOf_26 : decode cX9_productOf 26 = .ok (.iinc 4 1, 3) := by decide +kernel
theorem dX9_productOf_29 : decode cX9_productOf 29 = .ok (.goto (-24), 3) := by decide +kernel
theorem dX9_productOf_32 : decode cX9_productOf 32 = .ok (.lload_n 2, 1) := by decide +kernel
theorem dX9_productOf_33 : decode cX9_productOf 33 = .ok (.lreturn, 1) := by decide +kernel
def f_Tr_productOf_20_L5 : Nat → Int32 → Int64 → Int32 → (Nat → Nat → Int32) → (Nat → Nat → Int64) → Option Int64
  | 0, _, _, _, _, _ => none
  | n + 1, l1, l2, l4, I, L => (if l1 ≤ l4 then (some l2) else (if (3 : Int32) ≤ l4 then (some l2) else (if (0 ≤ l4 ∧ l4 < (3 : Int32)) then (bnd (l2 * (Int32.toInt64 (I 20 (l4.toNatClampNeg)))) fun x4 => (f_Tr_productOf_20_L5 n l1 x4 (l4 + (1 : Int32)) I L)) else none)))
set_option maxRecDepth 100000 in
set_option maxHeartbeats 4000000 in
theorem x_Tr_productOf_20_L5 {G : xG} {S : List xSh} {Rf : Nat → Nat → Option Nat} (hT : xTH S Rf) : ∀ (n : Nat) {l1 : Int32} {l2 : Int64} {l4 : Int32} {I : Nat → Nat → Int32} {L : Nat → Nat → Int64} {q : Int64}, f_Tr_productOf_20_L5 n l1 l2 l4 I L = some q → X G 1 m_Tr_productOf 5 [(0, .ref (xB G + 20)), (1, .int l1), (2, .long l2), (4, .int l4)] [] (S, I, L, Rf) (some (.long q), (S, I, L, Rf)) := by
  intro n
  induction n with
  | zero =>
    intro l1 l2 l4 I L q hf
    exact absurd (show none = some q from hf) (by simp)
  | succ n ih =>
    intro l1 l2 l4 I L q hf
    replace hf := (f_Tr_productOf_20_L5.eq_2 _ _ _ _ _ _).symm.trans hf
    refine X_iload (pc := 5) 3 dX9_productOf_5 rfl ?_
    refine X_iload_n (pc := 7) (i := 1) 1 dX9_productOf_7 rfl rfl ?_
    by_cases c1 : l1 ≤ l4
    · replace hf := (if_pos c1).symm.trans hf
      refine X_icmp_ge_t (pc := 8) 32 dX9_productOf_8 (by decide) c1 ?_
      refine X_lload_n (pc := 32) (i := 2) 2 dX9_productOf_32 rfl rfl ?_
      cases hf
      exact X_lreturn (pc := 33) rfl dX9_productOf_33
    · replace hf := (if_neg c1).symm.trans hf
      refine X_icmp_ge_f (pc := 8) 32 dX9_productOf_8 (by decide) c1 ?_
      refine X_iload (pc := 11) 3 dX9_productOf_11 rfl ?_
      refine X_aload_n (pc := 13) (i := 0) 0 dX9_productOf_13 rfl rfl ?_
      refine X_alen (pc := 14) (3 : Int32) (by decide) (sh_20 hT) (by decide) dX9_productOf_14 ?_
      by_cases c2 : (3 : Int32) ≤ l4
      · replace hf := (if_pos c2).symm.trans hf
        refine X_icmp_ge_t (pc := 15) 32 dX9_productOf_15 (by decide) c2 ?_
        refine X_lload_n (pc := 32) (i := 2) 2 dX9_productOf_32 rfl rfl ?_
        cases hf
        exact X_lreturn (pc := 33) rfl dX9_productOf_33
      · replace hf := (if_neg c2).symm.trans hf
        refine X_icmp_ge_f (pc := 15) 32 dX9_productOf_15 (by decide) c2 ?_
        refine X_lload_n (pc := 18) (i := 2) 2 dX9_productOf_18 rfl rfl ?_
        refine X_aload_n (pc := 19) (i := 0) 0 dX9_productOf_19 rfl rfl ?_
        refine X_iload (pc := 20) 3 dX9_productOf_20 rfl ?_
        obtain ⟨c3, hf⟩ := gd_some hf
        refine X_ialdj (pc := 22) (j := l4.toNatClampNeg) (I 20 (l4.toNatClampNeg)) (sh_20 hT) (vp_in_lit (N := 3) c3 (by decide)) rfl rfl dX9_productOf_22 ?_
        refine X_i2l (pc := 23) dX9_productOf_23 ?_
        refine X_lmul (pc := 24) dX9_productOf_24 ?_
        obtain ⟨x4, ex4, hf⟩ := bnd_e hf
        refine X_tople ex4 ?_
        refine X_lstore_n (pc := 25) (i := 2) [(2, .long x4), (0, .ref (xB G + 20)), (1, .int l1), (4, .int l4)] dX9_productOf_25 rfl (by decide) rfl ?_
        refine X_iinc (pc := 26) (i := 4) (q := 3) (v := (l4 + (1 : Int32))) [(4, .int (l4 + (1 : Int32))), (2, .long x4), (0, .ref (xB G + 20)), (1, .int l1)] dX9_productOf_26 rfl rfl (by decide) rfl ?_
        refine X_goto (pc := 29) 5 dX9_productOf_29 (by decide) ?_
        exact X_lvs [2, 3, 1, 0] rfl (ih hf)
def f_Tr_productOf_20 (a1 : Int32) (I : Nat → Nat → Int32) (L : Nat → Nat → Int64) : Option Int64 := (f_Tr_productOf_20_L5 xF a1 (1 : Int64) (0 : Int32) I L)
set_option maxRecDepth 100000 in
set_option maxHeartbeats 4000000 in
theorem c_Tr_productOf_20 {G : xG} {S : List xSh} {Rf : Nat → Nat → Option Nat} (hT : xTH S Rf) {a1 : Int32} {I : Nat → Nat → Int32} {L : Nat → Nat → Int64} {q : Int64} (hf : f_Tr_productOf_20 a1 I L = some q) : CT G 1 m_Tr_productOf [.ref (xB G + 20), .int a1] (S, I, L, Rf) (some (.long q), (S, I, L, Rf)) := by
  refine CT.of (by decide +kernel) (Nat.le_of_ble_eq_true rfl) ?_
  show X G 1 m_Tr_productOf 0 [(0, .ref (xB G + 20)), (1, .int a1)] [] (S, I, L, Rf) (some (.long q), (S, I, L, Rf))
  replace hf := (f_Tr_productOf_20.eq_1 _ _ _).symm.trans hf
  refine X_lconst (pc := 0) (1 : Int64) dX9_productOf_0 (by decide) ?_
  refine X_lstore_n (pc := 1) (i := 2) [(2, .long (1 : Int64)), (0, .ref (xB G + 20)), (1, .int a1)] dX9_productOf_1 rfl (by decide) rfl ?_
  refine X_iconst (pc := 2) (0 : Int32) dX9_productOf_2 (by decide) ?_
  refine X_istore (pc := 3) [(4, .int (0 : Int32)), (2, .long (1 : Int64)), (0, .ref (xB G + 20)), (1, .int a1)] dX9_productOf_3 (by decide) rfl ?_
  exact X_lvs [2, 3, 1, 0] rfl (x_Tr_productOf_20_L5 hT xF hf)
def f_Ar_fill_i_21_L5 : Nat → Int32 → Int32 → Int32 → (Nat → Nat → Int32) → (Nat → Nat → Int64) → Option ((Nat → Nat → Int32) × (Nat → Nat → Int64))
  | 0, _, _, _, _, _ => none
  | n + 1, l1, l2, l3, I, L => (if l3 ≤ l2 then (some (I, L)) else (if (0 ≤ l2 ∧ l2 < (3 : Int32)) then (f_Ar_fill_i_21_L5 n l1 (l2 + (1 : Int32)) l3 (uI I 21 (l2.toNatClampNeg) l1) L) else none))
set_option maxRecDepth 100000 in
set_option maxHeartbeats 4000000 in
theorem x_Ar_fill_i_21_L5 {G : xG} {S : List xSh} {Rf : Nat → Nat → Option Nat} (hT : xTH S Rf) : ∀ (n : Nat) {l1 : Int32} {l2 : Int32} {l3 : Int32} {I : Nat → Nat → Int32} {L : Nat → Nat → Int64} {q : ((Nat → Nat → Int32) × (Nat → Nat → Int64))}, f_Ar_fill_i_21_L5 n l1 l2 l3 I L = some q → X G 1 m_Ar_fill_i 5 [(0, .ref (xB G + 21)), (1, .int l1), (2, .int l2), (3, .int l3)] [] (S, I, L, Rf) (none, (S, q.1, q.2, Rf)) := by
  intro n
  induction n with
  | zero =>
    intro l1 l2 l3 I L q hf
    exact absurd (show none = some q from hf) (by simp)
  | succ n ih =>
    intro l1 l2 l3 I L q hf
    replace hf := (f_Ar_fill_i_21_L5.eq_2 _ _ _ _ _ _).symm.trans hf
    refine X_iload_n (pc := 5) (i := 2) 2 dJ7_fill_53178_5 rfl rfl ?_
    refine X_iload_n (pc := 6) (i := 3) 3 dJ7_fill_53178_6 rfl rfl ?_
    by_cases c1 : l3 ≤ l2
    · replace hf := (if_pos c1).symm.trans hf
      refine X_icmp_ge_t (pc := 7) 20 dJ7_fill_53178_7 (by decide) c1 ?_
      cases hf
      exact X_return (pc := 20) rfl dJ7_fill_53178_20
    · replace hf := (if_neg c1).symm.trans hf
      refine X_icmp_ge_f (pc := 7) 20 dJ7_fill_53178_7 (by decide) c1 ?_
      refine X_aload_n (pc := 10) (i := 0) 0 dJ7_fill_53178_10 rfl rfl ?_
      refine X_iload_n (pc := 11) (i := 2) 2 dJ7_fill_53178_11 rfl rfl ?_
      refine X_iload_n (pc := 12) (i := 1) 1 dJ7_fill_53178_12 rfl rfl ?_
      obtain ⟨c2, hf⟩ := gd_some hf
      refine X_iastj (pc := 13) (j := (l2.toNatClampNeg)) (sh_21 hT) (vp_in_lit (N := 3) c2 (by decide)) rfl dJ7_fill_53178_13 ?_
      refine X_iinc (pc := 14) (i := 2) (q := 2) (v := (l2 + (1 : Int32))) [(2, .int (l2 + (1 : Int32))), (0, .ref (xB G + 21)), (1, .int l1), (3, .int l3)] dJ7_fill_53178_14 rfl rfl (by decide) rfl ?_
      refine X_goto (pc := 17) 5 dJ7_fill_53178_17 (by decide) ?_
      exact X_lvs [1, 2, 0, 3] rfl (ih hf)
theorem u_Ar_fill_i_21_L5 {S : List xSh} : ∀ (n : Nat) {l1 : Int32} {l2 : Int32} {l3 : Int32} {I : Nat → Nat → Int32} {L : Nat → Nat → Int64} {q : ((Nat → Nat → Int32) × (Nat → Nat → Int64))}, f_Ar_fill_i_21_L5 n l1 l2 l3 I L = some q → FR S [21] [] I q.1 L q.2 := by
  intro n
  induction n with
  | zero =>
    intro l1 l2 l3 I L q hf
    exact absurd (show none = some q from hf) (by simp)
  | succ n ih =>
    intro l1 l2 l3 I L q hf
    replace hf := (f_Ar_fill_i_21_L5.eq_2 _ _ _ _ _ _).symm.trans hf
    by_cases c1 : l3 ≤ l2
    · replace hf := (if_pos c1).symm.trans hf
      cases hf
      exact FR.rf
    · replace hf := (if_neg c1).symm.trans hf
      obtain ⟨c2, hf⟩ := gd_some hf
      exact FR.tr (FR.ai FR.rf (by decide)) (ih hf) (by decide) (by decide)
def f_Ar_fill_i_21 (a1 : Int32) (I : Nat → Nat → Int32) (L : Nat → Nat → Int64) : Option ((Nat → Nat → Int32) × (Nat → Nat → Int64)) := (f_Ar_fill_i_21_L5 xF a1 (0 : Int32) (3 : Int32) I L)
set_option maxRecDepth 100000 in
set_option maxHeartbeats 4000000 in
theorem c_Ar_fill_i_21 {G : xG} {S : List xSh} {Rf : Nat → Nat → Option Nat} (hT : xTH S Rf) {a1 : Int32} {I : Nat → Nat → Int32} {L : Nat → Nat → Int64} {q : ((Nat → Nat → Int32) × (Nat → Nat → Int64))} (hf : f_Ar_fill_i_21 a1 I L = some q) : CT G 1 m_Ar_fill_i [.ref (xB G + 21), .int a1] (S, I, L, Rf) (none, (S, q.1, q.2, Rf)) := by
  refine CT.of (by decide +kernel) (Nat.le_of_ble_eq_true rfl) ?_
  show X G 1 m_Ar_fill_i 0 [(0, .ref (xB G + 21)), (1, .int a1)] [] (S, I, L, Rf) (none, (S, q.1, q.2, Rf))
  replace hf := (f_Ar_fill_i_21.eq_1 _ _ _).symm.trans hf
  refine X_iconst (pc := 0) (0 : Int32) dJ7_fill_53178_0 (by decide) ?_
  refine X_istore_n (pc := 1) (i := 2) [(2, .int (0 : Int32)), (0, .ref (xB G + 21)), (1, .int a1)] dJ7_fill_53178_1 rfl (by decide) rfl ?_
  refine X_aload_n (pc := 2) (i := 0) 1 dJ7_fill_53178_2 rfl rfl ?_
  refine X_alen (pc := 3) (3 : Int32) (by decide) (sh_21 hT) (by decide) dJ7_fill_53178_3 ?_
  refine X_istore_n (pc := 4) (i := 3) [(3, .int (3 : Int32)), (2, .int (0 : Int32)), (0, .ref (xB G + 21)), (1, .int a1)] dJ7_fill_53178_4 rfl (by decide) rfl ?_
  exact X_lvs [2, 3, 1, 0] rfl (x_Ar_fill_i_21_L5 hT xF hf)
theorem u_Ar_fill_i_21 {S : List xSh} {a1 : Int32} {I : Nat → Nat → Int32} {L : Nat → Nat → Int64} {q : ((Nat → Nat → Int32) × (Nat → Nat → Int64))} (hf : f_Ar_fill_i_21 a1 I L = some q) : FR S [21] [] I q.1 L q.2 := by
  replace hf := (f_Ar_fill_i_21.eq_1 _ _ _).symm.trans hf
  exact FR.tr FR.rf (u_Ar_fill_i_21_L5 xF hf) (by decide) (by decide)
def f_Tr_productOf_21_L5 : Nat → Int32 → Int64 → Int32 → (Nat → Nat → Int32) → (Nat → Nat → Int64) → Option Int64
  | 0, _, _, _, _, _ => none
  | n + 1, l1, l2, l4, I, L => (if l1 ≤ l4 then (some l2) else (if (3 : Int32) ≤ l4 then (some l2) else (if (0 ≤ l4 ∧ l4 < (3 : Int32)) then (bnd (l2 * (Int32.toInt64 (I 21 (l4.toNatClampNeg)))) fun x4 => (f_Tr_productOf_21_L5 n l1 x4 (l4 + (1 : Int32)) I L)) else none)))
set_option maxRecDepth 100000 in
set_option maxHeartbeats 4000000 in
theorem x_Tr_productOf_21_L5 {G : xG} {S : List xSh} {Rf : Nat → Nat → Option Nat} (hT : xTH S Rf) : ∀ (n : Nat) {l1 : Int32} {l2 : Int64} {l4 : Int32} {I : Nat → Nat → Int32} {L : Nat → Nat → Int64} {q : Int64}, f_Tr_productOf_21_L5 n l1 l2 l4 I L = some q → X G 1 m_Tr_productOf 5 [(0, .ref (xB G + 21)), (1, .int l1), (2, .long l2), (4, .int l4)] [] (S, I, L, Rf) (some (.long q), (S, I, L, Rf)) := by
  intro n
  induction n with
  | zero =>
    intro l1 l2 l4 I L q hf
    exact absurd (show none = some q from hf) (by simp)
  | succ n ih =>
    intro l1 l2 l4 I L q hf
    replace hf := (f_Tr_productOf_21_L5.eq_2 _ _ _ _ _ _).symm.trans hf
    refine X_iload (pc := 5) 3 dX9_productOf_5 rfl ?_
    refine X_iload_n (pc := 7) (i := 1) 1 dX9_productOf_7 rfl rfl ?_
    by_cases c1 : l1 ≤ l4
    · replace hf := (if_pos c1).symm.trans hf
      refine X_icmp_ge_t (pc := 8) 32 dX9_productOf_8 (by decide) c1 ?_
      refine X_lload_n (pc := 32) (i := 2) 2 dX9_productOf_32 rfl rfl ?_
      cases hf
      exact X_lreturn (pc := 33) rfl dX9_productOf_33
    · replace hf := (if_neg c1).symm.trans hf
      refine X_icmp_ge_f (pc := 8) 32 dX9_productOf_8 (by decide) c1 ?_
      refine X_iload (pc := 11) 3 dX9_productOf_11 rfl ?_
      refine X_aload_n (pc := 13) (i := 0) 0 dX9_productOf_13 rfl rfl ?_
      refine X_alen (pc := 14) (3 : Int32) (by decide) (sh_21 hT) (by decide) dX9_productOf_14 ?_
      by_cases c2 : (3 : Int32) ≤ l4
      · replace hf := (if_pos c2).symm.trans hf
        refine X_icmp_ge_t (pc := 15) 32 dX9_productOf_15 (by decide) c2 ?_
        refine X_lload_n (pc := 32) (i := 2) 2 dX9_productOf_32 rfl rfl ?_
        cases hf
        exact X_lreturn (pc := 33) rfl dX9_productOf_33
      · replace hf := (if_neg c2).symm.trans hf
        refine X_icmp_ge_f (pc := 15) 32 dX9_productOf_15 (by decide) c2 ?_
        refine X_lload_n (pc := 18) (i := 2) 2 dX9_productOf_18 rfl rfl ?_
        refine X_aload_n (pc := 19) (i := 0) 0 dX9_productOf_19 rfl rfl ?_
        refine X_iload (pc := 20) 3 dX9_productOf_20 rfl ?_
        obtain ⟨c3, hf⟩ := gd_some hf
        refine X_ialdj (pc := 22) (j := l4.toNatClampNeg) (I 21 (l4.toNatClampNeg)) (sh_21 hT) (vp_in_lit (N := 3) c3 (by decide)) rfl rfl dX9_productOf_22 ?_
        refine X_i2l (pc := 23) dX9_productOf_23 ?_
        refine X_lmul (pc := 24) dX9_productOf_24 ?_
        obtain ⟨x4, ex4, hf⟩ := bnd_e hf
        refine X_tople ex4 ?_
        refine X_lstore_n (pc := 25) (i := 2) [(2, .long x4), (0, .ref (xB G + 21)), (1, .int l1), (4, .int l4)] dX9_productOf_25 rfl (by decide) rfl ?_
        refine X_iinc (pc := 26) (i := 4) (q := 3) (v := (l4 + (1 : Int32))) [(4, .int (l4 + (1 : Int32))), (2, .long x4), (0, .ref (xB G + 21)), (1, .int l1)] dX9_productOf_26 rfl rfl (by decide) rfl ?_
        refine X_goto (pc := 29) 5 dX9_productOf_29 (by decide) ?_
        exact X_lvs [2, 3, 1, 0] rfl (ih hf)
def f_Tr_productOf_21 (a1 : Int32) (I : Nat → Nat → Int32) (L : Nat → Nat → Int64) : Option Int64 := (f_Tr_productOf_21_L5 xF a1 (1 : Int64) (0 : Int32) I L)
set_option maxRecDepth 100000 in
set_option maxHeartbeats 4000000 in
theorem c_Tr_productOf_21 {G : xG} {S : List xSh} {Rf : Nat → Nat → Option Nat} (hT : xTH S Rf) {a1 : Int32} {I : Nat → Nat → Int32} {L : Nat → Nat → Int64} {q : Int64} (hf : f_Tr_productOf_21 a1 I L = some q) : CT G 1 m_Tr_productOf [.ref (xB G + 21), .int a1] (S, I, L, Rf) (some (.long q), (S, I, L, Rf)) := by
  refine CT.of (by decide +kernel) (Nat.le_of_ble_eq_true rfl) ?_
  show X G 1 m_Tr_productOf 0 [(0, .ref (xB G + 21)), (1, .int a1)] [] (S, I, L, Rf) (some (.long q), (S, I, L, Rf))
  replace hf := (f_Tr_productOf_21.eq_1 _ _ _).symm.trans hf
  refine X_lconst (pc := 0) (1 : Int64) dX9_productOf_0 (by decide) ?_
  refine X_lstore_n (pc := 1) (i := 2) [(2, .long (1 : Int64)), (0, .ref (xB G + 21)), (1, .int a1)] dX9_productOf_1 rfl (by decide) rfl ?_
  refine X_iconst (pc := 2) (0 : Int32) dX9_productOf_2 (by decide) ?_
  refine X_istore (pc := 3) [(4, .int (0 : Int32)), (2, .long (1 : Int64)), (0, .ref (xB G + 21)), (1, .int a1)] dX9_productOf_3 (by decide) rfl ?_
  exact X_lvs [2, 3, 1, 0] rfl (x_Tr_productOf_21_L5 hT xF hf)
theorem dX9_keep_0 : decode cX9_keep 0 = .ok (.aload_n 0, 1) := by decide +kernel
theorem dX9_keep_1 : decode cX9_keep 1 = .ok (.iload_n 1, 1) := by decide +kernel
theorem dX9_keep_2 : decode cX9_keep 2 = .ok (.putfield 64, 3) := by decide +kernel
theorem dX9_keep_5 : decode cX9_keep 5 = .ok (.aload_n 0, 1) := by decide +kernel
theorem dX9_keep_6 : decode cX9_keep 6 = .ok (.lload_n 2, 1) := by decide +kernel
theorem dX9_keep_7 : decode cX9_keep 7 = .ok (.putfield 67, 3) := by decide +kernel
theorem dX9_keep_10 : decode cX9_keep 10 = .ok (.aload_n 0, 1) := by decide +kernel
theorem dX9_keep_11 : decode cX9_keep 11 = .ok (.lload 4, 2) := by decide +kernel
theorem dX9_keep_13 : decode cX9_keep 13 = .ok (.putfield 50, 3) := by decide +kernel
theorem dX9_keep_16 : decode cX9_keep 16 = .ok (.aload_n 0, 1) := by decide +kernel
theorem dX9_keep_17 : decode cX9_keep 17 = .ok (.getfield 31, 3) := by decide +kernel
theorem dX9_keep_20 : decode cX9_keep 20 = .ok (.iconst 0, 1) := by decide +kernel
theorem dX9_keep_21 : decode cX9_keep 21 = .ok (.aload_n 0, 1) := by decide +kernel
theorem dX9_keep_22 : decode cX9_keep 22 = .ok (.getfield 24, 3) := by decide +kernel
theorem dX9_keep_25 : decode cX9_keep 25 = .ok (.iconst 0, 1) := by decide +kernel
theorem dX9_keep_26 : decode cX9_keep 26 = .ok (.iconst 3, 1) := by decide +kernel
theorem dX9_keep_27 : decode cX9_keep 27 = .ok (.invokestatic 102, 3) := by decide +kernel
theorem dX9_keep_30 : decode cX9_keep 30 = .ok (.aload_n 0, 1) := by decide +kernel
theorem dX9_keep_31 : decode cX9_keep 31 = .ok (.getfield 34, 3) := by decide +kernel
theorem dX9_keep_34 : decode cX9_keep 34 = .ok (.iconst 0, 1) := by decide +kernel
theorem dX9_keep_35 : decode cX9_keep 35 = .ok (.aload_n 0, 1) := by decide +kernel
theorem dX9_keep_36 : decode cX9_keep 36 = .ok (.getfield 28, 3) := by decide +kernel
theorem dX9_keep_39 : decode cX9_keep 39 = .ok (.iconst 0, 1) := by decide +kernel
theorem dX9_keep_40 : decode cX9_keep 40 = .ok (.iconst 3, 1) := by decide +kernel
theorem dX9_keep_41 : decode cX9_keep 41 = .ok (.invokestatic 102, 3) := by decide +kernel
theorem dX9_keep_44 : decode cX9_keep 44 = .ok (.return_, 1) := by decide +kernel
def f_Tr_keep (a0 : Int32) (a1 : Int64) (a2 : Int64) (I : Nat → Nat → Int32) (L : Nat → Nat → Int64) : Option ((Nat → Nat → Int32) × (Nat → Nat → Int64)) := (some ((uC (uC (uI I 17 4 a0) 20 (Int32.toNatClampNeg (0 : Int32)) 18 (Int32.toNatClampNeg (0 : Int32)) (Int32.toNatClampNeg (3 : Int32))) 21 (Int32.toNatClampNeg (0 : Int32)) 19 (Int32.toNatClampNeg (0 : Int32)) (Int32.toNatClampNeg (3 : Int32))), (uL (uL L 17 11 a1) 17 12 a2)))
set_option maxRecDepth 100000 in
set_option maxHeartbeats 4000000 in
theorem c_Tr_keep {G : xG} {S : List xSh} {Rf : Nat → Nat → Option Nat} (hT : xTH S Rf) {a0 : Int32} {a1 : Int64} {a2 : Int64} {I : Nat → Nat → Int32} {L : Nat → Nat → Int64} {q : ((Nat → Nat → Int32) × (Nat → Nat → Int64))} (hf : f_Tr_keep a0 a1 a2 I L = some q) : CT G 1 m_Tr_keep [.ref (xB G + 17), .int a0, .long a1, .long a2] (S, I, L, Rf) (none, (S, q.1, q.2, Rf)) := by
  refine CT.of (by decide +kernel) (Nat.le_of_ble_eq_true rfl) ?_
  show X G 1 m_Tr_keep 0 [(0, .ref (xB G + 17)), (1, .int a0), (2, .long a1), (4, .long a2)] [] (S, I, L, Rf) (none, (S, q.1, q.2, Rf))
  replace hf := (f_Tr_keep.eq_1 _ _ _ _ _).symm.trans hf
  refine X_aload_n (pc := 0) (i := 0) 0 dX9_keep_0 rfl rfl ?_
  refine X_iload_n (pc := 1) (i := 1) 1 dX9_keep_1 rfl rfl ?_
  refine X_puti (pc := 2) (a := 17) (ci := 9) (j := 4) false (sh_17 hT) (by decide) k_248 rfl (fun h => by cases h) rfl dX9_keep_2 ?_
  refine X_aload_n (pc := 5) (i := 0) 0 dX9_keep_5 rfl rfl ?_
  refine X_lload_n (pc := 6) (i := 2) 2 dX9_keep_6 rfl rfl ?_
  refine X_putl (pc := 7) (a := 17) (ci := 9) (j := 11) false (sh_17 hT) (by decide) k_260 rfl (fun h => by cases h) rfl dX9_keep_7 ?_
  refine X_aload_n (pc := 10) (i := 0) 0 dX9_keep_10 rfl rfl ?_
  refine X_lload (pc := 11) 3 dX9_keep_11 rfl ?_
  refine X_putl (pc := 13) (a := 17) (ci := 9) (j := 12) false (sh_17 hT) (by decide) k_261 rfl (fun h => by cases h) rfl dX9_keep_13 ?_
  refine X_aload_n (pc := 16) (i := 0) 0 dX9_keep_16 rfl rfl ?_
  refine X_getr (pc := 17) (a := 17) (ci := 9) (j := 13) (c := 20) (sh_17 hT) (by decide) k_262 (rf_17_13 hT) (fun _ h => h) dX9_keep_17 ?_
  refine X_iconst (pc := 20) (0 : Int32) dX9_keep_20 (by decide) ?_
  refine X_aload_n (pc := 21) (i := 0) 0 dX9_keep_21 rfl rfl ?_
  refine X_getr (pc := 22) (a := 17) (ci := 9) (j := 5) (c := 18) (sh_17 hT) (by decide) k_250 (rf_17_5 hT) (fun _ h => h) dX9_keep_22 ?_
  refine X_iconst (pc := 25) (0 : Int32) dX9_keep_25 (by decide) ?_
  refine X_iconst (pc := 26) (3 : Int32) dX9_keep_26 (by decide) ?_
  refine X_copyi (pc := 27) (sh_20 hT) (sh_18 hT) k_1004 k_1006 k_1005 k_85 (by decide) (by decide) (by decide) (by decide) (by decide) (by decide) (Nat.le_of_ble_eq_true rfl) dX9_keep_27 ?_
  refine X_aload_n (pc := 30) (i := 0) 0 dX9_keep_30 rfl rfl ?_
  refine X_getr (pc := 31) (a := 17) (ci := 9) (j := 14) (c := 21) (sh_17 hT) (by decide) k_263 (rf_17_14 hT) (fun _ h => h) dX9_keep_31 ?_
  refine X_iconst (pc := 34) (0 : Int32) dX9_keep_34 (by decide) ?_
  refine X_aload_n (pc := 35) (i := 0) 0 dX9_keep_35 rfl rfl ?_
  refine X_getr (pc := 36) (a := 17) (ci := 9) (j := 6) (c := 19) (sh_17 hT) (by decide) k_252 (rf_17_6 hT) (fun _ h => h) dX9_keep_36 ?_
  refine X_iconst (pc := 39) (0 : Int32) dX9_keep_39 (by decide) ?_
  refine X_iconst (pc := 40) (3 : Int32) dX9_keep_40 (by decide) ?_
  refine X_copyi (pc := 41) (sh_21 hT) (sh_19 hT) k_1004 k_1006 k_1005 k_85 (by decide) (by decide) (by decide) (by decide) (by decide) (by decide) (Nat.le_of_ble_eq_true rfl) dX9_keep_41 ?_
  cases hf
  exact X_return (pc := 44) rfl dX9_keep_44
theorem u_Tr_keep {S : List xSh} {a0 : Int32} {a1 : Int64} {a2 : Int64} {I : Nat → Nat → Int32} {L : Nat → Nat → Int64} {q : ((Nat → Nat → Int32) × (Nat → Nat → Int64))} (hf : f_Tr_keep a0 a1 a2 I L = some q) : FR S [18, 19, 2704] [2711, 2712] I q.1 L q.2 := by
  replace hf := (f_Tr_keep.eq_1 _ _ _ _ _).symm.trans hf
  cases hf
  exact (FR.ci (FR.ci (FR.fl (FR.fl (FR.fi FR.rf (by decide)) (by decide)) (by decide)) (by decide)) (by decide))
theorem dX9_nextRow_0 : decode cX9_nextRow 0 = .ok (.iload_n 1, 1) := by decide +kernel
theorem dX9_nextRow_1 : decode cX9_nextRow 1 = .ok (.aload_n 0, 1) := by decide +kernel
theorem dX9_nextRow_2 : decode cX9_nextRow 2 = .ok (.arraylength, 1) := by decide +kernel
theorem dX9_nextRow_3 : decode cX9_nextRow 3 = .ok (.invokestatic 98, 3) := by decide +kernel
theorem dX9_nextRow_6 : decode cX9_nextRow 6 = .ok (.istore_n 3, 1) := by decide +kernel
theorem dX9_nextRow_7 : decode cX9_nextRow 7 = .ok (.iload_n 3, 1) := by decide +kernel
theorem dX9_nextRow_8 : decode cX9_nextRow 8 = .ok (.iconst 1, 1) := by decide +kernel
theorem dX9_nextRow_9 : decode cX9_nextRow 9 = .ok (.isub, 1) := by decide +kernel
theorem dX9_nextRow_10 : decode cX9_nextRow 10 = .ok (.istore 4, 2) := by decide +kernel
theorem dX9_nextRow_12 : decode cX9_nextRow 12 = .ok (.iload 4, 2) := by decide +kernel
theorem dX9_nextRow_14 : decode cX9_nextRow 14 = .ok (.ifCond .lt 48, 3) := by decide +kernel
theorem dX9_nextRow_17 : decode cX9_nextRow 17 = .ok (.aload_n 0, 1) := by decide +kernel
theorem dX9_nextRow_18 : decode cX9_nextRow 18 = .ok (.iload 4, 2) := by decide +kernel
theorem dX9_nextRow_20 : decode cX9_nextRow 20 = .ok (.iaload, 1) := by decide +kernel
theorem dX9_nextRow_21 : decode cX9_nextRow 21 = .ok (.iload_n 2, 1) := by decide +kernel
theorem dX9_nextRow_22 : decode cX9_nextRow 22 = .ok (.if_icmp .ge 34, 3) := by decide +kernel
theorem dX9_nextRow_25 : decode cX9_nextRow 25 = .ok (.aload_n 0, 1) := by decide +kernel
theorem dX9_nextRow_26 : decode cX9_nextRow 26 = .ok (.iload 4, 2) := by decide +kernel
theorem dX9_nextRow_28 : decode cX9_nextRow 28 = .ok (.iaload, 1) := by decide +kernel
theorem dX9_nextRow_29 : decode cX9_nextRow 29 = .ok (.iconst 1, 1) := by decide +kernel
theorem dX9_nextRow_30 : decode cX9_nextRow 30 = .ok (.iadd, 1) := by decide +kernel
theorem dX9_nextRow_31 : decode cX9_nextRow 31 = .ok (.istore 5, 2) := by decide +kernel
theorem dX9_nextRow_33 : decode cX9_nextRow 33 = .ok (.iload 4, 2) := by decide +kernel
theorem dX9_nextRow_35 : decode cX9_nextRow 35 = .ok (.istore 6, 2) := by decide +kernel
theorem dX9_nextRow_37 : decode cX9_nextRow 37 = .ok (.iload 6, 2) := by decide +kernel
theorem dX9_nextRow_39 : decode cX9_nextRow 39 = .ok (.iload_n 3, 1) := by decide +kernel
theorem dX9_nextRow_40 : decode cX9_nextRow 40 = .ok (.if_icmp .ge 15, 3) := by decide +kernel
theorem dX9_nextRow_43 : decode cX9_nextRow 43 = .ok (.aload_n 0, 1) := by decide +kernel
theorem dX9_nextRow_44 : decode cX9_nextRow 44 = .ok (.iload 6, 2) := by decide +kernel
theorem dX9_nextRow_46 : decode cX9_nextRow 46 = .ok (.iload 5, 2) := by decide +kernel
theorem dX9_nextRow_48 : decode cX9_nextRow 48 = .ok (.iastore, 1) := by decide +kernel
theorem dX9_nextRow_49 : decode cX9_nextRow 49 = .ok (.iinc 6 1, 3) := by decide +kernel
theorem dX9_nextRow_52 : decode cX9_nextRow 52 = .ok (.goto (-15), 3) := by decide +kernel
theorem dX9_nextRow_55 : decode cX9_nextRow 55 = .ok (.return_, 1) := by decide +kernel
theorem dX9_nextRow_56 : decode cX9_nextRow 56 = .ok (.iinc 4 (-1), 3) := by decide +kernel
theorem dX9_nextRow_59 : decode cX9_nextRow 59 = .ok (.goto (-47), 3) := by decide +kernel
theorem dX9_nextRow_62 : decode cX9_nextRow 62 = .ok (.return_, 1) := by decide +kernel
def f_Tr_nextRow_21_L37 : Nat → Int32 → Int32 → Int32 → (Nat → Nat → Int32) → (Nat → Nat → Int64) → Option ((Nat → Nat → Int32) × (Nat → Nat → Int64))
  | 0, _, _, _, _, _ => none
  | n + 1, l3, l5, l6, I, L => (if l3 ≤ l6 then (some (I, L)) else (if (0 ≤ l6 ∧ l6 < (3 : Int32)) then (f_Tr_nextRow_21_L37 n l3 l5 (l6 + (1 : Int32)) (uI I 21 (l6.toNatClampNeg) l5) L) else none))
set_option maxRecDepth 100000 in
set_option maxHeartbeats 4000000 in
theorem x_Tr_nextRow_21_L37 {G : xG} {S : List xSh} {Rf : Nat → Nat → Option Nat} (hT : xTH S Rf) : ∀ (n : Nat) {l3 : Int32} {l5 : Int32} {l6 : Int32} {I : Nat → Nat → Int32} {L : Nat → Nat → Int64} {q : ((Nat → Nat → Int32) × (Nat → Nat → Int64))}, f_Tr_nextRow_21_L37 n l3 l5 l6 I L = some q → X G 1 m_Tr_nextRow 37 [(0, .ref (xB G + 21)), (3, .int l3), (5, .int l5), (6, .int l6)] [] (S, I, L, Rf) (none, (S, q.1, q.2, Rf)) := by
  intro n
  induction n with
  | zero =>
    intro l3 l5 l6 I L q hf
    exact absurd (show none = some q from hf) (by simp)
  | succ n ih =>
    intro l3 l5 l6 I L q hf
    replace hf := (f_Tr_nextRow_21_L37.eq_2 _ _ _ _ _ _).symm.trans hf
    refine X_iload (pc := 37) 3 dX9_nextRow_37 rfl ?_
    refine X_iload_n (pc := 39) (i := 3) 1 dX9_nextRow_39 rfl rfl ?_
    by_cases c8 : l3 ≤ l6
    · replace hf := (if_pos c8).symm.trans hf
      refine X_icmp_ge_t (pc := 40) 55 dX9_nextRow_40 (by decide) c8 ?_
      cases hf
      exact X_return (pc := 55) rfl dX9_nextRow_55
    · replace hf := (if_neg c8).symm.trans hf
      refine X_icmp_ge_f (pc := 40) 55 dX9_nextRow_40 (by decide) c8 ?_
      refine X_aload_n (pc := 43) (i := 0) 0 dX9_nextRow_43 rfl rfl ?_
      refine X_iload (pc := 44) 3 dX9_nextRow_44 rfl ?_
      refine X_iload (pc := 46) 2 dX9_nextRow_46 rfl ?_
      obtain ⟨c9, hf⟩ := gd_some hf
      refine X_iastj (pc := 48) (j := (l6.toNatClampNeg)) (sh_21 hT) (vp_in_lit (N := 3) c9 (by decide)) rfl dX9_nextRow_48 ?_
      refine X_iinc (pc := 49) (i := 6) (q := 3) (v := (l6 + (1 : Int32))) [(6, .int (l6 + (1 : Int32))), (0, .ref (xB G + 21)), (3, .int l3), (5, .int l5)] dX9_nextRow_49 rfl rfl (by decide) rfl ?_
      refine X_goto (pc := 52) 37 dX9_nextRow_52 (by decide) ?_
      exact X_lvs [1, 2, 3, 0] rfl (ih hf)
theorem u_Tr_nextRow_21_L37 {S : List xSh} : ∀ (n : Nat) {l3 : Int32} {l5 : Int32} {l6 : Int32} {I : Nat → Nat → Int32} {L : Nat → Nat → Int64} {q : ((Nat → Nat → Int32) × (Nat → Nat → Int64))}, f_Tr_nextRow_21_L37 n l3 l5 l6 I L = some q → FR S [21] [] I q.1 L q.2 := by
  intro n
  induction n with
  | zero =>
    intro l3 l5 l6 I L q hf
    exact absurd (show none = some q from hf) (by simp)
  | succ n ih =>
    intro l3 l5 l6 I L q hf
    replace hf := (f_Tr_nextRow_21_L37.eq_2 _ _ _ _ _ _).symm.trans hf
    by_cases c8 : l3 ≤ l6
    · replace hf := (if_pos c8).symm.trans hf
      cases hf
      exact FR.rf
    · replace hf := (if_neg c8).symm.trans hf
      obtain ⟨c9, hf⟩ := gd_some hf
      exact FR.tr (FR.ai FR.rf (by decide)) (ih hf) (by decide) (by decide)
def f_Tr_nextRow_21_L12 : Nat → Int32 → Int32 → Int32 → (Nat → Nat → Int32) → (Nat → Nat → Int64) → Option ((Nat → Nat → Int32) × (Nat → Nat → Int64))
  | 0, _, _, _, _, _ => none
  | n + 1, l2, l3, l4, I, L => (if l4 < (0 : Int32) then (some (I, L)) else (if (0 ≤ l4 ∧ l4 < (3 : Int32)) then (if l2 ≤ (I 21 (l4.toNatClampNeg)) then (f_Tr_nextRow_21_L12 n l2 l3 (l4 + (-1 : Int32)) I L) else (if (0 ≤ l4 ∧ l4 < (3 : Int32)) then (bnd ((I 21 (l4.toNatClampNeg)) + (1 : Int32)) fun x7 => (f_Tr_nextRow_21_L37 xF l3 x7 l4 I L)) else none)) else none))
set_option maxRecDepth 100000 in
set_option maxHeartbeats 4000000 in
theorem x_Tr_nextRow_21_L12 {G : xG} {S : List xSh} {Rf : Nat → Nat → Option Nat} (hT : xTH S Rf) : ∀ (n : Nat) {l2 : Int32} {l3 : Int32} {l4 : Int32} {I : Nat → Nat → Int32} {L : Nat → Nat → Int64} {q : ((Nat → Nat → Int32) × (Nat → Nat → Int64))}, f_Tr_nextRow_21_L12 n l2 l3 l4 I L = some q → X G 1 m_Tr_nextRow 12 [(0, .ref (xB G + 21)), (2, .int l2), (3, .int l3), (4, .int l4)] [] (S, I, L, Rf) (none, (S, q.1, q.2, Rf)) := by
  intro n
  induction n with
  | zero =>
    intro l2 l3 l4 I L q hf
    exact absurd (show none = some q from hf) (by simp)
  | succ n ih =>
    intro l2 l3 l4 I L q hf
    replace hf := (f_Tr_nextRow_21_L12.eq_2 _ _ _ _ _ _).symm.trans hf
    refine X_iload (pc := 12) 3 dX9_nextRow_12 rfl ?_
    by_cases c3 : l4 < (0 : Int32)
    · replace hf := (if_pos c3).symm.trans hf
      refine X_if_lt_t (pc := 14) 62 dX9_nextRow_14 (by decide) c3 ?_
      cases hf
      exact X_return (pc := 62) rfl dX9_nextRow_62
    · replace hf := (if_neg c3).symm.trans hf
      refine X_if_lt_f (pc := 14) 62 dX9_nextRow_14 (by decide) c3 ?_
      refine X_aload_n (pc := 17) (i := 0) 0 dX9_nextRow_17 rfl rfl ?_
      refine X_iload (pc := 18) 3 dX9_nextRow_18 rfl ?_
      obtain ⟨c4, hf⟩ := gd_some hf
      refine X_ialdj (pc := 20) (j := l4.toNatClampNeg) (I 21 (l4.toNatClampNeg)) (sh_21 hT) (vp_in_lit (N := 3) c4 (by decide)) rfl rfl dX9_nextRow_20 ?_
      refine X_iload_n (pc := 21) (i := 2) 1 dX9_nextRow_21 rfl rfl ?_
      by_cases c5 : l2 ≤ (I 21 (l4.toNatClampNeg))
      · replace hf := (if_pos c5).symm.trans hf
        refine X_icmp_ge_t (pc := 22) 56 dX9_nextRow_22 (by decide) c5 ?_
        refine X_iinc (pc := 56) (i := 4) (q := 3) (v := (l4 + (-1 : Int32))) [(4, .int (l4 + (-1 : Int32))), (0, .ref (xB G + 21)), (2, .int l2), (3, .int l3)] dX9_nextRow_56 rfl rfl (by decide) rfl ?_
        refine X_goto (pc := 59) 12 dX9_nextRow_59 (by decide) ?_
        exact X_lvs [1, 2, 3, 0] rfl (ih hf)
      · replace hf := (if_neg c5).symm.trans hf
        refine X_icmp_ge_f (pc := 22) 56 dX9_nextRow_22 (by decide) c5 ?_
        refine X_aload_n (pc := 25) (i := 0) 0 dX9_nextRow_25 rfl rfl ?_
        refine X_iload (pc := 26) 3 dX9_nextRow_26 rfl ?_
        obtain ⟨c6, hf⟩ := gd_some hf
        refine X_ialdj (pc := 28) (j := l4.toNatClampNeg) (I 21 (l4.toNatClampNeg)) (sh_21 hT) (vp_in_lit (N := 3) c6 (by decide)) rfl rfl dX9_nextRow_28 ?_
        refine X_iconst (pc := 29) (1 : Int32) dX9_nextRow_29 (by decide) ?_
        refine X_iadd (pc := 30) dX9_nextRow_30 ?_
        obtain ⟨x7, ex7, hf⟩ := bnd_e hf
        refine X_tope ex7 ?_
        refine X_istore (pc := 31) [(5, .int x7), (0, .ref (xB G + 21)), (2, .int l2), (3, .int l3), (4, .int l4)] dX9_nextRow_31 (by decide) rfl ?_
        refine X_iload (pc := 33) 4 dX9_nextRow_33 rfl ?_
        refine X_istore (pc := 35) [(6, .int l4), (5, .int x7), (0, .ref (xB G + 21)), (2, .int l2), (3, .int l3), (4, .int l4)] dX9_nextRow_35 (by decide) rfl ?_
        exact X_lvs [2, 4, 1, 0] rfl (x_Tr_nextRow_21_L37 hT xF hf)
theorem u_Tr_nextRow_21_L12 {S : List xSh} : ∀ (n : Nat) {l2 : Int32} {l3 : Int32} {l4 : Int32} {I : Nat → Nat → Int32} {L : Nat → Nat → Int64} {q : ((Nat → Nat → Int32) × (Nat → Nat → Int64))}, f_Tr_nextRow_21_L12 n l2 l3 l4 I L = some q → FR S [21] [] I q.1 L q.2 := by
  intro n
  induction n with
  | zero =>
    intro l2 l3 l4 I L q hf
    exact absurd (show none = some q from hf) (by simp)
  | succ n ih =>
    intro l2 l3 l4 I L q hf
    replace hf := (f_Tr_nextRow_21_L12.eq_2 _ _ _ _ _ _).symm.trans hf
    by_cases c3 : l4 < (0 : Int32)
    · replace hf := (if_pos c3).symm.trans hf
      cases hf
      exact FR.rf
    · replace hf := (if_neg c3).symm.trans hf
      obtain ⟨c4, hf⟩ := gd_some hf
      by_cases c5 : l2 ≤ (I 21 (l4.toNatClampNeg))
      · replace hf := (if_pos c5).symm.trans hf
        exact FR.tr FR.rf (ih hf) (by decide) (by decide)
      · replace hf := (if_neg c5).symm.trans hf
        obtain ⟨c6, hf⟩ := gd_some hf
        obtain ⟨x7, ex7, hf⟩ := bnd_e hf
        exact FR.tr FR.rf (u_Tr_nextRow_21_L37 xF hf) (by decide) (by decide)
def f_Tr_nextRow_21 (a1 : Int32) (a2 : Int32) (I : Nat → Nat → Int32) (L : Nat → Nat → Int64) : Option ((Nat → Nat → Int32) × (Nat → Nat → Int64)) := (bnd (jmin a1 (3 : Int32)) fun x1 => (bnd (x1 - (1 : Int32)) fun x2 => (f_Tr_nextRow_21_L12 xF a2 x1 x2 I L)))
set_option maxRecDepth 100000 in
set_option maxHeartbeats 4000000 in
theorem c_Tr_nextRow_21 {G : xG} {S : List xSh} {Rf : Nat → Nat → Option Nat} (hT : xTH S Rf) {a1 : Int32} {a2 : Int32} {I : Nat → Nat → Int32} {L : Nat → Nat → Int64} {q : ((Nat → Nat → Int32) × (Nat → Nat → Int64))} (hf : f_Tr_nextRow_21 a1 a2 I L = some q) : CT G 1 m_Tr_nextRow [.ref (xB G + 21), .int a1, .int a2] (S, I, L, Rf) (none, (S, q.1, q.2, Rf)) := by
  refine CT.of (by decide +kernel) (Nat.le_of_ble_eq_true rfl) ?_
  show X G 1 m_Tr_nextRow 0 [(0, .ref (xB G + 21)), (1, .int a1), (2, .int a2)] [] (S, I, L, Rf) (none, (S, q.1, q.2, Rf))
  replace hf := (f_Tr_nextRow_21.eq_1 _ _ _ _).symm.trans hf
  refine X_iload_n (pc := 0) (i := 1) 1 dX9_nextRow_0 rfl rfl ?_
  refine X_aload_n (pc := 1) (i := 0) 0 dX9_nextRow_1 rfl rfl ?_
  refine X_alen (pc := 2) (3 : Int32) (by decide) (sh_21 hT) (by decide) dX9_nextRow_2 ?_
  refine X_jmin (pc := 3) k_1010 (by decide) (Nat.le_of_ble_eq_true rfl) dX9_nextRow_3 ?_
  obtain ⟨x1, ex1, hf⟩ := bnd_e hf
  refine X_tope ex1 ?_
  refine X_istore_n (pc := 6) (i := 3) [(3, .int x1), (0, .ref (xB G + 21)), (1, .int a1), (2, .int a2)] dX9_nextRow_6 rfl (by decide) rfl ?_
  refine X_iload_n (pc := 7) (i := 3) 0 dX9_nextRow_7 rfl rfl ?_
  refine X_iconst (pc := 8) (1 : Int32) dX9_nextRow_8 (by decide) ?_
  refine X_isub (pc := 9) dX9_nextRow_9 ?_
  obtain ⟨x2, ex2, hf⟩ := bnd_e hf
  refine X_tope ex2 ?_
  refine X_istore (pc := 10) [(4, .int x2), (3, .int x1), (0, .ref (xB G + 21)), (1, .int a1), (2, .int a2)] dX9_nextRow_10 (by decide) rfl ?_
  exact X_lvs [2, 4, 1, 0] rfl (x_Tr_nextRow_21_L12 hT xF hf)
theorem u_Tr_nextRow_21 {S : List xSh} {a1 : Int32} {a2 : Int32} {I : Nat → Nat → Int32} {L : Nat → Nat → Int64} {q : ((Nat → Nat → Int32) × (Nat → Nat → Int64))} (hf : f_Tr_nextRow_21 a1 a2 I L = some q) : FR S [21] [] I q.1 L q.2 := by
  replace hf := (f_Tr_nextRow_21.eq_1 _ _ _ _).symm.trans hf
  obtain ⟨x1, ex1, hf⟩ := bnd_e hf
  obtain ⟨x2, ex2, hf⟩ := bnd_e hf
  exact FR.tr FR.rf (u_Tr_nextRow_21_L12 xF hf) (by decide) (by decide)

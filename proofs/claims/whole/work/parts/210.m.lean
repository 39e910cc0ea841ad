def f_Ro_at_9 (a0 : Int32) (a1 : Int32) (I : Nat → Nat → Int32) (L : Nat → Nat → Int64) : Option Int32 := (if (f_Ro_has_9 a0 a1 I L) = (0 : Int32) then (some (-1 : Int32)) else (if (0 ≤ ((a0 * (I 9 0)) + a1) ∧ ((a0 * (I 9 0)) + a1) < (6000 : Int32)) then (some (I 10 (((a0 * (I 9 0)) + a1).toNatClampNeg))) else none))
set_option maxRecDepth 100000 in
set_option maxHeartbeats 4000000 in
theorem c_Ro_at_9 {G : xG} {S : List xSh} {Rf : Nat → Nat → Option Nat} (hT : xTH S Rf) {a0 : Int32} {a1 : Int32} {I : Nat → Nat → Int32} {L : Nat → Nat → Int64} {q : Int32} (hf : f_Ro_at_9 a0 a1 I L = some q) : CT G 2 m_Ro_at [.ref (xP G 9), .int a0, .int a1] (S, I, L, Rf) (some (.int q), (S, I, L, Rf)) := by
  refine CT.of (by decide +kernel) (Nat.le_of_ble_eq_true rfl) ?_
  show X G 2 m_Ro_at 0 [(0, .ref (xP G 9)), (1, .int a0), (2, .int a1)] [] (S, I, L, Rf) (some (.int q), (S, I, L, Rf))
  replace hf := (f_Ro_at_9.eq_1 _ _ _ _).symm.trans hf
  refine X_aload_n (pc := 0) (i := 0) 0 dX7_at_0 rfl rfl ?_
  refine X_iload_n (pc := 1) (i := 1) 1 dX7_at_1 rfl rfl ?_
  refine X_iload_n (pc := 2) (i := 2) 2 dX7_at_2 rfl rfl ?_
  refine X_invV_i (pc := 3) (c_Ro_has_9 hT rfl) ok_Ro_has (ci := 7) (sh_9 hT) k_942 k_943 k_944 nd_25 (by decide) rfl (Nat.le_of_ble_eq_true rfl) dX7_at_3 ?_
  by_cases c1 : (f_Ro_has_9 a0 a1 I L) = (0 : Int32)
  · replace hf := (if_pos c1).symm.trans hf
    refine X_if_eq_t (pc := 6) 25 dX7_at_6 (by decide) c1 ?_
    refine X_iconst (pc := 25) (-1 : Int32) dX7_at_25 (by decide) ?_
    cases hf
    exact X_ireturn (pc := 26) rfl dX7_at_26
  · replace hf := (if_neg c1).symm.trans hf
    refine X_if_eq_f (pc := 6) 25 dX7_at_6 (by decide) c1 ?_
    refine X_aload_n (pc := 9) (i := 0) 0 dX7_at_9 rfl rfl ?_
    refine X_getr (pc := 10) (a := 9) (ci := 7) (j := 2) (c := 10) (sh_9 hT) (by decide) k_160 (rf_9_2 hT) (fun _ h => h) dX7_at_10 ?_
    refine X_iload_n (pc := 13) (i := 1) 1 dX7_at_13 rfl rfl ?_
    refine X_aload_n (pc := 14) (i := 0) 0 dX7_at_14 rfl rfl ?_
    refine X_get (pc := 15) (a := 9) (ci := 7) (j := 0) (.int (I 9 0)) (sh_9 hT) (by decide) k_158 rfl dX7_at_15 ?_
    refine X_imul (pc := 18) dX7_at_18 ?_
    refine X_iload_n (pc := 19) (i := 2) 2 dX7_at_19 rfl rfl ?_
    refine X_iadd (pc := 20) dX7_at_20 ?_
    obtain ⟨c2, hf⟩ := gd_some hf
    refine X_ialdj (pc := 21) (j := ((a0 * (I 9 0)) + a1).toNatClampNeg) (I 10 (((a0 * (I 9 0)) + a1).toNatClampNeg)) (sh_10 hT) (vp_in_lit (N := 6000) c2 (by decide)) rfl rfl dX7_at_21 ?_
    refine X_goto (pc := 22) 26 dX7_at_22 (by decide) ?_
    cases hf
    exact X_ireturn (pc := 26) rfl dX7_at_26
theorem dX11_tick_0 : decode cX11_tick 0 = .ok (.aload_n 0, 1) := by decide +kernel
theorem dX11_tick_1 : decode cX11_tick 1 = .ok (.getfield 10, 3) := by decide +kernel
theorem dX11_tick_4 : decode cX11_tick 4 = .ok (.getfield 261, 3) := by decide +kernel
theorem dX11_tick_7 : decode cX11_tick 7 = .ok (.iload_n 1, 1) := by decide +kernel
theorem dX11_tick_8 : decode cX11_tick 8 = .ok (.iload_n 2, 1) := by decide +kernel
theorem dX11_tick_9 : decode cX11_tick 9 = .ok (.invokevirtual 264, 3) := by decide +kernel
theorem dX11_tick_12 : decode cX11_tick 12 = .ok (.ifCond .eq 18, 3) := by decide +kernel
theorem dX11_tick_15 : decode cX11_tick 15 = .ok (.aload_n 0, 1) := by decide +kernel
theorem dX11_tick_16 : decode cX11_tick 16 = .ok (.getfield 10, 3) := by decide +kernel
theorem dX11_tick_19 : decode cX11_tick 19 = .ok (.getfield 261, 3) := by decide +kernel
theorem dX11_tick_22 : decode cX11_tick 22 = .ok (.iload_n 1, 1) := by decide +kernel
theorem dX11_tick_23 : decode cX11_tick 23 = .ok (.iload_n 2, 1) := by decide +kernel
theorem dX11_tick_24 : decode cX11_tick 24 = .ok (.invokevirtual 267, 3) := by decide +kernel
theorem dX11_tick_27 : decode cX11_tick 27 = .ok (.goto 4, 3) := by decide +kernel
theorem dX11_tick_30 : decode cX11_tick 30 = .ok (.iconst (-1), 1) := by decide +kernel
theorem dX11_tick_31 : decode cX11_tick 31 = .ok (.ireturn, 1) := by decide +kernel
def f_H_tick (a0 : Int32) (a1 : Int32) (I : Nat → Nat → Int32) (L : Nat → Nat → Int64) : Option Int32 := (if (f_Ro_has_9 a0 a1 I L) = (0 : Int32) then (some (-1 : Int32)) else ((f_Ro_at_9 a0 a1 I L).bind fun q2 => (some q2)))
set_option maxRecDepth 100000 in
set_option maxHeartbeats 4000000 in
theorem c_H_tick {G : xG} {S : List xSh} {Rf : Nat → Nat → Option Nat} (hT : xTH S Rf) {a0 : Int32} {a1 : Int32} {I : Nat → Nat → Int32} {L : Nat → Nat → Int64} {q : Int32} (hf : f_H_tick a0 a1 I L = some q) : CT G 3 m_H_tick [.ref (xP G 0), .int a0, .int a1] (S, I, L, Rf) (some (.int q), (S, I, L, Rf)) := by
  refine CT.of (by decide +kernel) (Nat.le_of_ble_eq_true rfl) ?_
  show X G 3 m_H_tick 0 [(0, .ref (xP G 0)), (1, .int a0), (2, .int a1)] [] (S, I, L, Rf) (some (.int q), (S, I, L, Rf))
  replace hf := (f_H_tick.eq_1 _ _ _ _).symm.trans hf
  refine X_aload_n (pc := 0) (i := 0) 0 dX11_tick_0 rfl rfl ?_
  refine X_getr (pc := 1) (a := 0) (ci := 10) (j := 0) (c := 1) (sh_0 hT) (by decide) k_494 (rf_0_0 hT) (fun _ h => h) dX11_tick_1 ?_
  refine X_getr (pc := 4) (a := 1) (ci := 5) (j := 15) (c := 9) (sh_1 hT) (by decide) k_199 (rf_1_15 hT) (fun _ h => h) dX11_tick_4 ?_
  refine X_iload_n (pc := 7) (i := 1) 1 dX11_tick_7 rfl rfl ?_
  refine X_iload_n (pc := 8) (i := 2) 2 dX11_tick_8 rfl rfl ?_
  refine X_invV_i (pc := 9) (c_Ro_has_9 hT rfl) ok_Ro_has (ci := 7) (sh_9 hT) k_965 k_943 k_944 nd_25 (by decide) rfl (Nat.le_of_ble_eq_true rfl) dX11_tick_9 ?_
  by_cases c1 : (f_Ro_has_9 a0 a1 I L) = (0 : Int32)
  · replace hf := (if_pos c1).symm.trans hf
    refine X_if_eq_t (pc := 12) 30 dX11_tick_12 (by decide) c1 ?_
    refine X_iconst (pc := 30) (-1 : Int32) dX11_tick_30 (by decide) ?_
    cases hf
    exact X_ireturn (pc := 31) rfl dX11_tick_31
  · replace hf := (if_neg c1).symm.trans hf
    refine X_if_eq_f (pc := 12) 30 dX11_tick_12 (by decide) c1 ?_
    refine X_aload_n (pc := 15) (i := 0) 0 dX11_tick_15 rfl rfl ?_
    refine X_getr (pc := 16) (a := 0) (ci := 10) (j := 0) (c := 1) (sh_0 hT) (by decide) k_494 (rf_0_0 hT) (fun _ h => h) dX11_tick_16 ?_
    refine X_getr (pc := 19) (a := 1) (ci := 5) (j := 15) (c := 9) (sh_1 hT) (by decide) k_199 (rf_1_15 hT) (fun _ h => h) dX11_tick_19 ?_
    refine X_iload_n (pc := 22) (i := 1) 1 dX11_tick_22 rfl rfl ?_
    refine X_iload_n (pc := 23) (i := 2) 2 dX11_tick_23 rfl rfl ?_
    obtain ⟨q2, c3, hf⟩ := bd_some hf
    refine X_invV_i (pc := 24) (c_Ro_at_9 hT c3) ok_Ro_at (ci := 7) (sh_9 hT) k_938 k_939 k_940 nd_21 (by decide) rfl (Nat.le_of_ble_eq_true rfl) dX11_tick_24 ?_
    refine X_goto (pc := 27) 31 dX11_tick_27 (by decide) ?_
    cases hf
    exact X_ireturn (pc := 31) rfl dX11_tick_31
theorem dX4_shown_0 : decode cX4_shown 0 = .ok (.iload_n 1, 1) := by decide +kernel
theorem dX4_shown_1 : decode cX4_shown 1 = .ok (.ifCond .ne 10, 3) := by decide +kernel
theorem dX4_shown_4 : decode cX4_shown 4 = .ok (.aload_n 0, 1) := by decide +kernel
theorem dX4_shown_5 : decode cX4_shown 5 = .ok (.getfield 15, 3) := by decide +kernel
theorem dX4_shown_8 : decode cX4_shown 8 = .ok (.goto 4, 3) := by decide +kernel
theorem dX4_shown_11 : decode cX4_shown 11 = .ok (.iconst (-1), 1) := by decide +kernel
theorem dX4_shown_12 : decode cX4_shown 12 = .ok (.ireturn, 1) := by decide +kernel
def f_Di_shown (w0 : Nat) (a0 : Int32) (I : Nat → Nat → Int32) (L : Nat → Nat → Int64) : Int32 := (if a0 = (0 : Int32) then (I w0 3) else (-1 : Int32))
set_option maxRecDepth 100000 in
set_option maxHeartbeats 4000000 in
theorem c_Di_shown {G : xG} {S : List xSh} {Rf : Nat → Nat → Option Nat} (hT : xTH S Rf) {w0 : Nat} {a0 : Int32} (hw0 : S[w0]? = some (.inl 4)) {I : Nat → Nat → Int32} {L : Nat → Nat → Int64} {q : Int32} (hf : f_Di_shown w0 a0 I L = q) : CT G 1 m_Di_shown [.ref (xP G w0), .int a0] (S, I, L, Rf) (some (.int q), (S, I, L, Rf)) := by
  refine CT.of (by decide +kernel) (Nat.le_of_ble_eq_true rfl) ?_
  show X G 1 m_Di_shown 0 [(0, .ref (xP G w0)), (1, .int a0)] [] (S, I, L, Rf) (some (.int q), (S, I, L, Rf))
  replace hf := (f_Di_shown.eq_1 _ _ _ _).symm.trans hf
  refine X_iload_n (pc := 0) (i := 1) 1 dX4_shown_0 rfl rfl ?_
  by_cases c1 : a0 = (0 : Int32)
  · replace hf := (if_pos c1).symm.trans hf
    refine X_if_ne_f (pc := 1) 11 dX4_shown_1 (by decide) c1 ?_
    refine X_aload_n (pc := 4) (i := 0) 0 dX4_shown_4 rfl rfl ?_
    refine X_get (pc := 5) (a := w0) (ci := 4) (j := 3) (.int (I w0 3)) hw0 (by decide) k_362 rfl dX4_shown_5 ?_
    refine X_goto (pc := 8) 12 dX4_shown_8 (by decide) ?_
    subst hf
    exact X_ireturn (pc := 12) rfl dX4_shown_12
  · replace hf := (if_neg c1).symm.trans hf
    refine X_if_ne_t (pc := 1) 11 dX4_shown_1 (by decide) c1 ?_
    refine X_iconst (pc := 11) (-1 : Int32) dX4_shown_11 (by decide) ?_
    subst hf
    exact X_ireturn (pc := 12) rfl dX4_shown_12
theorem dX8_shown_0 : decode cX8_shown 0 = .ok (.iload_n 1, 1) := by decide +kernel
theorem dX8_shown_1 : decode cX8_shown 1 = .ok (.tableswitch 42 0 2 #[27, 32, 37], 27) := by decide +kernel
theorem dX8_shown_28 : decode cX8_shown 28 = .ok (.aload_n 0, 1) := by decide +kernel
theorem dX8_shown_29 : decode cX8_shown 29 = .ok (.getfield 18, 3) := by decide +kernel
theorem dX8_shown_32 : decode cX8_shown 32 = .ok (.ireturn, 1) := by decide +kernel
theorem dX8_shown_33 : decode cX8_shown 33 = .ok (.aload_n 0, 1) := by decide +kernel
theorem dX8_shown_34 : decode cX8_shown 34 = .ok (.getfield 21, 3) := by decide +kernel
theorem dX8_shown_37 : decode cX8_shown 37 = .ok (.ireturn, 1) := by decide +kernel
theorem dX8_shown_38 : decode cX8_shown 38 = .ok (.aload_n 0, 1) := by decide +kernel
theorem dX8_shown_39 : decode cX8_shown 39 = .ok (.getfield 15, 3) := by decide +kernel
theorem dX8_shown_42 : decode cX8_shown 42 = .ok (.ireturn, 1) := by decide +kernel
theorem dX8_shown_43 : decode cX8_shown 43 = .ok (.iconst (-1), 1) := by decide +kernel
theorem dX8_shown_44 : decode cX8_shown 44 = .ok (.ireturn, 1) := by decide +kernel
def f_St_shown (w0 : Nat) (a0 : Int32) (I : Nat → Nat → Int32) (L : Nat → Nat → Int64) : Int32 := (if a0 = (0 : Int32) then (I w0 5) else (if a0 = (1 : Int32) then (I w0 6) else (if a0 = (2 : Int32) then (I w0 7) else (-1 : Int32))))
set_option maxRecDepth 100000 in
set_option maxHeartbeats 4000000 in
theorem c_St_shown {G : xG} {S : List xSh} {Rf : Nat → Nat → Option Nat} (hT : xTH S Rf) {w0 : Nat} {a0 : Int32} (hw0 : S[w0]? = some (.inl 8)) {I : Nat → Nat → Int32} {L : Nat → Nat → Int64} {q : Int32} (hf : f_St_shown w0 a0 I L = q) : CT G 1 m_St_shown [.ref (xP G w0), .int a0] (S, I, L, Rf) (some (.int q), (S, I, L, Rf)) := by
  refine CT.of (by decide +kernel) (Nat.le_of_ble_eq_true rfl) ?_
  show X G 1 m_St_shown 0 [(0, .ref (xP G w0)), (1, .int a0)] [] (S, I, L, Rf) (some (.int q), (S, I, L, Rf))
  replace hf := (f_St_shown.eq_1 _ _ _ _).symm.trans hf
  refine X_iload_n (pc := 0) (i := 1) 1 dX8_shown_0 rfl rfl ?_
  by_cases c1 : a0 = (0 : Int32)
  · replace hf := (if_pos c1).symm.trans hf
    refine X_tabIn (pc := 1) (off := 27) (0) 28 dX8_shown_1 (by rw [c1]; rfl) (by decide) ?_
    refine X_aload_n (pc := 28) (i := 0) 0 dX8_shown_28 rfl rfl ?_
    refine X_get (pc := 29) (a := w0) (ci := 8) (j := 3) (.int (I w0 5)) hw0 (by decide) k_424 rfl dX8_shown_29 ?_
    subst hf
    exact X_ireturn (pc := 32) rfl dX8_shown_32
  · replace hf := (if_neg c1).symm.trans hf
    by_cases c2 : a0 = (1 : Int32)
    · replace hf := (if_pos c2).symm.trans hf
      refine X_tabIn (pc := 1) (off := 32) (1) 33 dX8_shown_1 (by rw [c2]; rfl) (by decide) ?_
      refine X_aload_n (pc := 33) (i := 0) 0 dX8_shown_33 rfl rfl ?_
      refine X_get (pc := 34) (a := w0) (ci := 8) (j := 4) (.int (I w0 6)) hw0 (by decide) k_425 rfl dX8_shown_34 ?_
      subst hf
      exact X_ireturn (pc := 37) rfl dX8_shown_37
    · replace hf := (if_neg c2).symm.trans hf
      by_cases c3 : a0 = (2 : Int32)
      · replace hf := (if_pos c3).symm.trans hf
        refine X_tabIn (pc := 1) (off := 37) (2) 38 dX8_shown_1 (by rw [c3]; rfl) (by decide) ?_
        refine X_aload_n (pc := 38) (i := 0) 0 dX8_shown_38 rfl rfl ?_
        refine X_get (pc := 39) (a := w0) (ci := 8) (j := 5) (.int (I w0 7)) hw0 (by decide) k_426 rfl dX8_shown_39 ?_
        subst hf
        exact X_ireturn (pc := 42) rfl dX8_shown_42
      · replace hf := (if_neg c3).symm.trans hf
        refine X_tabOut (pc := 1) 43 dX8_shown_1 (by have zc1 := lv_neT (a := 0) c1 rfl; have zc2 := lv_neT (a := 1) c2 rfl; have zc3 := lv_neT (a := 2) c3 rfl; omega) (by decide) ?_
        refine X_iconst (pc := 43) (-1 : Int32) dX8_shown_43 (by decide) ?_
        subst hf
        exact X_ireturn (pc := 44) rfl dX8_shown_44
theorem dX1_shown_0 : decode cX1_shown 0 = .ok (.iload_n 1, 1) := by decide +kernel
theorem dX1_shown_1 : decode cX1_shown 1 = .ok (.tableswitch 87 0 7 #[47, 52, 57, 62, 67, 72, 77, 82], 47) := by decide +kernel
theorem dX1_shown_48 : decode cX1_shown 48 = .ok (.aload_n 0, 1) := by decide +kernel
theorem dX1_shown_49 : decode cX1_shown 49 = .ok (.getfield 32, 3) := by decide +kernel
theorem dX1_shown_52 : decode cX1_shown 52 = .ok (.ireturn, 1) := by decide +kernel
theorem dX1_shown_53 : decode cX1_shown 53 = .ok (.aload_n 0, 1) := by decide +kernel
theorem dX1_shown_54 : decode cX1_shown 54 = .ok (.getfield 35, 3) := by decide +kernel
theorem dX1_shown_57 : decode cX1_shown 57 = .ok (.ireturn, 1) := by decide +kernel
theorem dX1_shown_58 : decode cX1_shown 58 = .ok (.aload_n 0, 1) := by decide +kernel
theorem dX1_shown_59 : decode cX1_shown 59 = .ok (.getfield 38, 3) := by decide +kernel
theorem dX1_shown_62 : decode cX1_shown 62 = .ok (.ireturn, 1) := by decide +kernel
theorem dX1_shown_63 : decode cX1_shown 63 = .ok (.aload_n 0, 1) := by decide +kernel
theorem dX1_shown_64 : decode cX1_shown 64 = .ok (.getfield 44, 3) := by decide +kernel
theorem dX1_shown_67 : decode cX1_shown 67 = .ok (.ireturn, 1) := by decide +kernel
theorem dX1_shown_68 : decode cX1_shown 68 = .ok (.aload_n 0, 1) := by decide +kernel
theorem dX1_shown_69 : decode cX1_shown 69 = .ok (.getfield 47, 3) := by decide +kernel
theorem dX1_shown_72 : decode cX1_shown 72 = .ok (.ireturn, 1) := by decide +kernel
theorem dX1_shown_73 : decode cX1_shown 73 = .ok (.aload_n 0, 1) := by decide +kernel
theorem dX1_shown_74 : decode cX1_shown 74 = .ok (.getfield 50, 3) := by decide +kernel
theorem dX1_shown_77 : decode cX1_shown 77 = .ok (.ireturn, 1) := by decide +kernel
theorem dX1_shown_78 : decode cX1_shown 78 = .ok (.aload_n 0, 1) := by decide +kernel
theorem dX1_shown_79 : decode cX1_shown 79 = .ok (.getfield 53, 3) := by decide +kernel
theorem dX1_shown_82 : decode cX1_shown 82 = .ok (.ireturn, 1) := by decide +kernel
theorem dX1_shown_83 : decode cX1_shown 83 = .ok (.aload_n 0, 1) := by decide +kernel
theorem dX1_shown_84 : decode cX1_shown 84 = .ok (.getfield 56, 3) := by decide +kernel
theorem dX1_shown_87 : decode cX1_shown 87 = .ok (.ireturn, 1) := by decide +kernel
theorem dX1_shown_88 : decode cX1_shown 88 = .ok (.iconst (-1), 1) := by decide +kernel
theorem dX1_shown_89 : decode cX1_shown 89 = .ok (.ireturn, 1) := by decide +kernel
def f_Ca_shown (w0 : Nat) (a0 : Int32) (I : Nat → Nat → Int32) (L : Nat → Nat → Int64) : Int32 := (if a0 = (0 : Int32) then (I w0 6) else (if a0 = (1 : Int32) then (I w0 7) else (if a0 = (2 : Int32) then (I w0 8) else (if a0 = (3 : Int32) then (I w0 9) else (if a0 = (4 : Int32) then (I w0 10) else (if a0 = (5 : Int32) then (I w0 11) else (if a0 = (6 : Int32) then (I w0 12) else (if a0 = (7 : Int32) then (I w0 13) else (-1 : Int32)))))))))
set_option maxRecDepth 100000 in
set_option maxHeartbeats 4000000 in
theorem c_Ca_shown {G : xG} {S : List xSh} {Rf : Nat → Nat → Option Nat} (hT : xTH S Rf) {w0 : Nat} {a0 : Int32} (hw0 : S[w0]? = some (.inl 1)) {I : Nat → Nat → Int32} {L : Nat → Nat → Int64} {q : Int32} (hf : f_Ca_shown w0 a0 I L = q) : CT G 1 m_Ca_shown [.ref (xP G w0), .int a0] (S, I, L, Rf) (some (.int q), (S, I, L, Rf)) := by
  refine CT.of (by decide +kernel) (Nat.le_of_ble_eq_true rfl) ?_
  show X G 1 m_Ca_shown 0 [(0, .ref (xP G w0)), (1, .int a0)] [] (S, I, L, Rf) (some (.int q), (S, I, L, Rf))
  replace hf := (f_Ca_shown.eq_1 _ _ _ _).symm.trans hf
  refine X_iload_n (pc := 0) (i := 1) 1 dX1_shown_0 rfl rfl ?_
  by_cases c1 : a0 = (0 : Int32)
  · replace hf := (if_pos c1).symm.trans hf
    refine X_tabIn (pc := 1) (off := 47) (0) 48 dX1_shown_1 (by rw [c1]; rfl) (by decide) ?_
    refine X_aload_n (pc := 48) (i := 0) 0 dX1_shown_48 rfl rfl ?_
    refine X_get (pc := 49) (a := w0) (ci := 1) (j := 6) (.int (I w0 6)) hw0 (by decide) k_383 rfl dX1_shown_49 ?_
    subst hf
    exact X_ireturn (pc := 52) rfl dX1_shown_52
  · replace hf := (if_neg c1).symm.trans hf
    by_cases c2 : a0 = (1 : Int32)
    · replace hf := (if_pos c2).symm.trans hf
      refine X_tabIn (pc := 1) (off := 52) (1) 53 dX1_shown_1 (by rw [c2]; rfl) (by decide) ?_
      refine X_aload_n (pc := 53) (i := 0) 0 dX1_shown_53 rfl rfl ?_
      refine X_get (pc := 54) (a := w0) (ci := 1) (j := 7) (.int (I w0 7)) hw0 (by decide) k_384 rfl dX1_shown_54 ?_
      subst hf
      exact X_ireturn (pc := 57) rfl dX1_shown_57
    · replace hf := (if_neg c2).symm.trans hf
      by_cases c3 : a0 = (2 : Int32)
      · replace hf := (if_pos c3).symm.trans hf
        refine X_tabIn (pc := 1) (off := 57) (2) 58 dX1_shown_1 (by rw [c3]; rfl) (by decide) ?_
        refine X_aload_n (pc := 58) (i := 0) 0 dX1_shown_58 rfl rfl ?_
        refine X_get (pc := 59) (a := w0) (ci := 1) (j := 8) (.int (I w0 8)) hw0 (by decide) k_385 rfl dX1_shown_59 ?_
        subst hf
        exact X_ireturn (pc := 62) rfl dX1_shown_62
      · replace hf := (if_neg c3).symm.trans hf
        by_cases c4 : a0 = (3 : Int32)
        · replace hf := (if_pos c4).symm.trans hf
          refine X_tabIn (pc := 1) (off := 62) (3) 63 dX1_shown_1 (by rw [c4]; rfl) (by decide) ?_
          refine X_aload_n (pc := 63) (i := 0) 0 dX1_shown_63 rfl rfl ?_
          refine X_get (pc := 64) (a := w0) (ci := 1) (j := 9) (.int (I w0 9)) hw0 (by decide) k_386 rfl dX1_shown_64 ?_
          subst hf
          exact X_ireturn (pc := 67) rfl dX1_shown_67
        · replace hf := (if_neg c4).symm.trans hf
          by_cases c5 : a0 = (4 : Int32)
          · replace hf := (if_pos c5).symm.trans hf
            refine X_tabIn (pc := 1) (off := 67) (4) 68 dX1_shown_1 (by rw [c5]; rfl) (by decide) ?_
            refine X_aload_n (pc := 68) (i := 0) 0 dX1_shown_68 rfl rfl ?_
            refine X_get (pc := 69) (a := w0) (ci := 1) (j := 10) (.int (I w0 10)) hw0 (by decide) k_387 rfl dX1_shown_69 ?_
            subst hf
            exact X_ireturn (pc := 72) rfl dX1_shown_72
          · replace hf := (if_neg c5).symm.trans hf
            by_cases c6 : a0 = (5 : Int32)
            · replace hf := (if_pos c6).symm.trans hf
              refine X_tabIn (pc := 1) (off := 72) (5) 73 dX1_shown_1 (by rw [c6]; rfl) (by decide) ?_
              refine X_aload_n (pc := 73) (i := 0) 0 dX1_shown_73 rfl rfl ?_
              refine X_get (pc := 74) (a := w0) (ci := 1) (j := 11) (.int (I w0 11)) hw0 (by decide) k_388 rfl dX1_shown_74 ?_
              subst hf
              exact X_ireturn (pc := 77) rfl dX1_shown_77
            · replace hf := (if_neg c6).symm.trans hf
              by_cases c7 : a0 = (6 : Int32)
              · replace hf := (if_pos c7).symm.trans hf
                refine X_tabIn (pc := 1) (off := 77) (6) 78 dX1_shown_1 (by rw [c7]; rfl) (by decide) ?_
                refine X_aload_n (pc := 78) (i := 0) 0 dX1_shown_78 rfl rfl ?_
                refine X_get (pc := 79) (a := w0) (ci := 1) (j := 12) (.int (I w0 12)) hw0 (by decide) k_389 rfl dX1_shown_79 ?_
                subst hf
                exact X_ireturn (pc := 82) rfl dX1_shown_82
              · replace hf := (if_neg c7).symm.trans hf
                by_cases c8 : a0 = (7 : Int32)
                · replace hf := (if_pos c8).symm.trans hf
                  refine X_tabIn (pc := 1) (off := 82) (7) 83 dX1_shown_1 (by rw [c8]; rfl) (by decide) ?_
                  refine X_aload_n (pc := 83) (i := 0) 0 dX1_shown_83 rfl rfl ?_
                  refine X_get (pc := 84) (a := w0) (ci := 1) (j := 13) (.int (I w0 13)) hw0 (by decide) k_390 rfl dX1_shown_84 ?_
                  subst hf
                  exact X_ireturn (pc := 87) rfl dX1_shown_87
                · replace hf := (if_neg c8).symm.trans hf
                  refine X_tabOut (pc := 1) 88 dX1_shown_1 (by have zc1 := lv_neT (a := 0) c1 rfl; have zc2 := lv_neT (a := 1) c2 rfl; have zc3 := lv_neT (a := 2) c3 rfl; have zc4 := lv_neT (a := 3) c4 rfl; have zc5 := lv_neT (a := 4) c5 rfl; have zc6 := lv_neT (a := 5) c6 rfl; have zc7 := lv_neT (a := 6) c7 rfl; have zc8 := lv_neT (a := 7) c8 rfl; omega) (by decide) ?_
                  refine X_iconst (pc := 88) (-1 : Int32) dX1_shown_88 (by decide) ?_
                  subst hf
                  exact X_ireturn (pc := 89) rfl dX1_shown_89
theorem dX11_shows_0 : decode cX11_shows 0 = .ok (.aload_n 0, 1) := by decide +kernel
theorem dX11_shows_1 : decode cX11_shows 1 = .ok (.iload_n 1, 1) := by decide +kernel
theorem dX11_shows_2 : decode cX11_shows 2 = .ok (.invokevirtual 198, 3) := by decide +kernel
theorem dX11_shows_5 : decode cX11_shows 5 = .ok (.astore_n 3, 1) := by decide +kernel
theorem dX11_shows_6 : decode cX11_shows 6 = .ok (.aload_n 3, 1) := by decide +kernel
theorem dX11_shows_7 : decode cX11_shows 7 = .ok (.ifnonnull 5, 3) := by decide +kernel
theorem dX11_shows_10 : decode cX11_shows 10 = .ok (.iconst (-1), 1) := by decide +kernel
theorem dX11_shows_11 : decode cX11_shows 11 = .ok (.ireturn, 1) := by decide +kernel
theorem dX11_shows_12 : decode cX11_shows 12 = .ok (.iload_n 2, 1) := by decide +kernel
theorem dX11_shows_13 : decode cX11_shows 13 = .ok (.bipush 8, 2) := by decide +kernel
theorem dX11_shows_15 : decode cX11_shows 15 = .ok (.if_icmp .ne 24, 3) := by decide +kernel
theorem dX11_shows_18 : decode cX11_shows 18 = .ok (.aload_n 3, 1) := by decide +kernel
theorem dX11_shows_19 : decode cX11_shows 19 = .ok (.instanceof 33, 3) := by decide +kernel
theorem dX11_shows_22 : decode cX11_shows 22 = .ok (.ifCond .eq 17, 3) := by decide +kernel
theorem dX11_shows_25 : decode cX11_shows 25 = .ok (.aload_n 0, 1) := by decide +kernel
theorem dX11_shows_26 : decode cX11_shows 26 = .ok (.aload_n 3, 1) := by decide +kernel
theorem dX11_shows_27 : decode cX11_shows 27 = .ok (.invokevirtual 206, 3) := by decide +kernel
theorem dX11_shows_30 : decode cX11_shows 30 = .ok (.ifCond .eq 7, 3) := by decide +kernel
theorem dX11_shows_33 : decode cX11_shows 33 = .ok (.iconst 1, 1) := by decide +kernel
theorem dX11_shows_34 : decode cX11_shows 34 = .ok (.goto 4, 3) := by decide +kernel
theorem dX11_shows_37 : decode cX11_shows 37 = .ok (.iconst 0, 1) := by decide +kernel
theorem dX11_shows_38 : decode cX11_shows 38 = .ok (.ireturn, 1) := by decide +kernel
theorem dX11_shows_39 : decode cX11_shows 39 = .ok (.iload_n 2, 1) := by decide +kernel
theorem dX11_shows_40 : decode cX11_shows 40 = .ok (.bipush 9, 2) := by decide +kernel
theorem dX11_shows_42 : decode cX11_shows 42 = .ok (.if_icmp .ne 10, 3) := by decide +kernel
theorem dX11_shows_45 : decode cX11_shows 45 = .ok (.aload_n 3, 1) := by decide +kernel
theorem dX11_shows_46 : decode cX11_shows 46 = .ok (.getfield 271, 3) := by decide +kernel
theorem dX11_shows_49 : decode cX11_shows 49 = .ok (.goto 8, 3) := by decide +kernel
theorem dX11_shows_52 : decode cX11_shows 52 = .ok (.aload_n 3, 1) := by decide +kernel
theorem dX11_shows_53 : decode cX11_shows 53 = .ok (.iload_n 2, 1) := by decide +kernel
theorem dX11_shows_54 : decode cX11_shows 54 = .ok (.invokevirtual 274, 3) := by decide +kernel
theorem dX11_shows_57 : decode cX11_shows 57 = .ok (.ireturn, 1) := by decide +kernel
def f_H_shows_L39 (S : List xSh) (Rf : Nat → Nat → Option Nat) (l2 : Int32) (l3 : Nat) (I : (Nat → Nat → Int32)) (L : (Nat → Nat → Int64)) : Option Int32 := (if l2 = (9 : Int32) then (some (I l3 1)) else (some (f_Di_shown l3 l2 I L)))
set_option maxRecDepth 100000 in
set_option maxHeartbeats 4000000 in
theorem x_H_shows_L39 {G : xG} {S : List xSh} {Rf : Nat → Nat → Option Nat} (hT : xTH S Rf) {l2 : Int32} {l3 : Nat} {I : Nat → Nat → Int32} {L : Nat → Nat → Int64} {q : Int32} (hl3 : S[l3]? = some (.inl 4)) (hf : f_H_shows_L39 S Rf l2 l3 I L = some q) : X G 3 m_H_shows 39 [(2, .int l2), (3, .ref (xP G l3))] [] (S, I, L, Rf) (some (.int q), (S, I, L, Rf)) := by
  replace hf := (f_H_shows_L39.eq_1 _ _ _ _ _ _).symm.trans hf
  refine X_iload_n (pc := 39) (i := 2) 0 dX11_shows_39 rfl rfl ?_
  refine X_bipush (pc := 40) (9 : Int32) dX11_shows_40 (by decide) ?_
  by_cases c7 : l2 = (9 : Int32)
  · replace hf := (if_pos c7).symm.trans hf
    refine X_icmp_ne_f (pc := 42) 52 dX11_shows_42 (by decide) c7 ?_
    refine X_aload_n (pc := 45) (i := 3) 1 dX11_shows_45 rfl rfl ?_
    refine X_get (pc := 46) (a := l3) (ci := 4) (j := 1) (.int (I l3 1)) hl3 (by decide) k_364 rfl dX11_shows_46 ?_
    refine X_goto (pc := 49) 57 dX11_shows_49 (by decide) ?_
    cases hf
    exact X_ireturn (pc := 57) rfl dX11_shows_57
  · replace hf := (if_neg c7).symm.trans hf
    refine X_icmp_ne_t (pc := 42) 52 dX11_shows_42 (by decide) c7 ?_
    refine X_aload_n (pc := 52) (i := 3) 1 dX11_shows_52 rfl rfl ?_
    refine X_iload_n (pc := 53) (i := 2) 0 dX11_shows_53 rfl rfl ?_
    refine X_invU_i (pc := 54) (c_Di_shown hT hl3 rfl) ok_Di_shown (ci := 4) hl3 k_970 k_972 k_971 (by decide +kernel) k_977 k_976 nd_8 (by decide) rfl (Nat.le_of_ble_eq_true rfl) dX11_shows_54 ?_
    cases hf
    exact X_ireturn (pc := 57) rfl dX11_shows_57
def f_H_shows_L39_2 (S : List xSh) (Rf : Nat → Nat → Option Nat) (l2 : Int32) (l3 : Nat) (I : (Nat → Nat → Int32)) (L : (Nat → Nat → Int64)) : Option Int32 := (if l2 = (9 : Int32) then (some (I l3 1)) else (some (f_St_shown l3 l2 I L)))
set_option maxRecDepth 100000 in
set_option maxHeartbeats 4000000 in
theorem x_H_shows_L39_2 {G : xG} {S : List xSh} {Rf : Nat → Nat → Option Nat} (hT : xTH S Rf) {l2 : Int32} {l3 : Nat} {I : Nat → Nat → Int32} {L : Nat → Nat → Int64} {q : Int32} (hl3 : S[l3]? = some (.inl 8)) (hf : f_H_shows_L39_2 S Rf l2 l3 I L = some q) : X G 3 m_H_shows 39 [(2, .int l2), (3, .ref (xP G l3))] [] (S, I, L, Rf) (some (.int q), (S, I, L, Rf)) := by
  replace hf := (f_H_shows_L39_2.eq_1 _ _ _ _ _ _).symm.trans hf
  refine X_iload_n (pc := 39) (i := 2) 0 dX11_shows_39 rfl rfl ?_
  refine X_bipush (pc := 40) (9 : Int32) dX11_shows_40 (by decide) ?_
  by_cases c13 : l2 = (9 : Int32)
  · replace hf := (if_pos c13).symm.trans hf
    refine X_icmp_ne_f (pc := 42) 52 dX11_shows_42 (by decide) c13 ?_
    refine X_aload_n (pc := 45) (i := 3) 1 dX11_shows_45 rfl rfl ?_
    refine X_get (pc := 46) (a := l3) (ci := 8) (j := 1) (.int (I l3 1)) hl3 (by decide) k_364 rfl dX11_shows_46 ?_
    refine X_goto (pc := 49) 57 dX11_shows_49 (by decide) ?_
    cases hf
    exact X_ireturn (pc := 57) rfl dX11_shows_57
  · replace hf := (if_neg c13).symm.trans hf
    refine X_icmp_ne_t (pc := 42) 52 dX11_shows_42 (by decide) c13 ?_
    refine X_aload_n (pc := 52) (i := 3) 1 dX11_shows_52 rfl rfl ?_
    refine X_iload_n (pc := 53) (i := 2) 0 dX11_shows_53 rfl rfl ?_
    refine X_invU_i (pc := 54) (c_St_shown hT hl3 rfl) ok_St_shown (ci := 8) hl3 k_970 k_972 k_971 (by decide +kernel) k_980 k_979 nd_8 (by decide) rfl (Nat.le_of_ble_eq_true rfl) dX11_shows_54 ?_
    cases hf
    exact X_ireturn (pc := 57) rfl dX11_shows_57
def f_H_shows_L39_3 (S : List xSh) (Rf : Nat → Nat → Option Nat) (l2 : Int32) (l3 : Nat) (I : (Nat → Nat → Int32)) (L : (Nat → Nat → Int64)) : Option Int32 := (if l2 = (9 : Int32) then (some (I l3 1)) else (some (f_Ca_shown l3 l2 I L)))
set_option maxRecDepth 100000 in
set_option maxHeartbeats 4000000 in
theorem x_H_shows_L39_3 {G : xG} {S : List xSh} {Rf : Nat → Nat → Option Nat} (hT : xTH S Rf) {l2 : Int32} {l3 : Nat} {I : Nat → Nat → Int32} {L : Nat → Nat → Int64} {q : Int32} (hl3 : S[l3]? = some (.inl 1)) (hf : f_H_shows_L39_3 S Rf l2 l3 I L = some q) : X G 3 m_H_shows 39 [(2, .int l2), (3, .ref (xP G l3))] [] (S, I, L, Rf) (some (.int q), (S, I, L, Rf)) := by
  replace hf := (f_H_shows_L39_3.eq_1 _ _ _ _ _ _).symm.trans hf
  refine X_iload_n (pc := 39) (i := 2) 0 dX11_shows_39 rfl rfl ?_
  refine X_bipush (pc := 40) (9 : Int32) dX11_shows_40 (by decide) ?_
  by_cases c16 : l2 = (9 : Int32)
  · replace hf := (if_pos c16).symm.trans hf
    refine X_icmp_ne_f (pc := 42) 52 dX11_shows_42 (by decide) c16 ?_
    refine X_aload_n (pc := 45) (i := 3) 1 dX11_shows_45 rfl rfl ?_
    refine X_get (pc := 46) (a := l3) (ci := 1) (j := 1) (.int (I l3 1)) hl3 (by decide) k_364 rfl dX11_shows_46 ?_
    refine X_goto (pc := 49) 57 dX11_shows_49 (by decide) ?_
    cases hf
    exact X_ireturn (pc := 57) rfl dX11_shows_57
  · replace hf := (if_neg c16).symm.trans hf
    refine X_icmp_ne_t (pc := 42) 52 dX11_shows_42 (by decide) c16 ?_
    refine X_aload_n (pc := 52) (i := 3) 1 dX11_shows_52 rfl rfl ?_
    refine X_iload_n (pc := 53) (i := 2) 0 dX11_shows_53 rfl rfl ?_
    refine X_invU_i (pc := 54) (c_Ca_shown hT hl3 rfl) ok_Ca_shown (ci := 1) hl3 k_970 k_972 k_971 (by decide +kernel) k_974 k_973 nd_8 (by decide) rfl (Nat.le_of_ble_eq_true rfl) dX11_shows_54 ?_
    cases hf
    exact X_ireturn (pc := 57) rfl dX11_shows_57
def f_H_shows (S : List xSh) (Rf : Nat → Nat → Option Nat) (a0 : Int32) (a1 : Int32) (I : Nat → Nat → Int32) (L : Nat → Nat → Int64) : Option Int32 := ((f_H_workAt S Rf a0 I L).bind fun q1 => (oc q1 (some (-1 : Int32)) fun w3 => (if a1 = (8 : Int32) then (if S[w3]? = some (.inl 4) then (f_H_shows_L39 S Rf a1 w3 I L) else (if S[w3]? = some (.inl 1) then ((f_H_isBarred_C w3 I L).bind fun q9 => (if q9 = (0 : Int32) then (some (0 : Int32)) else (some (1 : Int32)))) else (if S[w3]? = some (.inl 8) then (f_H_shows_L39_2 S Rf a1 w3 I L) else none))) else (if S[w3]? = some (.inl 4) then (f_H_shows_L39 S Rf a1 w3 I L) else (if S[w3]? = some (.inl 1) then (f_H_shows_L39_3 S Rf a1 w3 I L) else (if S[w3]? = some (.inl 8) then (f_H_shows_L39_2 S Rf a1 w3 I L) else none))))))
set_option maxRecDepth 100000 in
set_option maxHeartbeats 4000000 in
theorem c_H_shows {G : xG} {S : List xSh} {Rf : Nat → Nat → Option Nat} (hT : xTH S Rf) {a0 : Int32} {a1 : Int32} {I : Nat → Nat → Int32} {L : Nat → Nat → Int64} {q : Int32} (hf : f_H_shows S Rf a0 a1 I L = some q) : CT G 3 m_H_shows [.ref (xP G 0), .int a0, .int a1] (S, I, L, Rf) (some (.int q), (S, I, L, Rf)) := by
  refine CT.of (by decide +kernel) (Nat.le_of_ble_eq_true rfl) ?_
  show X G 3 m_H_shows 0 [(0, .ref (xP G 0)), (1, .int a0), (2, .int a1)] [] (S, I, L, Rf) (some (.int q), (S, I, L, Rf))
  replace hf := (f_H_shows.eq_1 _ _ _ _ _ _).symm.trans hf
  refine X_aload_n (pc := 0) (i := 0) 0 dX11_shows_0 rfl rfl ?_
  refine X_iload_n (pc := 1) (i := 1) 1 dX11_shows_1 rfl rfl ?_
  obtain ⟨q1, c2, hf⟩ := bd_some hf
  rcases oc_cases hf with ⟨hr4, hf⟩ | ⟨w3, hr4, hf⟩
  · rw [hr4] at c2
    refine X_invV_aN (pc := 2) (c_H_workAt hT c2) ok_H_workAt (ci := 10) (sh_0 hT) k_872 k_874 k_19 nd_24 (by decide) rfl (Nat.le_of_ble_eq_true rfl) dX11_shows_2 ?_
    refine X_astore_nN (pc := 5) (i := 3) [(3, .null), (0, .ref (xP G 0)), (1, .int a0), (2, .int a1)] dX11_shows_5 rfl (by decide) rfl ?_
    refine X_aload_nN (pc := 6) (i := 3) 0 dX11_shows_6 rfl rfl ?_
    refine X_ifnonnull_f (pc := 7) dX11_shows_7 ?_
    refine X_iconst (pc := 10) (-1 : Int32) dX11_shows_10 (by decide) ?_
    cases hf
    exact X_ireturn (pc := 11) rfl dX11_shows_11
  · rw [hr4] at c2
    refine X_invV_aS (pc := 2) (c_H_workAt hT c2) ok_H_workAt (ci := 10) (sh_0 hT) k_872 k_874 k_19 nd_24 (by decide) rfl (Nat.le_of_ble_eq_true rfl) dX11_shows_2 ?_
    refine X_astore_n (pc := 5) (i := 3) [(3, .ref (xP G w3)), (0, .ref (xP G 0)), (1, .int a0), (2, .int a1)] dX11_shows_5 rfl (by decide) rfl ?_
    refine X_aload_n (pc := 6) (i := 3) 0 dX11_shows_6 rfl rfl ?_
    refine X_ifnonnull_t (pc := 7) 12 dX11_shows_7 (by decide) ?_
    refine X_iload_n (pc := 12) (i := 2) 3 dX11_shows_12 rfl rfl ?_
    refine X_bipush (pc := 13) (8 : Int32) dX11_shows_13 (by decide) ?_
    by_cases c5 : a1 = (8 : Int32)
    · replace hf := (if_pos c5).symm.trans hf
      refine X_icmp_ne_f (pc := 15) 39 dX11_shows_15 (by decide) c5 ?_
      refine X_aload_n (pc := 18) (i := 3) 0 dX11_shows_18 rfl rfl ?_
      by_cases hs6 : S[w3]? = some (.inl 4)
      · replace hf := (if_pos hs6).symm.trans hf
        refine X_instNo (pc := 19) (ci := 4) hs6 k_237 (by decide) dX11_shows_19 ?_
        refine X_if_eq_t (pc := 22) 39 dX11_shows_22 (by decide) (by decide) ?_
        exact X_lvs [3, 0] rfl (x_H_shows_L39 hT hs6 hf)
      · replace hf := (if_neg hs6).symm.trans hf
        by_cases hs8 : S[w3]? = some (.inl 1)
        · replace hf := (if_pos hs8).symm.trans hf
          refine X_instYes (pc := 19) (ci := 1) hs8 k_237 dX11_shows_19 ?_
          refine X_if_eq_f (pc := 22) 39 dX11_shows_22 (by decide) (by decide) ?_
          refine X_aload_n (pc := 25) (i := 0) 1 dX11_shows_25 rfl rfl ?_
          refine X_aload_n (pc := 26) (i := 3) 0 dX11_shows_26 rfl rfl ?_
          obtain ⟨q9, c10, hf⟩ := bd_some hf
          refine X_invV_i (pc := 27) (c_H_isBarred_C hT hs8 c10) ok_H_isBarred (ci := 10) (sh_0 hT) k_890 k_892 k_20 nd_26 (by decide) rfl (Nat.le_of_ble_eq_true rfl) dX11_shows_27 ?_
          by_cases c11 : q9 = (0 : Int32)
          · replace hf := (if_pos c11).symm.trans hf
            refine X_if_eq_t (pc := 30) 37 dX11_shows_30 (by decide) c11 ?_
            refine X_iconst (pc := 37) (0 : Int32) dX11_shows_37 (by decide) ?_
            cases hf
            exact X_ireturn (pc := 38) rfl dX11_shows_38
          · replace hf := (if_neg c11).symm.trans hf
            refine X_if_eq_f (pc := 30) 37 dX11_shows_30 (by decide) c11 ?_
            refine X_iconst (pc := 33) (1 : Int32) dX11_shows_33 (by decide) ?_
            refine X_goto (pc := 34) 38 dX11_shows_34 (by decide) ?_
            cases hf
            exact X_ireturn (pc := 38) rfl dX11_shows_38
        · replace hf := (if_neg hs8).symm.trans hf
          obtain ⟨hs12, hf⟩ := gd_some hf
          refine X_instNo (pc := 19) (ci := 8) hs12 k_237 (by decide) dX11_shows_19 ?_
          refine X_if_eq_t (pc := 22) 39 dX11_shows_22 (by decide) (by decide) ?_
          exact X_lvs [3, 0] rfl (x_H_shows_L39_2 hT hs12 hf)
    · replace hf := (if_neg c5).symm.trans hf
      refine X_icmp_ne_t (pc := 15) 39 dX11_shows_15 (by decide) c5 ?_
      by_cases hs14 : S[w3]? = some (.inl 4)
      · replace hf := (if_pos hs14).symm.trans hf
        exact X_lvs [3, 0] rfl (x_H_shows_L39 hT hs14 hf)
      · replace hf := (if_neg hs14).symm.trans hf
        by_cases hs15 : S[w3]? = some (.inl 1)
        · replace hf := (if_pos hs15).symm.trans hf
          exact X_lvs [3, 0] rfl (x_H_shows_L39_3 hT hs15 hf)
        · replace hf := (if_neg hs15).symm.trans hf
          obtain ⟨hs17, hf⟩ := gd_some hf
          exact X_lvs [3, 0] rfl (x_H_shows_L39_2 hT hs17 hf)
def f_Ro_has_13 (a0 : Int32) (a1 : Int32) (I : Nat → Nat → Int32) (L : Nat → Nat → Int64) : Int32 := (if a0 < (0 : Int32) then (0 : Int32) else (if (I 13 1) ≤ a0 then (0 : Int32) else (if (I 13 3) ≤ a0 then (0 : Int32) else (if a1 < (0 : Int32) then (0 : Int32) else (if (I 13 0) ≤ a1 then (0 : Int32) else (1 : Int32))))))
set_option maxRecDepth 100000 in
set_option maxHeartbeats 4000000 in
theorem c_Ro_has_13 {G : xG} {S : List xSh} {Rf : Nat → Nat → Option Nat} (hT : xTH S Rf) {a0 : Int32} {a1 : Int32} {I : Nat → Nat → Int32} {L : Nat → Nat → Int64} {q : Int32} (hf : f_Ro_has_13 a0 a1 I L = q) : CT G 1 m_Ro_has [.ref (xP G 13), .int a0, .int a1] (S, I, L, Rf) (some (.int q), (S, I, L, Rf)) := by
  refine CT.of (by decide +kernel) (Nat.le_of_ble_eq_true rfl) ?_
  show X G 1 m_Ro_has 0 [(0, .ref (xP G 13)), (1, .int a0), (2, .int a1)] [] (S, I, L, Rf) (some (.int q), (S, I, L, Rf))
  replace hf := (f_Ro_has_13.eq_1 _ _ _ _).symm.trans hf
  refine X_iload_n (pc := 0) (i := 1) 1 dX7_has_0 rfl rfl ?_
  by_cases c1 : a0 < (0 : Int32)
  · replace hf := (if_pos c1).symm.trans hf
    refine X_if_lt_t (pc := 1) 36 dX7_has_1 (by decide) c1 ?_
    refine X_iconst (pc := 36) (0 : Int32) dX7_has_36 (by decide) ?_
    subst hf
    exact X_zreturn (pc := 37) rfl (nar_b (by decide)) dX7_has_37
  · replace hf := (if_neg c1).symm.trans hf
    refine X_if_lt_f (pc := 1) 36 dX7_has_1 (by decide) c1 ?_
    refine X_iload_n (pc := 4) (i := 1) 1 dX7_has_4 rfl rfl ?_
    refine X_aload_n (pc := 5) (i := 0) 0 dX7_has_5 rfl rfl ?_
    refine X_get (pc := 6) (a := 13) (ci := 7) (j := 1) (.int (I 13 1)) (sh_13 hT) (by decide) k_159 rfl dX7_has_6 ?_
    by_cases c2 : (I 13 1) ≤ a0
    · replace hf := (if_pos c2).symm.trans hf
      refine X_icmp_ge_t (pc := 9) 36 dX7_has_9 (by decide) c2 ?_
      refine X_iconst (pc := 36) (0 : Int32) dX7_has_36 (by decide) ?_
      subst hf
      exact X_zreturn (pc := 37) rfl (nar_b (by decide)) dX7_has_37
    · replace hf := (if_neg c2).symm.trans hf
      refine X_icmp_ge_f (pc := 9) 36 dX7_has_9 (by decide) c2 ?_
      refine X_iload_n (pc := 12) (i := 1) 1 dX7_has_12 rfl rfl ?_
      refine X_aload_n (pc := 13) (i := 0) 0 dX7_has_13 rfl rfl ?_
      refine X_get (pc := 14) (a := 13) (ci := 7) (j := 3) (.int (I 13 3)) (sh_13 hT) (by decide) k_161 rfl dX7_has_14 ?_
      by_cases c3 : (I 13 3) ≤ a0
      · replace hf := (if_pos c3).symm.trans hf
        refine X_icmp_ge_t (pc := 17) 36 dX7_has_17 (by decide) c3 ?_
        refine X_iconst (pc := 36) (0 : Int32) dX7_has_36 (by decide) ?_
        subst hf
        exact X_zreturn (pc := 37) rfl (nar_b (by decide)) dX7_has_37
      · replace hf := (if_neg c3).symm.trans hf
        refine X_icmp_ge_f (pc := 17) 36 dX7_has_17 (by decide) c3 ?_
        refine X_iload_n (pc := 20) (i := 2) 2 dX7_has_20 rfl rfl ?_
        by_cases c4 : a1 < (0 : Int32)
        · replace hf := (if_pos c4).symm.trans hf
          refine X_if_lt_t (pc := 21) 36 dX7_has_21 (by decide) c4 ?_
          refine X_iconst (pc := 36) (0 : Int32) dX7_has_36 (by decide) ?_
          subst hf
          exact X_zreturn (pc := 37) rfl (nar_b (by decide)) dX7_has_37
        · replace hf := (if_neg c4).symm.trans hf
          refine X_if_lt_f (pc := 21) 36 dX7_has_21 (by decide) c4 ?_
          refine X_iload_n (pc := 24) (i := 2) 2 dX7_has_24 rfl rfl ?_
          refine X_aload_n (pc := 25) (i := 0) 0 dX7_has_25 rfl rfl ?_
          refine X_get (pc := 26) (a := 13) (ci := 7) (j := 0) (.int (I 13 0)) (sh_13 hT) (by decide) k_158 rfl dX7_has_26 ?_
          by_cases c5 : (I 13 0) ≤ a1
          · replace hf := (if_pos c5).symm.trans hf
            refine X_icmp_ge_t (pc := 29) 36 dX7_has_29 (by decide) c5 ?_
            refine X_iconst (pc := 36) (0 : Int32) dX7_has_36 (by decide) ?_
            subst hf
            exact X_zreturn (pc := 37) rfl (nar_b (by decide)) dX7_has_37
          · replace hf := (if_neg c5).symm.trans hf
            refine X_icmp_ge_f (pc := 29) 36 dX7_has_29 (by decide) c5 ?_
            refine X_iconst (pc := 32) (1 : Int32) dX7_has_32 (by decide) ?_
            refine X_goto (pc := 33) 37 dX7_has_33 (by decide) ?_
            subst hf
            exact X_zreturn (pc := 37) rfl (nar_b (by decide)) dX7_has_37
def f_Ro_at_13 (a0 : Int32) (a1 : Int32) (I : Nat → Nat → Int32) (L : Nat → Nat → Int64) : Option Int32 := (if (f_Ro_has_13 a0 a1 I L) = (0 : Int32) then (some (-1 : Int32)) else (if (0 ≤ ((a0 * (I 13 0)) + a1) ∧ ((a0 * (I 13 0)) + a1) < (3000 : Int32)) then (some (I 14 (((a0 * (I 13 0)) + a1).toNatClampNeg))) else none))
set_option maxRecDepth 100000 in
set_option maxHeartbeats 4000000 in
theorem c_Ro_at_13 {G : xG} {S : List xSh} {Rf : Nat → Nat → Option Nat} (hT : xTH S Rf) {a0 : Int32} {a1 : Int32} {I : Nat → Nat → Int32} {L : Nat → Nat → Int64} {q : Int32} (hf : f_Ro_at_13 a0 a1 I L = some q) : CT G 2 m_Ro_at [.ref (xP G 13), .int a0, .int a1] (S, I, L, Rf) (some (.int q), (S, I, L, Rf)) := by
  refine CT.of (by decide +kernel) (Nat.le_of_ble_eq_true rfl) ?_
  show X G 2 m_Ro_at 0 [(0, .ref (xP G 13)), (1, .int a0), (2, .int a1)] [] (S, I, L, Rf) (some (.int q), (S, I, L, Rf))
  replace hf := (f_Ro_at_13.eq_1 _ _ _ _).symm.trans hf
  refine X_aload_n (pc := 0) (i := 0) 0 dX7_at_0 rfl rfl ?_
  refine X_iload_n (pc := 1) (i := 1) 1 dX7_at_1 rfl rfl ?_
  refine X_iload_n (pc := 2) (i := 2) 2 dX7_at_2 rfl rfl ?_
  refine X_invV_i (pc := 3) (c_Ro_has_13 hT rfl) ok_Ro_has (ci := 7) (sh_13 hT) k_942 k_943 k_944 nd_25 (by decide) rfl (Nat.le_of_ble_eq_true rfl) dX7_at_3 ?_
  by_cases c1 : (f_Ro_has_13 a0 a1 I L) = (0 : Int32)
  · replace hf := (if_pos c1).symm.trans hf
    refine X_if_eq_t (pc := 6) 25 dX7_at_6 (by decide) c1 ?_
    refine X_iconst (pc := 25) (-1 : Int32) dX7_at_25 (by decide) ?_
    cases hf
    exact X_ireturn (pc := 26) rfl dX7_at_26
  · replace hf := (if_neg c1).symm.trans hf
    refine X_if_eq_f (pc := 6) 25 dX7_at_6 (by decide) c1 ?_
    refine X_aload_n (pc := 9) (i := 0) 0 dX7_at_9 rfl rfl ?_
    refine X_getr (pc := 10) (a := 13) (ci := 7) (j := 2) (c := 14) (sh_13 hT) (by decide) k_160 (rf_13_2 hT) (fun _ h => h) dX7_at_10 ?_
    refine X_iload_n (pc := 13) (i := 1) 1 dX7_at_13 rfl rfl ?_
    refine X_aload_n (pc := 14) (i := 0) 0 dX7_at_14 rfl rfl ?_
    refine X_get (pc := 15) (a := 13) (ci := 7) (j := 0) (.int (I 13 0)) (sh_13 hT) (by decide) k_158 rfl dX7_at_15 ?_
    refine X_imul (pc := 18) dX7_at_18 ?_
    refine X_iload_n (pc := 19) (i := 2) 2 dX7_at_19 rfl rfl ?_
    refine X_iadd (pc := 20) dX7_at_20 ?_
    obtain ⟨c2, hf⟩ := gd_some hf
    refine X_ialdj (pc := 21) (j := ((a0 * (I 13 0)) + a1).toNatClampNeg) (I 14 (((a0 * (I 13 0)) + a1).toNatClampNeg)) (sh_14 hT) (vp_in_lit (N := 3000) c2 (by decide)) rfl rfl dX7_at_21 ?_
    refine X_goto (pc := 22) 26 dX7_at_22 (by decide) ?_
    cases hf
    exact X_ireturn (pc := 26) rfl dX7_at_26
theorem dX11_struck_0 : decode cX11_struck 0 = .ok (.aload_n 0, 1) := by decide +kernel
theorem dX11_struck_1 : decode cX11_struck 1 = .ok (.getfield 56, 3) := by decide +kernel
theorem dX11_struck_4 : decode cX11_struck 4 = .ok (.iload_n 1, 1) := by decide +kernel
theorem dX11_struck_5 : decode cX11_struck 5 = .ok (.iload_n 2, 1) := by decide +kernel
theorem dX11_struck_6 : decode cX11_struck 6 = .ok (.invokevirtual 264, 3) := by decide +kernel
theorem dX11_struck_9 : decode cX11_struck 9 = .ok (.ifCond .eq 15, 3) := by decide +kernel
theorem dX11_struck_12 : decode cX11_struck 12 = .ok (.aload_n 0, 1) := by decide +kernel
theorem dX11_struck_13 : decode cX11_struck 13 = .ok (.getfield 56, 3) := by decide +kernel
theorem dX11_struck_16 : decode cX11_struck 16 = .ok (.iload_n 1, 1) := by decide +kernel
theorem dX11_struck_17 : decode cX11_struck 17 = .ok (.iload_n 2, 1) := by decide +kernel
theorem dX11_struck_18 : decode cX11_struck 18 = .ok (.invokevirtual 267, 3) := by decide +kernel
theorem dX11_struck_21 : decode cX11_struck 21 = .ok (.goto 4, 3) := by decide +kernel
theorem dX11_struck_24 : decode cX11_struck 24 = .ok (.iconst (-1), 1) := by decide +kernel
theorem dX11_struck_25 : decode cX11_struck 25 = .ok (.ireturn, 1) := by decide +kernel
def f_H_struck (a0 : Int32) (a1 : Int32) (I : Nat → Nat → Int32) (L : Nat → Nat → Int64) : Option Int32 := (if (f_Ro_has_13 a0 a1 I L) = (0 : Int32) then (some (-1 : Int32)) else ((f_Ro_at_13 a0 a1 I L).bind fun q2 => (some q2)))
set_option maxRecDepth 100000 in
set_option maxHeartbeats 4000000 in
theorem c_H_struck {G : xG} {S : List xSh} {Rf : Nat → Nat → Option Nat} (hT : xTH S Rf) {a0 : Int32} {a1 : Int32} {I : Nat → Nat → Int32} {L : Nat → Nat → Int64} {q : Int32} (hf : f_H_struck a0 a1 I L = some q) : CT G 3 m_H_struck [.ref (xP G 0), .int a0, .int a1] (S, I, L, Rf) (some (.int q), (S, I, L, Rf)) := by
  refine CT.of (by decide +kernel) (Nat.le_of_ble_eq_true rfl) ?_
  show X G 3 m_H_struck 0 [(0, .ref (xP G 0)), (1, .int a0), (2, .int a1)] [] (S, I, L, Rf) (some (.int q), (S, I, L, Rf))
  replace hf := (f_H_struck.eq_1 _ _ _ _).symm.trans hf
  refine X_aload_n (pc := 0) (i := 0) 0 dX11_struck_0 rfl rfl ?_
  refine X_getr (pc := 1) (a := 0) (ci := 10) (j := 7) (c := 13) (sh_0 hT) (by decide) k_501 (rf_0_4 hT) (fun _ h => h) dX11_struck_1 ?_
  refine X_iload_n (pc := 4) (i := 1) 1 dX11_struck_4 rfl rfl ?_
  refine X_iload_n (pc := 5) (i := 2) 2 dX11_struck_5 rfl rfl ?_
  refine X_invV_i (pc := 6) (c_Ro_has_13 hT rfl) ok_Ro_has (ci := 7) (sh_13 hT) k_965 k_943 k_944 nd_25 (by decide) rfl (Nat.le_of_ble_eq_true rfl) dX11_struck_6 ?_
  by_cases c1 : (f_Ro_has_13 a0 a1 I L) = (0 : Int32)
  · replace hf := (if_pos c1).symm.trans hf
    refine X_if_eq_t (pc := 9) 24 dX11_struck_9 (by decide) c1 ?_
    refine X_iconst (pc := 24) (-1 : Int32) dX11_struck_24 (by decide) ?_
    cases hf
    exact X_ireturn (pc := 25) rfl dX11_struck_25
  · replace hf := (if_neg c1).symm.trans hf
    refine X_if_eq_f (pc := 9) 24 dX11_struck_9 (by decide) c1 ?_
    refine X_aload_n (pc := 12) (i := 0) 0 dX11_struck_12 rfl rfl ?_
    refine X_getr (pc := 13) (a := 0) (ci := 10) (j := 7) (c := 13) (sh_0 hT) (by decide) k_501 (rf_0_4 hT) (fun _ h => h) dX11_struck_13 ?_
    refine X_iload_n (pc := 16) (i := 1) 1 dX11_struck_16 rfl rfl ?_
    refine X_iload_n (pc := 17) (i := 2) 2 dX11_struck_17 rfl rfl ?_
    obtain ⟨q2, c3, hf⟩ := bd_some hf
    refine X_invV_i (pc := 18) (c_Ro_at_13 hT c3) ok_Ro_at (ci := 7) (sh_13 hT) k_938 k_939 k_940 nd_21 (by decide) rfl (Nat.le_of_ble_eq_true rfl) dX11_struck_18 ?_
    refine X_goto (pc := 21) 25 dX11_struck_21 (by decide) ?_
    cases hf
    exact X_ireturn (pc := 25) rfl dX11_struck_25
theorem dX11_hand_0 : decode cX11_hand 0 = .ok (.aload_n 0, 1) := by decide +kernel
theorem dX11_hand_1 : decode cX11_hand 1 = .ok (.iload_n 1, 1) := by decide +kernel
theorem dX11_hand_2 : decode cX11_hand 2 = .ok (.invokevirtual 190, 3) := by decide +kernel
theorem dX11_hand_5 : decode cX11_hand 5 = .ok (.astore_n 3, 1) := by decide +kernel
theorem dX11_hand_6 : decode cX11_hand 6 = .ok (.aload_n 3, 1) := by decide +kernel
theorem dX11_hand_7 : decode cX11_hand 7 = .ok (.ifnonnull 5, 3) := by decide +kernel
theorem dX11_hand_10 : decode cX11_hand 10 = .ok (.iconst (-1), 1) := by decide +kernel
theorem dX11_hand_11 : decode cX11_hand 11 = .ok (.ireturn, 1) := by decide +kernel
theorem dX11_hand_12 : decode cX11_hand 12 = .ok (.iload_n 2, 1) := by decide +kernel
theorem dX11_hand_13 : decode cX11_hand 13 = .ok (.tableswitch 59 0 3 #[31, 36, 41, 46], 31) := by decide +kernel
theorem dX11_hand_44 : decode cX11_hand 44 = .ok (.aload_n 3, 1) := by decide +kernel
theorem dX11_hand_45 : decode cX11_hand 45 = .ok (.getfield 277, 3) := by decide +kernel
theorem dX11_hand_48 : decode cX11_hand 48 = .ok (.ireturn, 1) := by decide +kernel
theorem dX11_hand_49 : decode cX11_hand 49 = .ok (.aload_n 3, 1) := by decide +kernel
theorem dX11_hand_50 : decode cX11_hand 50 = .ok (.getfield 280, 3) := by decide +kernel
theorem dX11_hand_53 : decode cX11_hand 53 = .ok (.ireturn, 1) := by decide +kernel
theorem dX11_hand_54 : decode cX11_hand 54 = .ok (.aload_n 3, 1) := by decide +kernel
theorem dX11_hand_55 : decode cX11_hand 55 = .ok (.getfield 283, 3) := by decide +kernel
theorem dX11_hand_58 : decode cX11_hand 58 = .ok (.ireturn, 1) := by decide +kernel
theorem dX11_hand_59 : decode cX11_hand 59 = .ok (.aload_n 3, 1) := by decide +kernel
theorem dX11_hand_60 : decode cX11_hand 60 = .ok (.getfield 286, 3) := by decide +kernel
theorem dX11_hand_63 : decode cX11_hand 63 = .ok (.ifCond .eq 7, 3) := by decide +kernel
theorem dX11_hand_66 : decode cX11_hand 66 = .ok (.iconst 1, 1) := by decide +kernel
theorem dX11_hand_67 : decode cX11_hand 67 = .ok (.goto 4, 3) := by decide +kernel
theorem dX11_hand_70 : decode cX11_hand 70 = .ok (.iconst 0, 1) := by decide +kernel
theorem dX11_hand_71 : decode cX11_hand 71 = .ok (.ireturn, 1) := by decide +kernel
theorem dX11_hand_72 : decode cX11_hand 72 = .ok (.iconst (-1), 1) := by decide +kernel
theorem dX11_hand_73 : decode cX11_hand 73 = .ok (.ireturn, 1) := by decide +kernel
def f_H_hand (S : List xSh) (Rf : Nat → Nat → Option Nat) (a0 : Int32) (a1 : Int32) (I : Nat → Nat → Int32) (L : Nat → Nat → Int64) : Option Int32 := ((f_H_chronographAt S Rf a0 I L).bind fun q1 => (oc q1 (some (-1 : Int32)) fun w3 => (if S[w3]? = some (.inl 3) then (if a1 = (0 : Int32) then (some (I w3 1)) else (if a1 = (1 : Int32) then (some (I w3 2)) else (if a1 = (2 : Int32) then (some (I w3 3)) else (if a1 = (3 : Int32) then (if (I w3 4) = (0 : Int32) then (some (0 : Int32)) else (some (1 : Int32))) else (some (-1 : Int32)))))) else none)))
set_option maxRecDepth 100000 in
set_option maxHeartbeats 4000000 in
theorem c_H_hand {G : xG} {S : List xSh} {Rf : Nat → Nat → Option Nat} (hT : xTH S Rf) {a0 : Int32} {a1 : Int32} {I : Nat → Nat → Int32} {L : Nat → Nat → Int64} {q : Int32} (hf : f_H_hand S Rf a0 a1 I L = some q) : CT G 3 m_H_hand [.ref (xP G 0), .int a0, .int a1] (S, I, L, Rf) (some (.int q), (S, I, L, Rf)) := by
  refine CT.of (by decide +kernel) (Nat.le_of_ble_eq_true rfl) ?_
  show X G 3 m_H_hand 0 [(0, .ref (xP G 0)), (1, .int a0), (2, .int a1)] [] (S, I, L, Rf) (some (.int q), (S, I, L, Rf))
  replace hf := (f_H_hand.eq_1 _ _ _ _ _ _).symm.trans hf
  refine X_aload_n (pc := 0) (i := 0) 0 dX11_hand_0 rfl rfl ?_
  refine X_iload_n (pc := 1) (i := 1) 1 dX11_hand_1 rfl rfl ?_
  obtain ⟨q1, c2, hf⟩ := bd_some hf
  rcases oc_cases hf with ⟨hr4, hf⟩ | ⟨w3, hr4, hf⟩
  · rw [hr4] at c2
    refine X_invV_aN (pc := 2) (c_H_chronographAt hT c2) ok_H_chronographAt (ci := 10) (sh_0 hT) k_856 k_858 k_18 nd_23 (by decide) rfl (Nat.le_of_ble_eq_true rfl) dX11_hand_2 ?_
    refine X_astore_nN (pc := 5) (i := 3) [(3, .null), (0, .ref (xP G 0)), (1, .int a0), (2, .int a1)] dX11_hand_5 rfl (by decide) rfl ?_
    refine X_aload_nN (pc := 6) (i := 3) 0 dX11_hand_6 rfl rfl ?_
    refine X_ifnonnull_f (pc := 7) dX11_hand_7 ?_
    refine X_iconst (pc := 10) (-1 : Int32) dX11_hand_10 (by decide) ?_
    cases hf
    exact X_ireturn (pc := 11) rfl dX11_hand_11
  · obtain ⟨hs5, hf⟩ := gd_some hf
    rw [hr4] at c2
    refine X_invV_aS (pc := 2) (c_H_chronographAt hT c2) ok_H_chronographAt (ci := 10) (sh_0 hT) k_856 k_858 k_18 nd_23 (by decide) rfl (Nat.le_of_ble_eq_true rfl) dX11_hand_2 ?_
    refine X_astore_n (pc := 5) (i := 3) [(3, .ref (xP G w3)), (0, .ref (xP G 0)), (1, .int a0), (2, .int a1)] dX11_hand_5 rfl (by decide) rfl ?_
    refine X_aload_n (pc := 6) (i := 3) 0 dX11_hand_6 rfl rfl ?_
    refine X_ifnonnull_t (pc := 7) 12 dX11_hand_7 (by decide) ?_
    refine X_iload_n (pc := 12) (i := 2) 3 dX11_hand_12 rfl rfl ?_
    by_cases c6 : a1 = (0 : Int32)
    · replace hf := (if_pos c6).symm.trans hf
      refine X_tabIn (pc := 13) (off := 31) (0) 44 dX11_hand_13 (by rw [c6]; rfl) (by decide) ?_
      refine X_aload_n (pc := 44) (i := 3) 0 dX11_hand_44 rfl rfl ?_
      refine X_get (pc := 45) (a := w3) (ci := 3) (j := 1) (.int (I w3 1)) hs5 (by decide) k_445 rfl dX11_hand_45 ?_
      cases hf
      exact X_ireturn (pc := 48) rfl dX11_hand_48
    · replace hf := (if_neg c6).symm.trans hf
      by_cases c7 : a1 = (1 : Int32)
      · replace hf := (if_pos c7).symm.trans hf
        refine X_tabIn (pc := 13) (off := 36) (1) 49 dX11_hand_13 (by rw [c7]; rfl) (by decide) ?_
        refine X_aload_n (pc := 49) (i := 3) 0 dX11_hand_49 rfl rfl ?_
        refine X_get (pc := 50) (a := w3) (ci := 3) (j := 2) (.int (I w3 2)) hs5 (by decide) k_447 rfl dX11_hand_50 ?_
        cases hf
        exact X_ireturn (pc := 53) rfl dX11_hand_53
      · replace hf := (if_neg c7).symm.trans hf
        by_cases c8 : a1 = (2 : Int32)
        · replace hf := (if_pos c8).symm.trans hf
          refine X_tabIn (pc := 13) (off := 41) (2) 54 dX11_hand_13 (by rw [c8]; rfl) (by decide) ?_
          refine X_aload_n (pc := 54) (i := 3) 0 dX11_hand_54 rfl rfl ?_
          refine X_get (pc := 55) (a := w3) (ci := 3) (j := 3) (.int (I w3 3)) hs5 (by decide) k_449 rfl dX11_hand_55 ?_
          cases hf
          exact X_ireturn (pc := 58) rfl dX11_hand_58
        · replace hf := (if_neg c8).symm.trans hf
          by_cases c9 : a1 = (3 : Int32)
          · replace hf := (if_pos c9).symm.trans hf
            refine X_tabIn (pc := 13) (off := 46) (3) 59 dX11_hand_13 (by rw [c9]; rfl) (by decide) ?_
            refine X_aload_n (pc := 59) (i := 3) 0 dX11_hand_59 rfl rfl ?_
            refine X_get (pc := 60) (a := w3) (ci := 3) (j := 4) (.int (I w3 4)) hs5 (by decide) k_451 rfl dX11_hand_60 ?_
            by_cases c10 : (I w3 4) = (0 : Int32)
            · replace hf := (if_pos c10).symm.trans hf
              refine X_if_eq_t (pc := 63) 70 dX11_hand_63 (by decide) c10 ?_
              refine X_iconst (pc := 70) (0 : Int32) dX11_hand_70 (by decide) ?_
              cases hf
              exact X_ireturn (pc := 71) rfl dX11_hand_71
            · replace hf := (if_neg c10).symm.trans hf
              refine X_if_eq_f (pc := 63) 70 dX11_hand_63 (by decide) c10 ?_
              refine X_iconst (pc := 66) (1 : Int32) dX11_hand_66 (by decide) ?_
              refine X_goto (pc := 67) 71 dX11_hand_67 (by decide) ?_
              cases hf
              exact X_ireturn (pc := 71) rfl dX11_hand_71
          · replace hf := (if_neg c9).symm.trans hf
            refine X_tabOut (pc := 13) 72 dX11_hand_13 (by have zc6 := lv_neT (a := 0) c6 rfl; have zc7 := lv_neT (a := 1) c7 rfl; have zc8 := lv_neT (a := 2) c8 rfl; have zc9 := lv_neT (a := 3) c9 rfl; omega) (by decide) ?_
            refine X_iconst (pc := 72) (-1 : Int32) dX11_hand_72 (by decide) ?_
            cases hf
            exact X_ireturn (pc := 73) rfl dX11_hand_73
theorem dX11_count_0 : decode cX11_count 0 = .ok (.iload_n 1, 1) := by decide +kernel
theorem dX11_count_1 : decode cX11_count 1 = .ok (.tableswitch 98 0 6 #[43, 51, 59, 64, 69, 77, 85], 43) := by decide +kernel
theorem dX11_count_44 : decode cX11_count 44 = .ok (.aload_n 0, 1) := by decide +kernel
theorem dX11_count_45 : decode cX11_count 45 = .ok (.getfield 20, 3) := by decide +kernel
theorem dX11_count_48 : decode cX11_count 48 = .ok (.getfield 289, 3) := by decide +kernel
theorem dX11_count_51 : decode cX11_count 51 = .ok (.ireturn, 1) := by decide +kernel
theorem dX11_count_52 : decode cX11_count 52 = .ok (.aload_n 0, 1) := by decide +kernel
theorem dX11_count_53 : decode cX11_count 53 = .ok (.getfield 20, 3) := by decide +kernel
theorem dX11_count_56 : decode cX11_count 56 = .ok (.getfield 292, 3) := by decide +kernel
theorem dX11_count_59 : decode cX11_count 59 = .ok (.ireturn, 1) := by decide +kernel
theorem dX11_count_60 : decode cX11_count 60 = .ok (.aload_n 0, 1) := by decide +kernel
theorem dX11_count_61 : decode cX11_count 61 = .ok (.getfield 137, 3) := by decide +kernel
theorem dX11_count_64 : decode cX11_count 64 = .ok (.ireturn, 1) := by decide +kernel
theorem dX11_count_65 : decode cX11_count 65 = .ok (.aload_n 0, 1) := by decide +kernel
theorem dX11_count_66 : decode cX11_count 66 = .ok (.getfield 154, 3) := by decide +kernel
theorem dX11_count_69 : decode cX11_count 69 = .ok (.ireturn, 1) := by decide +kernel
theorem dX11_count_70 : decode cX11_count 70 = .ok (.aload_n 0, 1) := by decide +kernel
theorem dX11_count_71 : decode cX11_count 71 = .ok (.getfield 60, 3) := by decide +kernel
theorem dX11_count_74 : decode cX11_count 74 = .ok (.getfield 95, 3) := by decide +kernel
theorem dX11_count_77 : decode cX11_count 77 = .ok (.ireturn, 1) := by decide +kernel
theorem dX11_count_78 : decode cX11_count 78 = .ok (.aload_n 0, 1) := by decide +kernel
theorem dX11_count_79 : decode cX11_count 79 = .ok (.getfield 56, 3) := by decide +kernel
theorem dX11_count_82 : decode cX11_count 82 = .ok (.getfield 95, 3) := by decide +kernel
theorem dX11_count_85 : decode cX11_count 85 = .ok (.ireturn, 1) := by decide +kernel
theorem dX11_count_86 : decode cX11_count 86 = .ok (.aload_n 0, 1) := by decide +kernel
theorem dX11_count_87 : decode cX11_count 87 = .ok (.getfield 99, 3) := by decide +kernel
theorem dX11_count_90 : decode cX11_count 90 = .ok (.ifCond .eq 7, 3) := by decide +kernel
theorem dX11_count_93 : decode cX11_count 93 = .ok (.iconst 1, 1) := by decide +kernel
theorem dX11_count_94 : decode cX11_count 94 = .ok (.goto 4, 3) := by decide +kernel
theorem dX11_count_97 : decode cX11_count 97 = .ok (.iconst 0, 1) := by decide +kernel
theorem dX11_count_98 : decode cX11_count 98 = .ok (.ireturn, 1) := by decide +kernel
theorem dX11_count_99 : decode cX11_count 99 = .ok (.iconst (-1), 1) := by decide +kernel
theorem dX11_count_100 : decode cX11_count 100 = .ok (.ireturn, 1) := by decide +kernel
def f_H_count (a0 : Int32) (I : Nat → Nat → Int32) (L : Nat → Nat → Int64) : Int32 := (if a0 = (0 : Int32) then (I 2 0) else (if a0 = (1 : Int32) then (I 2 1) else (if a0 = (2 : Int32) then (I 0 6) else (if a0 = (3 : Int32) then (I 0 7) else (if a0 = (4 : Int32) then (I 15 3) else (if a0 = (5 : Int32) then (I 13 3) else (if a0 = (6 : Int32) then (if (I 0 8) = (0 : Int32) then (0 : Int32) else (1 : Int32)) else (-1 : Int32))))))))
set_option maxRecDepth 100000 in
set_option maxHeartbeats 4000000 in
theorem c_H_count {G : xG} {S : List xSh} {Rf : Nat → Nat → Option Nat} (hT : xTH S Rf) {a0 : Int32} {I : Nat → Nat → Int32} {L : Nat → Nat → Int64} {q : Int32} (hf : f_H_count a0 I L = q) : CT G 1 m_H_count [.ref (xP G 0), .int a0] (S, I, L, Rf) (some (.int q), (S, I, L, Rf)) := by
  refine CT.of (by decide +kernel) (Nat.le_of_ble_eq_true rfl) ?_
  show X G 1 m_H_count 0 [(0, .ref (xP G 0)), (1, .int a0)] [] (S, I, L, Rf) (some (.int q), (S, I, L, Rf))
  replace hf := (f_H_count.eq_1 _ _ _).symm.trans hf
  refine X_iload_n (pc := 0) (i := 1) 1 dX11_count_0 rfl rfl ?_
  by_cases c1 : a0 = (0 : Int32)
  · replace hf := (if_pos c1).symm.trans hf
    refine X_tabIn (pc := 1) (off := 43) (0) 44 dX11_count_1 (by rw [c1]; rfl) (by decide) ?_
    refine X_aload_n (pc := 44) (i := 0) 0 dX11_count_44 rfl rfl ?_
    refine X_getr (pc := 45) (a := 0) (ci := 10) (j := 1) (c := 2) (sh_0 hT) (by decide) k_495 (rf_0_1 hT) (fun _ h => h) dX11_count_45 ?_
    refine X_get (pc := 48) (a := 2) (ci := 6) (j := 0) (.int (I 2 0)) (sh_2 hT) (by decide) k_108 rfl dX11_count_48 ?_
    subst hf
    exact X_ireturn (pc := 51) rfl dX11_count_51
  · replace hf := (if_neg c1).symm.trans hf
    by_cases c2 : a0 = (1 : Int32)
    · replace hf := (if_pos c2).symm.trans hf
      refine X_tabIn (pc := 1) (off := 51) (1) 52 dX11_count_1 (by rw [c2]; rfl) (by decide) ?_
      refine X_aload_n (pc := 52) (i := 0) 0 dX11_count_52 rfl rfl ?_
      refine X_getr (pc := 53) (a := 0) (ci := 10) (j := 1) (c := 2) (sh_0 hT) (by decide) k_495 (rf_0_1 hT) (fun _ h => h) dX11_count_53 ?_
      refine X_get (pc := 56) (a := 2) (ci := 6) (j := 1) (.int (I 2 1)) (sh_2 hT) (by decide) k_110 rfl dX11_count_56 ?_
      subst hf
      exact X_ireturn (pc := 59) rfl dX11_count_59
    · replace hf := (if_neg c2).symm.trans hf
      by_cases c3 : a0 = (2 : Int32)
      · replace hf := (if_pos c3).symm.trans hf
        refine X_tabIn (pc := 1) (off := 59) (2) 60 dX11_count_1 (by rw [c3]; rfl) (by decide) ?_
        refine X_aload_n (pc := 60) (i := 0) 0 dX11_count_60 rfl rfl ?_
        refine X_get (pc := 61) (a := 0) (ci := 10) (j := 9) (.int (I 0 6)) (sh_0 hT) (by decide) k_503 rfl dX11_count_61 ?_
        subst hf
        exact X_ireturn (pc := 64) rfl dX11_count_64
      · replace hf := (if_neg c3).symm.trans hf
        by_cases c4 : a0 = (3 : Int32)
        · replace hf := (if_pos c4).symm.trans hf
          refine X_tabIn (pc := 1) (off := 64) (3) 65 dX11_count_1 (by rw [c4]; rfl) (by decide) ?_
          refine X_aload_n (pc := 65) (i := 0) 0 dX11_count_65 rfl rfl ?_
          refine X_get (pc := 66) (a := 0) (ci := 10) (j := 10) (.int (I 0 7)) (sh_0 hT) (by decide) k_504 rfl dX11_count_66 ?_
          subst hf
          exact X_ireturn (pc := 69) rfl dX11_count_69
        · replace hf := (if_neg c4).symm.trans hf
          by_cases c5 : a0 = (4 : Int32)
          · replace hf := (if_pos c5).symm.trans hf
            refine X_tabIn (pc := 1) (off := 69) (4) 70 dX11_count_1 (by rw [c5]; rfl) (by decide) ?_
            refine X_aload_n (pc := 70) (i := 0) 0 dX11_count_70 rfl rfl ?_
            refine X_getr (pc := 71) (a := 0) (ci := 10) (j := 8) (c := 15) (sh_0 hT) (by decide) k_502 (rf_0_5 hT) (fun _ h => h) dX11_count_71 ?_
            refine X_get (pc := 74) (a := 15) (ci := 7) (j := 3) (.int (I 15 3)) (sh_15 hT) (by decide) k_162 rfl dX11_count_74 ?_
            subst hf
            exact X_ireturn (pc := 77) rfl dX11_count_77
          · replace hf := (if_neg c5).symm.trans hf
            by_cases c6 : a0 = (5 : Int32)
            · replace hf := (if_pos c6).symm.trans hf
              refine X_tabIn (pc := 1) (off := 77) (5) 78 dX11_count_1 (by rw [c6]; rfl) (by decide) ?_
              refine X_aload_n (pc := 78) (i := 0) 0 dX11_count_78 rfl rfl ?_
              refine X_getr (pc := 79) (a := 0) (ci := 10) (j := 7) (c := 13) (sh_0 hT) (by decide) k_501 (rf_0_4 hT) (fun _ h => h) dX11_count_79 ?_
              refine X_get (pc := 82) (a := 13) (ci := 7) (j := 3) (.int (I 13 3)) (sh_13 hT) (by decide) k_162 rfl dX11_count_82 ?_
              subst hf
              exact X_ireturn (pc := 85) rfl dX11_count_85
            · replace hf := (if_neg c6).symm.trans hf
              by_cases c7 : a0 = (6 : Int32)
              · replace hf := (if_pos c7).symm.trans hf
                refine X_tabIn (pc := 1) (off := 85) (6) 86 dX11_count_1 (by rw [c7]; rfl) (by decide) ?_
                refine X_aload_n (pc := 86) (i := 0) 0 dX11_count_86 rfl rfl ?_
                refine X_get (pc := 87) (a := 0) (ci := 10) (j := 11) (.int (I 0 8)) (sh_0 hT) (by decide) k_505 rfl dX11_count_87 ?_
                by_cases c8 : (I 0 8) = (0 : Int32)
                · replace hf := (if_pos c8).symm.trans hf
                  refine X_if_eq_t (pc := 90) 97 dX11_count_90 (by decide) c8 ?_
                  refine X_iconst (pc := 97) (0 : Int32) dX11_count_97 (by decide) ?_
                  subst hf
                  exact X_ireturn (pc := 98) rfl dX11_count_98
                · replace hf := (if_neg c8).symm.trans hf
                  refine X_if_eq_f (pc := 90) 97 dX11_count_90 (by decide) c8 ?_
                  refine X_iconst (pc := 93) (1 : Int32) dX11_count_93 (by decide) ?_
                  refine X_goto (pc := 94) 98 dX11_count_94 (by decide) ?_
                  subst hf
                  exact X_ireturn (pc := 98) rfl dX11_count_98
              · replace hf := (if_neg c7).symm.trans hf
                refine X_tabOut (pc := 1) 99 dX11_count_1 (by have zc1 := lv_neT (a := 0) c1 rfl; have zc2 := lv_neT (a := 1) c2 rfl; have zc3 := lv_neT (a := 2) c3 rfl; have zc4 := lv_neT (a := 3) c4 rfl; have zc5 := lv_neT (a := 4) c5 rfl; have zc6 := lv_neT (a := 5) c6 rfl; have zc7 := lv_neT (a := 6) c7 rfl; omega) (by decide) ?_
                refine X_iconst (pc := 99) (-1 : Int32) dX11_count_99 (by decide) ?_
                subst hf
                exact X_ireturn (pc := 100) rfl dX11_count_100
theorem dX9_setLimits_0 : decode cX9_setLimits 0 = .ok (.iload_n 1, 1) := by decide +kernel
theorem dX9_setLimits_1 : decode cX9_setLimits 1 = .ok (.ifCond .ne 16, 3) := by decide +kernel
theorem dX9_setLimits_4 : decode cX9_setLimits 4 = .ok (.aload_n 0, 1) := by decide +kernel
theorem dX9_setLimits_5 : decode cX9_setLimits 5 = .ok (.iload_n 2, 1) := by decide +kernel
theorem dX9_setLimits_6 : decode cX9_setLimits 6 = .ok (.putfield 9, 3) := by decide +kernel
theorem dX9_setLimits_9 : decode cX9_setLimits 9 = .ok (.aload_n 0, 1) := by decide +kernel
theorem dX9_setLimits_10 : decode cX9_setLimits 10 = .ok (.iload_n 3, 1) := by decide +kernel
theorem dX9_setLimits_11 : decode cX9_setLimits 11 = .ok (.putfield 15, 3) := by decide +kernel
theorem dX9_setLimits_14 : decode cX9_setLimits 14 = .ok (.goto 13, 3) := by decide +kernel
theorem dX9_setLimits_17 : decode cX9_setLimits 17 = .ok (.aload_n 0, 1) := by decide +kernel
theorem dX9_setLimits_18 : decode cX9_setLimits 18 = .ok (.iload_n 2, 1) := by decide +kernel
theorem dX9_setLimits_19 : decode cX9_setLimits 19 = .ok (.putfield 18, 3) := by decide +kernel
theorem dX9_setLimits_22 : decode cX9_setLimits 22 = .ok (.aload_n 0, 1) := by decide +kernel
theorem dX9_setLimits_23 : decode cX9_setLimits 23 = .ok (.iload_n 3, 1) := by decide +kernel
theorem dX9_setLimits_24 : decode cX9_setLimits 24 = .ok (.putfield 21, 3) := by decide +kernel
theorem dX9_setLimits_27 : decode cX9_setLimits 27 = .ok (.return_, 1) := by decide +kernel
def f_Tr_setLimits (a0 : Int32) (a1 : Int32) (a2 : Int32) (I : Nat → Nat → Int32) (L : Nat → Nat → Int64) : Option ((Nat → Nat → Int32) × (Nat → Nat → Int64)) := (if a0 = (0 : Int32) then (some ((uI (uI I 17 0 a1) 17 1 a2), L)) else (some ((uI (uI I 17 2 a1) 17 3 a2), L)))
set_option maxRecDepth 100000 in
set_option maxHeartbeats 4000000 in
theorem c_Tr_setLimits {G : xG} {S : List xSh} {Rf : Nat → Nat → Option Nat} (hT : xTH S Rf) {a0 : Int32} {a1 : Int32} {a2 : Int32} {I : Nat → Nat → Int32} {L : Nat → Nat → Int64} {q : ((Nat → Nat → Int32) × (Nat → Nat → Int64))} (hf : f_Tr_setLimits a0 a1 a2 I L = some q) : CT G 1 m_Tr_setLimits [.ref (xP G 17), .int a0, .int a1, .int a2] (S, I, L, Rf) (none, (S, q.1, q.2, Rf)) := by
  refine CT.of (by decide +kernel) (Nat.le_of_ble_eq_true rfl) ?_
  show X G 1 m_Tr_setLimits 0 [(0, .ref (xP G 17)), (1, .int a0), (2, .int a1), (3, .int a2)] [] (S, I, L, Rf) (none, (S, q.1, q.2, Rf))
  replace hf := (f_Tr_setLimits.eq_1 _ _ _ _ _).symm.trans hf
  refine X_iload_n (pc := 0) (i := 1) 1 dX9_setLimits_0 rfl rfl ?_
  by_cases c1 : a0 = (0 : Int32)
  · replace hf := (if_pos c1).symm.trans hf
    refine X_if_ne_f (pc := 1) 17 dX9_setLimits_1 (by decide) c1 ?_
    refine X_aload_n (pc := 4) (i := 0) 0 dX9_setLimits_4 rfl rfl ?_
    refine X_iload_n (pc := 5) (i := 2) 2 dX9_setLimits_5 rfl rfl ?_
    refine X_puti (pc := 6) (a := 17) (ci := 9) (j := 0) 0 rfl false (sh_17 hT) (by decide) k_251 rfl (fun h => by cases h) rfl dX9_setLimits_6 ?_
    refine X_aload_n (pc := 9) (i := 0) 0 dX9_setLimits_9 rfl rfl ?_
    refine X_iload_n (pc := 10) (i := 3) 3 dX9_setLimits_10 rfl rfl ?_
    refine X_puti (pc := 11) (a := 17) (ci := 9) (j := 1) 1 rfl false (sh_17 hT) (by decide) k_252 rfl (fun h => by cases h) rfl dX9_setLimits_11 ?_
    refine X_goto (pc := 14) 27 dX9_setLimits_14 (by decide) ?_
    cases hf
    exact X_return (pc := 27) rfl dX9_setLimits_27
  · replace hf := (if_neg c1).symm.trans hf
    refine X_if_ne_t (pc := 1) 17 dX9_setLimits_1 (by decide) c1 ?_
    refine X_aload_n (pc := 17) (i := 0) 0 dX9_setLimits_17 rfl rfl ?_
    refine X_iload_n (pc := 18) (i := 2) 2 dX9_setLimits_18 rfl rfl ?_
    refine X_puti (pc := 19) (a := 17) (ci := 9) (j := 2) 2 rfl false (sh_17 hT) (by decide) k_253 rfl (fun h => by cases h) rfl dX9_setLimits_19 ?_
    refine X_aload_n (pc := 22) (i := 0) 0 dX9_setLimits_22 rfl rfl ?_
    refine X_iload_n (pc := 23) (i := 3) 3 dX9_setLimits_23 rfl rfl ?_
    refine X_puti (pc := 24) (a := 17) (ci := 9) (j := 3) 3 rfl false (sh_17 hT) (by decide) k_254 rfl (fun h => by cases h) rfl dX9_setLimits_24 ?_
    cases hf
    exact X_return (pc := 27) rfl dX9_setLimits_27
theorem u_Tr_setLimits {S : List xSh} {a0 : Int32} {a1 : Int32} {a2 : Int32} {I : Nat → Nat → Int32} {L : Nat → Nat → Int64} {q : ((Nat → Nat → Int32) × (Nat → Nat → Int64))} (hf : f_Tr_setLimits a0 a1 a2 I L = some q) : FR S [2700, 2701, 2702, 2703] [] I q.1 L q.2 := by
  replace hf := (f_Tr_setLimits.eq_1 _ _ _ _ _).symm.trans hf
  by_cases c1 : a0 = (0 : Int32)
  · replace hf := (if_pos c1).symm.trans hf
    cases hf
    exact (FR.fi (FR.fi FR.rf (by decide)) (by decide))
  · replace hf := (if_neg c1).symm.trans hf
    cases hf
    exact (FR.fi (FR.fi FR.rf (by decide)) (by decide))
theorem dX11_teeth_0 : decode cX11_teeth 0 = .ok (.iload_n 1, 1) := by decide +kernel
theorem dX11_teeth_1 : decode cX11_teeth 1 = .ok (.iconst 0, 1) := by decide +kernel
theorem dX11_teeth_2 : decode cX11_teeth 2 = .ok (.iconst 1, 1) := by decide +kernel
theorem dX11_teeth_3 : decode cX11_teeth 3 = .ok (.invokestatic 113, 3) := by decide +kernel
theorem dX11_teeth_6 : decode cX11_teeth 6 = .ok (.ifCond .eq 20, 3) := by decide +kernel
theorem dX11_teeth_9 : decode cX11_teeth 9 = .ok (.iload_n 2, 1) := by decide +kernel
theorem dX11_teeth_10 : decode cX11_teeth 10 = .ok (.iconst 4, 1) := by decide +kernel
theorem dX11_teeth_11 : decode cX11_teeth 11 = .ok (.if_icmp .lt 15, 3) := by decide +kernel
theorem dX11_teeth_14 : decode cX11_teeth 14 = .ok (.iload_n 3, 1) := by decide +kernel
theorem dX11_teeth_15 : decode cX11_teeth 15 = .ok (.sipush 200, 3) := by decide +kernel
theorem dX11_teeth_18 : decode cX11_teeth 18 = .ok (.if_icmp .gt 8, 3) := by decide +kernel
theorem dX11_teeth_21 : decode cX11_teeth 21 = .ok (.iload_n 3, 1) := by decide +kernel
theorem dX11_teeth_22 : decode cX11_teeth 22 = .ok (.iload_n 2, 1) := by decide +kernel
theorem dX11_teeth_23 : decode cX11_teeth 23 = .ok (.if_icmp .ge 5, 3) := by decide +kernel
theorem dX11_teeth_26 : decode cX11_teeth 26 = .ok (.iconst (-1), 1) := by decide +kernel
theorem dX11_teeth_27 : decode cX11_teeth 27 = .ok (.ireturn, 1) := by decide +kernel
theorem dX11_teeth_28 : decode cX11_teeth 28 = .ok (.aload_n 0, 1) := by decide +kernel
theorem dX11_teeth_29 : decode cX11_teeth 29 = .ok (.getfield 66, 3) := by decide +kernel
theorem dX11_teeth_32 : decode cX11_teeth 32 = .ok (.iload_n 1, 1) := by decide +kernel
theorem dX11_teeth_33 : decode cX11_teeth 33 = .ok (.iload_n 2, 1) := by decide +kernel
theorem dX11_teeth_34 : decode cX11_teeth 34 = .ok (.iload_n 3, 1) := by decide +kernel
theorem dX11_teeth_35 : decode cX11_teeth 35 = .ok (.invokevirtual 295, 3) := by decide +kernel
theorem dX11_teeth_38 : decode cX11_teeth 38 = .ok (.iconst 0, 1) := by decide +kernel
theorem dX11_teeth_39 : decode cX11_teeth 39 = .ok (.ireturn, 1) := by decide +kernel
def f_H_teeth (a0 : Int32) (a1 : Int32) (a2 : Int32) (I : Nat → Nat → Int32) (L : Nat → Nat → Int64) : Option (Int32 × (Nat → Nat → Int32) × (Nat → Nat → Int64)) := (bnd (f_H_isWithin a0 (0 : Int32) (1 : Int32)) fun x1 => (if x1 = (0 : Int32) then (some ((-1 : Int32), I, L)) else (if a1 < (4 : Int32) then (some ((-1 : Int32), I, L)) else (if (200 : Int32) < a2 then (some ((-1 : Int32), I, L)) else (if a1 ≤ a2 then ((f_Tr_setLimits a0 a1 a2 I L).bind fun q6 => (some ((0 : Int32), q6.1, q6.2))) else (some ((-1 : Int32), I, L)))))))
set_option maxRecDepth 100000 in
set_option maxHeartbeats 4000000 in
theorem c_H_teeth {G : xG} {S : List xSh} {Rf : Nat → Nat → Option Nat} (hT : xTH S Rf) {a0 : Int32} {a1 : Int32} {a2 : Int32} {I : Nat → Nat → Int32} {L : Nat → Nat → Int64} {q : (Int32 × (Nat → Nat → Int32) × (Nat → Nat → Int64))} (hf : f_H_teeth a0 a1 a2 I L = some q) : CT G 2 m_H_teeth [.ref (xP G 0), .int a0, .int a1, .int a2] (S, I, L, Rf) (some (.int q.1), (S, q.2.1, q.2.2, Rf)) := by
  refine CT.of (by decide +kernel) (Nat.le_of_ble_eq_true rfl) ?_
  show X G 2 m_H_teeth 0 [(0, .ref (xP G 0)), (1, .int a0), (2, .int a1), (3, .int a2)] [] (S, I, L, Rf) (some (.int q.1), (S, q.2.1, q.2.2, Rf))
  replace hf := (f_H_teeth.eq_1 _ _ _ _ _).symm.trans hf
  refine X_iload_n (pc := 0) (i := 1) 1 dX11_teeth_0 rfl rfl ?_
  refine X_iconst (pc := 1) (0 : Int32) dX11_teeth_1 (by decide) ?_
  refine X_iconst (pc := 2) (1 : Int32) dX11_teeth_2 (by decide) ?_
  refine X_invS_i (pc := 3) (c_H_isWithin hT rfl) ok_H_isWithin k_563 k_564 nd_6 (by decide) rfl (Nat.le_of_ble_eq_true rfl) dX11_teeth_3 ?_
  obtain ⟨x1, ex1, hf⟩ := bnd_e hf
  refine X_tope ex1 ?_
  by_cases c2 : x1 = (0 : Int32)
  · replace hf := (if_pos c2).symm.trans hf
    refine X_if_eq_t (pc := 6) 26 dX11_teeth_6 (by decide) c2 ?_
    refine X_iconst (pc := 26) (-1 : Int32) dX11_teeth_26 (by decide) ?_
    cases hf
    exact X_ireturn (pc := 27) rfl dX11_teeth_27
  · replace hf := (if_neg c2).symm.trans hf
    refine X_if_eq_f (pc := 6) 26 dX11_teeth_6 (by decide) c2 ?_
    refine X_iload_n (pc := 9) (i := 2) 2 dX11_teeth_9 rfl rfl ?_
    refine X_iconst (pc := 10) (4 : Int32) dX11_teeth_10 (by decide) ?_
    by_cases c3 : a1 < (4 : Int32)
    · replace hf := (if_pos c3).symm.trans hf
      refine X_icmp_lt_t (pc := 11) 26 dX11_teeth_11 (by decide) c3 ?_
      refine X_iconst (pc := 26) (-1 : Int32) dX11_teeth_26 (by decide) ?_
      cases hf
      exact X_ireturn (pc := 27) rfl dX11_teeth_27
    · replace hf := (if_neg c3).symm.trans hf
      refine X_icmp_lt_f (pc := 11) 26 dX11_teeth_11 (by decide) c3 ?_
      refine X_iload_n (pc := 14) (i := 3) 3 dX11_teeth_14 rfl rfl ?_
      refine X_sipush (pc := 15) (200 : Int32) dX11_teeth_15 (by decide) ?_
      by_cases c4 : (200 : Int32) < a2
      · replace hf := (if_pos c4).symm.trans hf
        refine X_icmp_gt_t (pc := 18) 26 dX11_teeth_18 (by decide) c4 ?_
        refine X_iconst (pc := 26) (-1 : Int32) dX11_teeth_26 (by decide) ?_
        cases hf
        exact X_ireturn (pc := 27) rfl dX11_teeth_27
      · replace hf := (if_neg c4).symm.trans hf
        refine X_icmp_gt_f (pc := 18) 26 dX11_teeth_18 (by decide) c4 ?_
        refine X_iload_n (pc := 21) (i := 3) 3 dX11_teeth_21 rfl rfl ?_
        refine X_iload_n (pc := 22) (i := 2) 2 dX11_teeth_22 rfl rfl ?_
        by_cases c5 : a1 ≤ a2
        · replace hf := (if_pos c5).symm.trans hf
          refine X_icmp_ge_t (pc := 23) 28 dX11_teeth_23 (by decide) c5 ?_
          refine X_aload_n (pc := 28) (i := 0) 0 dX11_teeth_28 rfl rfl ?_
          refine X_getr (pc := 29) (a := 0) (ci := 10) (j := 12) (c := 17) (sh_0 hT) (by decide) k_506 (rf_0_9 hT) (fun _ h => h) dX11_teeth_29 ?_
          refine X_iload_n (pc := 32) (i := 1) 1 dX11_teeth_32 rfl rfl ?_
          refine X_iload_n (pc := 33) (i := 2) 2 dX11_teeth_33 rfl rfl ?_
          refine X_iload_n (pc := 34) (i := 3) 3 dX11_teeth_34 rfl rfl ?_
          obtain ⟨q6, c7, hf⟩ := bd_some hf
          refine X_invV_v (pc := 35) (c_Tr_setLimits hT c7) ok_Tr_setLimits (ci := 9) (sh_17 hT) k_998 k_999 k_1000 nd_7 (by decide) rfl (Nat.le_of_ble_eq_true rfl) dX11_teeth_35 ?_
          refine X_iconst (pc := 38) (0 : Int32) dX11_teeth_38 (by decide) ?_
          cases hf
          exact X_ireturn (pc := 39) rfl dX11_teeth_39
        · replace hf := (if_neg c5).symm.trans hf
          refine X_icmp_ge_f (pc := 23) 28 dX11_teeth_23 (by decide) c5 ?_
          refine X_iconst (pc := 26) (-1 : Int32) dX11_teeth_26 (by decide) ?_
          cases hf
          exact X_ireturn (pc := 27) rfl dX11_teeth_27
theorem u_H_teeth {S : List xSh} {a0 : Int32} {a1 : Int32} {a2 : Int32} {I : Nat → Nat → Int32} {L : Nat → Nat → Int64} {q : (Int32 × (Nat → Nat → Int32) × (Nat → Nat → Int64))} (hf : f_H_teeth a0 a1 a2 I L = some q) : FR S [2700, 2701, 2702, 2703] [] I q.2.1 L q.2.2 := by
  replace hf := (f_H_teeth.eq_1 _ _ _ _ _).symm.trans hf
  obtain ⟨x1, ex1, hf⟩ := bnd_e hf
  by_cases c2 : x1 = (0 : Int32)
  · replace hf := (if_pos c2).symm.trans hf
    cases hf
    exact FR.rf
  · replace hf := (if_neg c2).symm.trans hf
    by_cases c3 : a1 < (4 : Int32)
    · replace hf := (if_pos c3).symm.trans hf
      cases hf
      exact FR.rf
    · replace hf := (if_neg c3).symm.trans hf
      by_cases c4 : (200 : Int32) < a2
      · replace hf := (if_pos c4).symm.trans hf
        cases hf
        exact FR.rf
      · replace hf := (if_neg c4).symm.trans hf
        by_cases c5 : a1 ≤ a2
        · replace hf := (if_pos c5).symm.trans hf
          obtain ⟨q6, c7, hf⟩ := bd_some hf
          cases hf
          exact (FR.tr FR.rf (u_Tr_setLimits (q := q6) c7) (by decide) (by decide))
        · replace hf := (if_neg c5).symm.trans hf
          cases hf
          exact FR.rf
theorem dX9_rowsOf_0 : decode cX9_rowsOf 0 = .ok (.iload_n 2, 1) := by decide +kernel
theorem dX9_rowsOf_1 : decode cX9_rowsOf 1 = .ok (.iload_n 1, 1) := by decide +kernel
theorem dX9_rowsOf_2 : decode cX9_rowsOf 2 = .ok (.isub, 1) := by decide +kernel
theorem dX9_rowsOf_3 : decode cX9_rowsOf 3 = .ok (.iconst 1, 1) := by decide +kernel
theorem dX9_rowsOf_4 : decode cX9_rowsOf 4 = .ok (.iadd, 1) := by decide +kernel
theorem dX9_rowsOf_5 : decode cX9_rowsOf 5 = .ok (.istore_n 3, 1) := by decide +kernel
theorem dX9_rowsOf_6 : decode cX9_rowsOf 6 = .ok (.iload_n 0, 1) := by decide +kernel
theorem dX9_rowsOf_7 : decode cX9_rowsOf 7 = .ok (.lookupswitch 35 #[(1, 25), (2, 27)], 25) := by decide +kernel
theorem dX9_rowsOf_32 : decode cX9_rowsOf 32 = .ok (.iload_n 3, 1) := by decide +kernel
theorem dX9_rowsOf_33 : decode cX9_rowsOf 33 = .ok (.ireturn, 1) := by decide +kernel
theorem dX9_rowsOf_34 : decode cX9_rowsOf 34 = .ok (.iload_n 3, 1) := by decide +kernel
theorem dX9_rowsOf_35 : decode cX9_rowsOf 35 = .ok (.iload_n 3, 1) := by decide +kernel
theorem dX9_rowsOf_36 : decode cX9_rowsOf 36 = .ok (.iconst 1, 1) := by decide +kernel
theorem dX9_rowsOf_37 : decode cX9_rowsOf 37 = .ok (.iadd, 1) := by decide +kernel
theorem dX9_rowsOf_38 : decode cX9_rowsOf 38 = .ok (.imul, 1) := by decide +kernel
theorem dX9_rowsOf_39 : decode cX9_rowsOf 39 = .ok (.iconst 2, 1) := by decide +kernel
theorem dX9_rowsOf_40 : decode cX9_rowsOf 40 = .ok (.idiv, 1) := by decide +kernel
theorem dX9_rowsOf_41 : decode cX9_rowsOf 41 = .ok (.ireturn, 1) := by decide +kernel
theorem dX9_rowsOf_42 : decode cX9_rowsOf 42 = .ok (.iload_n 3, 1) := by decide +kernel
theorem dX9_rowsOf_43 : decode cX9_rowsOf 43 = .ok (.iload_n 3, 1) := by decide +kernel
theorem dX9_rowsOf_44 : decode cX9_rowsOf 44 = .ok (.iconst 1, 1) := by decide +kernel
theorem dX9_rowsOf_45 : decode cX9_rowsOf 45 = .ok (.iadd, 1) := by decide +kernel
theorem dX9_rowsOf_46 : decode cX9_rowsOf 46 = .ok (.imul, 1) := by decide +kernel
theorem dX9_rowsOf_47 : decode cX9_rowsOf 47 = .ok (.iload_n 3, 1) := by decide +kernel
theorem dX9_rowsOf_48 : decode cX9_rowsOf 48 = .ok (.iconst 2, 1) := by decide +kernel
theorem dX9_rowsOf_49 : decode cX9_rowsOf 49 = .ok (.iadd, 1) := by decide +kernel
theorem dX9_rowsOf_50 : decode cX9_rowsOf 50 = .ok (.imul, 1) := by decide +kernel
theorem dX9_rowsOf_51 : decode cX9_rowsOf 51 = .ok (.bipush 6, 2) := by decide +kernel
theorem dX9_rowsOf_53 : decode cX9_rowsOf 53 = .ok (.idiv, 1) := by decide +kernel
theorem dX9_rowsOf_54 : decode cX9_rowsOf 54 = .ok (.ireturn, 1) := by decide +kernel
def f_Tr_rowsOf (a0 : Int32) (a1 : Int32) (a2 : Int32) : Int32 := (bnd ((a2 - a1) + (1 : Int32)) fun x1 => (if a0 = (1 : Int32) then x1 else (if a0 = (2 : Int32) then ((x1 * (x1 + (1 : Int32))) / (2 : Int32)) else (((x1 * (x1 + (1 : Int32))) * (x1 + (2 : Int32))) / (6 : Int32)))))
set_option maxRecDepth 100000 in
set_option maxHeartbeats 4000000 in
theorem c_Tr_rowsOf {G : xG} {S : List xSh} {Rf : Nat → Nat → Option Nat} (hT : xTH S Rf) {a0 : Int32} {a1 : Int32} {a2 : Int32} {I : Nat → Nat → Int32} {L : Nat → Nat → Int64} {q : Int32} (hf : f_Tr_rowsOf a0 a1 a2 = q) : CT G 1 m_Tr_rowsOf [.int a0, .int a1, .int a2] (S, I, L, Rf) (some (.int q), (S, I, L, Rf)) := by
  refine CT.of (by decide +kernel) (Nat.le_of_ble_eq_true rfl) ?_
  show X G 1 m_Tr_rowsOf 0 [(0, .int a0), (1, .int a1), (2, .int a2)] [] (S, I, L, Rf) (some (.int q), (S, I, L, Rf))
  replace hf := (f_Tr_rowsOf.eq_1 _ _ _).symm.trans hf
  refine X_iload_n (pc := 0) (i := 2) 2 dX9_rowsOf_0 rfl rfl ?_
  refine X_iload_n (pc := 1) (i := 1) 1 dX9_rowsOf_1 rfl rfl ?_
  refine X_isub (pc := 2) dX9_rowsOf_2 ?_
  refine X_iconst (pc := 3) (1 : Int32) dX9_rowsOf_3 (by decide) ?_
  refine X_iadd (pc := 4) dX9_rowsOf_4 ?_
  obtain ⟨x1, ex1, hf⟩ := bnd_e hf
  refine X_tope ex1 ?_
  refine X_istore_n (pc := 5) (i := 3) [(3, .int x1), (0, .int a0), (1, .int a1), (2, .int a2)] dX9_rowsOf_5 rfl (by decide) rfl ?_
  refine X_iload_n (pc := 6) (i := 0) 1 dX9_rowsOf_6 rfl rfl ?_
  by_cases c2 : a0 = (1 : Int32)
  · replace hf := (if_pos c2).symm.trans hf
    refine X_lookup (pc := 7) (off := 25) 32 dX9_rowsOf_7 (by decide) (by rw [c2]; rfl) (by decide) ?_
    refine X_iload_n (pc := 32) (i := 3) 0 dX9_rowsOf_32 rfl rfl ?_
    subst hf
    exact X_ireturn (pc := 33) rfl dX9_rowsOf_33
  · replace hf := (if_neg c2).symm.trans hf
    by_cases c3 : a0 = (2 : Int32)
    · replace hf := (if_pos c3).symm.trans hf
      refine X_lookup (pc := 7) (off := 27) 34 dX9_rowsOf_7 (by decide) (by rw [c3]; rfl) (by decide) ?_
      refine X_iload_n (pc := 34) (i := 3) 0 dX9_rowsOf_34 rfl rfl ?_
      refine X_iload_n (pc := 35) (i := 3) 0 dX9_rowsOf_35 rfl rfl ?_
      refine X_iconst (pc := 36) (1 : Int32) dX9_rowsOf_36 (by decide) ?_
      refine X_iadd (pc := 37) dX9_rowsOf_37 ?_
      refine X_imul (pc := 38) dX9_rowsOf_38 ?_
      refine X_iconst (pc := 39) (2 : Int32) dX9_rowsOf_39 (by decide) ?_
      refine X_idiv (pc := 40) dX9_rowsOf_40 (by decide) ?_
      subst hf
      exact X_ireturn (pc := 41) rfl dX9_rowsOf_41
    · replace hf := (if_neg c3).symm.trans hf
      refine X_lookup (pc := 7) (off := 35) 42 dX9_rowsOf_7 (by decide) ((lv_osw c2 rfl).trans ((lv_osw c3 rfl).trans rfl)) (by decide) ?_
      refine X_iload_n (pc := 42) (i := 3) 0 dX9_rowsOf_42 rfl rfl ?_
      refine X_iload_n (pc := 43) (i := 3) 0 dX9_rowsOf_43 rfl rfl ?_
      refine X_iconst (pc := 44) (1 : Int32) dX9_rowsOf_44 (by decide) ?_
      refine X_iadd (pc := 45) dX9_rowsOf_45 ?_
      refine X_imul (pc := 46) dX9_rowsOf_46 ?_
      refine X_iload_n (pc := 47) (i := 3) 0 dX9_rowsOf_47 rfl rfl ?_
      refine X_iconst (pc := 48) (2 : Int32) dX9_rowsOf_48 (by decide) ?_
      refine X_iadd (pc := 49) dX9_rowsOf_49 ?_
      refine X_imul (pc := 50) dX9_rowsOf_50 ?_
      refine X_bipush (pc := 51) (6 : Int32) dX9_rowsOf_51 (by decide) ?_
      refine X_idiv (pc := 53) dX9_rowsOf_53 (by decide) ?_
      subst hf
      exact X_ireturn (pc := 54) rfl dX9_rowsOf_54
theorem dX9_setError_0 : decode cX9_setError 0 = .ok (.aload_n 0, 1) := by decide +kernel
theorem dX9_setError_1 : decode cX9_setError 1 = .ok (.getfield 50, 3) := by decide +kernel
theorem dX9_setError_4 : decode cX9_setError 4 = .ok (.aload_n 0, 1) := by decide +kernel
theorem dX9_setError_5 : decode cX9_setError 5 = .ok (.getfield 47, 3) := by decide +kernel
theorem dX9_setError_8 : decode cX9_setError 8 = .ok (.lmul, 1) := by decide +kernel
theorem dX9_setError_9 : decode cX9_setError 9 = .ok (.lstore_n 1, 1) := by decide +kernel
theorem dX9_setError_10 : decode cX9_setError 10 = .ok (.aload_n 0, 1) := by decide +kernel
theorem dX9_setError_11 : decode cX9_setError 11 = .ok (.getfield 67, 3) := by decide +kernel
theorem dX9_setError_14 : decode cX9_setError 14 = .ok (.lload_n 1, 1) := by decide +kernel
theorem dX9_setError_15 : decode cX9_setError 15 = .ok (.invokestatic 108, 3) := by decide +kernel
theorem dX9_setError_18 : decode cX9_setError 18 = .ok (.lstore_n 3, 1) := by decide +kernel
theorem dX9_setError_19 : decode cX9_setError 19 = .ok (.aload_n 0, 1) := by decide +kernel
theorem dX9_setError_20 : decode cX9_setError 20 = .ok (.lload_n 3, 1) := by decide +kernel
theorem dX9_setError_21 : decode cX9_setError 21 = .ok (.lconst 0, 1) := by decide +kernel
theorem dX9_setError_22 : decode cX9_setError 22 = .ok (.lcmp, 1) := by decide +kernel
theorem dX9_setError_23 : decode cX9_setError 23 = .ok (.ifCond .le 12, 3) := by decide +kernel
theorem dX9_setError_26 : decode cX9_setError 26 = .ok (.aload_n 0, 1) := by decide +kernel
theorem dX9_setError_27 : decode cX9_setError 27 = .ok (.getfield 67, 3) := by decide +kernel
theorem dX9_setError_30 : decode cX9_setError 30 = .ok (.lload_n 3, 1) := by decide +kernel
theorem dX9_setError_31 : decode cX9_setError 31 = .ok (.ldiv, 1) := by decide +kernel
theorem dX9_setError_32 : decode cX9_setError 32 = .ok (.goto 4, 3) := by decide +kernel
theorem dX9_setError_35 : decode cX9_setError 35 = .ok (.lconst 0, 1) := by decide +kernel
theorem dX9_setError_36 : decode cX9_setError 36 = .ok (.putfield 112, 3) := by decide +kernel
theorem dX9_setError_39 : decode cX9_setError 39 = .ok (.aload_n 0, 1) := by decide +kernel
theorem dX9_setError_40 : decode cX9_setError 40 = .ok (.lload_n 3, 1) := by decide +kernel
theorem dX9_setError_41 : decode cX9_setError 41 = .ok (.lconst 0, 1) := by decide +kernel
theorem dX9_setError_42 : decode cX9_setError 42 = .ok (.lcmp, 1) := by decide +kernel
theorem dX9_setError_43 : decode cX9_setError 43 = .ok (.ifCond .le 9, 3) := by decide +kernel
theorem dX9_setError_46 : decode cX9_setError 46 = .ok (.lload_n 1, 1) := by decide +kernel
theorem dX9_setError_47 : decode cX9_setError 47 = .ok (.lload_n 3, 1) := by decide +kernel
theorem dX9_setError_48 : decode cX9_setError 48 = .ok (.ldiv, 1) := by decide +kernel
theorem dX9_setError_49 : decode cX9_setError 49 = .ok (.goto 4, 3) := by decide +kernel
theorem dX9_setError_52 : decode cX9_setError 52 = .ok (.lconst 0, 1) := by decide +kernel
theorem dX9_setError_53 : decode cX9_setError 53 = .ok (.putfield 115, 3) := by decide +kernel
theorem dX9_setError_56 : decode cX9_setError 56 = .ok (.return_, 1) := by decide +kernel
def f_Tr_setError_L36 (l1 : Int64) (l3 : Int64) (s1 : Int64) (I : (Nat → Nat → Int32)) (L : (Nat → Nat → Int64)) : Option ((Nat → Nat → Int32) × (Nat → Nat → Int64)) := (if l3 ≤ (0 : Int64) then (some (I, (uL (uL L 17 7 s1) 17 8 (0 : Int64)))) else (if ¬ l3 = (0 : Int64) then (bnd (l1 / l3) fun x7 => (some (I, (uL (uL L 17 7 s1) 17 8 x7)))) else none))
set_option maxRecDepth 100000 in
set_option maxHeartbeats 4000000 in
theorem x_Tr_setError_L36 {G : xG} {S : List xSh} {Rf : Nat → Nat → Option Nat} (hT : xTH S Rf) {l1 : Int64} {l3 : Int64} {s1 : Int64} {I : Nat → Nat → Int32} {L : Nat → Nat → Int64} {q : ((Nat → Nat → Int32) × (Nat → Nat → Int64))} (hf : f_Tr_setError_L36 l1 l3 s1 I L = some q) : X G 2 m_Tr_setError 36 [(0, .ref (xP G 17)), (1, .long l1), (3, .long l3)] [.long s1, .ref (xP G 17)] (S, I, L, Rf) (none, (S, q.1, q.2, Rf)) := by
  replace hf := (f_Tr_setError_L36.eq_1 _ _ _ _ _).symm.trans hf
  refine X_putl (pc := 36) (a := 17) (ci := 9) (j := 7) 7 rfl false (sh_17 hT) (by decide) k_261 rfl (fun h => by cases h) rfl dX9_setError_36 ?_
  refine X_aload_n (pc := 39) (i := 0) 0 dX9_setError_39 rfl rfl ?_
  refine X_lload_n (pc := 40) (i := 3) 2 dX9_setError_40 rfl rfl ?_
  refine X_lconst (pc := 41) (0 : Int64) dX9_setError_41 (by decide) ?_
  refine X_lcmp (pc := 42) dX9_setError_42 ?_
  by_cases c5 : l3 ≤ (0 : Int64)
  · replace hf := (if_pos c5).symm.trans hf
    refine X_if_le_t (pc := 43) 52 dX9_setError_43 (by decide) ((lg_cmp_le _ _).mpr c5) ?_
    refine X_lconst (pc := 52) (0 : Int64) dX9_setError_52 (by decide) ?_
    refine X_putl (pc := 53) (a := 17) (ci := 9) (j := 8) 8 rfl false (sh_17 hT) (by decide) k_263 rfl (fun h => by cases h) rfl dX9_setError_53 ?_
    cases hf
    exact X_return (pc := 56) rfl dX9_setError_56
  · replace hf := (if_neg c5).symm.trans hf
    refine X_if_le_f (pc := 43) 52 dX9_setError_43 (by decide) (fun h => c5 ((lg_cmp_le _ _).mp h)) ?_
    refine X_lload_n (pc := 46) (i := 1) 1 dX9_setError_46 rfl rfl ?_
    refine X_lload_n (pc := 47) (i := 3) 2 dX9_setError_47 rfl rfl ?_
    obtain ⟨c6, hf⟩ := gd_some hf
    refine X_ldiv (pc := 48) dX9_setError_48 c6 ?_
    refine X_goto (pc := 49) 53 dX9_setError_49 (by decide) ?_
    obtain ⟨x7, ex7, hf⟩ := bnd_e hf
    refine X_tople ex7 ?_
    refine X_putl (pc := 53) (a := 17) (ci := 9) (j := 8) 8 rfl false (sh_17 hT) (by decide) k_263 rfl (fun h => by cases h) rfl dX9_setError_53 ?_
    cases hf
    exact X_return (pc := 56) rfl dX9_setError_56
theorem u_Tr_setError_L36 {S : List xSh} {l1 : Int64} {l3 : Int64} {s1 : Int64} {I : Nat → Nat → Int32} {L : Nat → Nat → Int64} {q : ((Nat → Nat → Int32) × (Nat → Nat → Int64))} (hf : f_Tr_setError_L36 l1 l3 s1 I L = some q) : FR S [] [2707, 2708] I q.1 L q.2 := by
  replace hf := (f_Tr_setError_L36.eq_1 _ _ _ _ _).symm.trans hf
  by_cases c5 : l3 ≤ (0 : Int64)
  · replace hf := (if_pos c5).symm.trans hf
    cases hf
    exact (FR.fl (FR.fl FR.rf (by decide)) (by decide))
  · replace hf := (if_neg c5).symm.trans hf
    obtain ⟨c6, hf⟩ := gd_some hf
    obtain ⟨x7, ex7, hf⟩ := bnd_e hf
    cases hf
    exact (FR.fl (FR.fl FR.rf (by decide)) (by decide))
def f_Tr_setError (I : Nat → Nat → Int32) (L : Nat → Nat → Int64) : Option ((Nat → Nat → Int32) × (Nat → Nat → Int64)) := (bnd ((L 17 12) * (L 17 10)) fun x1 => ((f_H_commonDivisor (L 17 11) x1).bind fun q2 => (if q2 ≤ (0 : Int64) then (f_Tr_setError_L36 x1 q2 (0 : Int64) I L) else (if ¬ q2 = (0 : Int64) then (f_Tr_setError_L36 x1 q2 ((L 17 11) / q2) I L) else none))))
set_option maxRecDepth 100000 in
set_option maxHeartbeats 4000000 in
theorem c_Tr_setError {G : xG} {S : List xSh} {Rf : Nat → Nat → Option Nat} (hT : xTH S Rf) {I : Nat → Nat → Int32} {L : Nat → Nat → Int64} {q : ((Nat → Nat → Int32) × (Nat → Nat → Int64))} (hf : f_Tr_setError I L = some q) : CT G 2 m_Tr_setError [.ref (xP G 17)] (S, I, L, Rf) (none, (S, q.1, q.2, Rf)) := by
  refine CT.of (by decide +kernel) (Nat.le_of_ble_eq_true rfl) ?_
  show X G 2 m_Tr_setError 0 [(0, .ref (xP G 17))] [] (S, I, L, Rf) (none, (S, q.1, q.2, Rf))
  replace hf := (f_Tr_setError.eq_1 _ _).symm.trans hf
  refine X_aload_n (pc := 0) (i := 0) 0 dX9_setError_0 rfl rfl ?_
  refine X_get (pc := 1) (a := 17) (ci := 9) (j := 12) (.long (L 17 12)) (sh_17 hT) (by decide) k_268 rfl dX9_setError_1 ?_
  refine X_aload_n (pc := 4) (i := 0) 0 dX9_setError_4 rfl rfl ?_
  refine X_get (pc := 5) (a := 17) (ci := 9) (j := 10) (.long (L 17 10)) (sh_17 hT) (by decide) k_266 rfl dX9_setError_5 ?_
  refine X_lmul (pc := 8) dX9_setError_8 ?_
  obtain ⟨x1, ex1, hf⟩ := bnd_e hf
  refine X_tople ex1 ?_
  refine X_lstore_n (pc := 9) (i := 1) [(1, .long x1), (0, .ref (xP G 17))] dX9_setError_9 rfl (by decide) rfl ?_
  refine X_aload_n (pc := 10) (i := 0) 1 dX9_setError_10 rfl rfl ?_
  refine X_get (pc := 11) (a := 17) (ci := 9) (j := 11) (.long (L 17 11)) (sh_17 hT) (by decide) k_267 rfl dX9_setError_11 ?_
  refine X_lload_n (pc := 14) (i := 1) 0 dX9_setError_14 rfl rfl ?_
  obtain ⟨q2, c3, hf⟩ := bd_some hf
  refine X_invSN_l (pc := 15) (c_H_commonDivisor hT c3) ok_H_commonDivisor k_1046 k_596 nd_9 (by decide) rfl (Nat.le_of_ble_eq_true rfl) dX9_setError_15 ?_
  refine X_lstore_n (pc := 18) (i := 3) [(3, .long q2), (1, .long x1), (0, .ref (xP G 17))] dX9_setError_18 rfl (by decide) rfl ?_
  refine X_aload_n (pc := 19) (i := 0) 2 dX9_setError_19 rfl rfl ?_
  refine X_lload_n (pc := 20) (i := 3) 0 dX9_setError_20 rfl rfl ?_
  refine X_lconst (pc := 21) (0 : Int64) dX9_setError_21 (by decide) ?_
  refine X_lcmp (pc := 22) dX9_setError_22 ?_
  by_cases c4 : q2 ≤ (0 : Int64)
  · replace hf := (if_pos c4).symm.trans hf
    refine X_if_le_t (pc := 23) 35 dX9_setError_23 (by decide) ((lg_cmp_le _ _).mpr c4) ?_
    refine X_lconst (pc := 35) (0 : Int64) dX9_setError_35 (by decide) ?_
    exact X_lvs [2, 1, 0] rfl (x_Tr_setError_L36 hT hf)
  · replace hf := (if_neg c4).symm.trans hf
    refine X_if_le_f (pc := 23) 35 dX9_setError_23 (by decide) (fun h => c4 ((lg_cmp_le _ _).mp h)) ?_
    refine X_aload_n (pc := 26) (i := 0) 2 dX9_setError_26 rfl rfl ?_
    refine X_get (pc := 27) (a := 17) (ci := 9) (j := 11) (.long (L 17 11)) (sh_17 hT) (by decide) k_267 rfl dX9_setError_27 ?_
    refine X_lload_n (pc := 30) (i := 3) 0 dX9_setError_30 rfl rfl ?_
    obtain ⟨c8, hf⟩ := gd_some hf
    refine X_ldiv (pc := 31) dX9_setError_31 c8 ?_
    refine X_goto (pc := 32) 36 dX9_setError_32 (by decide) ?_
    exact X_lvs [2, 1, 0] rfl (x_Tr_setError_L36 hT hf)
theorem u_Tr_setError {S : List xSh} {I : Nat → Nat → Int32} {L : Nat → Nat → Int64} {q : ((Nat → Nat → Int32) × (Nat → Nat → Int64))} (hf : f_Tr_setError I L = some q) : FR S [] [2707, 2708] I q.1 L q.2 := by
  replace hf := (f_Tr_setError.eq_1 _ _).symm.trans hf
  obtain ⟨x1, ex1, hf⟩ := bnd_e hf
  obtain ⟨q2, c3, hf⟩ := bd_some hf
  by_cases c4 : q2 ≤ (0 : Int64)
  · replace hf := (if_pos c4).symm.trans hf
    exact FR.tr FR.rf (u_Tr_setError_L36 hf) (by decide) (by decide)
  · replace hf := (if_neg c4).symm.trans hf
    obtain ⟨c8, hf⟩ := gd_some hf
    exact FR.tr FR.rf (u_Tr_setError_L36 hf) (by decide) (by decide)

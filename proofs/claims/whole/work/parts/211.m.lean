theorem dX9_isPerfect_0 : decode cX9_isPerfect 0 = .ok (.aload_n 0, 1) := by decide +kernel
theorem dX9_isPerfect_1 : decode cX9_isPerfect 1 = .ok (.getfield 50, 3) := by decide +kernel
theorem dX9_isPerfect_4 : decode cX9_isPerfect 4 = .ok (.lconst 0, 1) := by decide +kernel
theorem dX9_isPerfect_5 : decode cX9_isPerfect 5 = .ok (.lcmp, 1) := by decide +kernel
theorem dX9_isPerfect_6 : decode cX9_isPerfect 6 = .ok (.ifCond .le 16, 3) := by decide +kernel
theorem dX9_isPerfect_9 : decode cX9_isPerfect 9 = .ok (.aload_n 0, 1) := by decide +kernel
theorem dX9_isPerfect_10 : decode cX9_isPerfect 10 = .ok (.getfield 67, 3) := by decide +kernel
theorem dX9_isPerfect_13 : decode cX9_isPerfect 13 = .ok (.lconst 0, 1) := by decide +kernel
theorem dX9_isPerfect_14 : decode cX9_isPerfect 14 = .ok (.lcmp, 1) := by decide +kernel
theorem dX9_isPerfect_15 : decode cX9_isPerfect 15 = .ok (.ifCond .ne 7, 3) := by decide +kernel
theorem dX9_isPerfect_18 : decode cX9_isPerfect 18 = .ok (.iconst 1, 1) := by decide +kernel
theorem dX9_isPerfect_19 : decode cX9_isPerfect 19 = .ok (.goto 4, 3) := by decide +kernel
theorem dX9_isPerfect_22 : decode cX9_isPerfect 22 = .ok (.iconst 0, 1) := by decide +kernel
theorem dX9_isPerfect_23 : decode cX9_isPerfect 23 = .ok (.ireturn, 1) := by decide +kernel
def f_Tr_isPerfect (I : Nat → Nat → Int32) (L : Nat → Nat → Int64) : Int32 := (if (L 17 12) ≤ (0 : Int64) then (0 : Int32) else (if (L 17 11) = (0 : Int64) then (1 : Int32) else (0 : Int32)))
set_option maxRecDepth 100000 in
set_option maxHeartbeats 4000000 in
theorem c_Tr_isPerfect {G : xG} {S : List xSh} {Rf : Nat → Nat → Option Nat} (hT : xTH S Rf) {I : Nat → Nat → Int32} {L : Nat → Nat → Int64} {q : Int32} (hf : f_Tr_isPerfect I L = q) : CT G 1 m_Tr_isPerfect [.ref (xP G 17)] (S, I, L, Rf) (some (.int q), (S, I, L, Rf)) := by
  refine CT.of (by decide +kernel) (Nat.le_of_ble_eq_true rfl) ?_
  show X G 1 m_Tr_isPerfect 0 [(0, .ref (xP G 17))] [] (S, I, L, Rf) (some (.int q), (S, I, L, Rf))
  replace hf := (f_Tr_isPerfect.eq_1 _ _).symm.trans hf
  refine X_aload_n (pc := 0) (i := 0) 0 dX9_isPerfect_0 rfl rfl ?_
  refine X_get (pc := 1) (a := 17) (ci := 9) (j := 12) (.long (L 17 12)) (sh_17 hT) (by decide) k_268 rfl dX9_isPerfect_1 ?_
  refine X_lconst (pc := 4) (0 : Int64) dX9_isPerfect_4 (by decide) ?_
  refine X_lcmp (pc := 5) dX9_isPerfect_5 ?_
  by_cases c1 : (L 17 12) ≤ (0 : Int64)
  · replace hf := (if_pos c1).symm.trans hf
    refine X_if_le_t (pc := 6) 22 dX9_isPerfect_6 (by decide) ((lg_cmp_le _ _).mpr c1) ?_
    refine X_iconst (pc := 22) (0 : Int32) dX9_isPerfect_22 (by decide) ?_
    subst hf
    exact X_zreturn (pc := 23) rfl (nar_b (by decide)) dX9_isPerfect_23
  · replace hf := (if_neg c1).symm.trans hf
    refine X_if_le_f (pc := 6) 22 dX9_isPerfect_6 (by decide) (fun h => c1 ((lg_cmp_le _ _).mp h)) ?_
    refine X_aload_n (pc := 9) (i := 0) 0 dX9_isPerfect_9 rfl rfl ?_
    refine X_get (pc := 10) (a := 17) (ci := 9) (j := 11) (.long (L 17 11)) (sh_17 hT) (by decide) k_267 rfl dX9_isPerfect_10 ?_
    refine X_lconst (pc := 13) (0 : Int64) dX9_isPerfect_13 (by decide) ?_
    refine X_lcmp (pc := 14) dX9_isPerfect_14 ?_
    by_cases c2 : (L 17 11) = (0 : Int64)
    · replace hf := (if_pos c2).symm.trans hf
      refine X_if_ne_f (pc := 15) 22 dX9_isPerfect_15 (by decide) ((lg_cmp_eq _ _).mpr c2) ?_
      refine X_iconst (pc := 18) (1 : Int32) dX9_isPerfect_18 (by decide) ?_
      refine X_goto (pc := 19) 23 dX9_isPerfect_19 (by decide) ?_
      subst hf
      exact X_zreturn (pc := 23) rfl (nar_b (by decide)) dX9_isPerfect_23
    · replace hf := (if_neg c2).symm.trans hf
      refine X_if_ne_t (pc := 15) 22 dX9_isPerfect_15 (by decide) (fun h => c2 ((lg_cmp_eq _ _).mp h)) ?_
      refine X_iconst (pc := 22) (0 : Int32) dX9_isPerfect_22 (by decide) ?_
      subst hf
      exact X_zreturn (pc := 23) rfl (nar_b (by decide)) dX9_isPerfect_23
def f_Ar_fill_i_20_L5 : Nat → Int32 → Int32 → Int32 → (Nat → Nat → Int32) → (Nat → Nat → Int64) → Option ((Nat → Nat → Int32) × (Nat → Nat → Int64))
  | 0, _, _, _, _, _ => none
  | n + 1, l1, l2, l3, I, L => (if l3 ≤ l2 then (some (I, L)) else (if (0 ≤ l2 ∧ l2 < (3 : Int32)) then (f_Ar_fill_i_20_L5 n l1 (l2 + (1 : Int32)) l3 (uI I 20 (l2.toNatClampNeg) l1) L) else none))
set_option maxRecDepth 100000 in
set_option maxHeartbeats 4000000 in
theorem x_Ar_fill_i_20_L5 {G : xG} {S : List xSh} {Rf : Nat → Nat → Option Nat} (hT : xTH S Rf) : ∀ (n : Nat) {l1 : Int32} {l2 : Int32} {l3 : Int32} {I : Nat → Nat → Int32} {L : Nat → Nat → Int64} {q : ((Nat → Nat → Int32) × (Nat → Nat → Int64))}, f_Ar_fill_i_20_L5 n l1 l2 l3 I L = some q → X G 1 m_Ar_fill_i 5 [(0, .ref (xP G 20)), (1, .int l1), (2, .int l2), (3, .int l3)] [] (S, I, L, Rf) (none, (S, q.1, q.2, Rf)) := by
  intro n
  induction n with
  | zero =>
    intro l1 l2 l3 I L q hf
    exact absurd (show none = some q from hf) (by simp)
  | succ n ih =>
    intro l1 l2 l3 I L q hf
    replace hf := (f_Ar_fill_i_20_L5.eq_2 _ _ _ _ _ _).symm.trans hf
    refine X_iload_n (pc := 5) (i := 2) 2 dJ7_fill_53178_5 rfl rfl ?_
    refine X_iload_n (pc := 6) (i := 3) 3 dJ7_fill_53178_6 rfl rfl ?_
    by_cases c1 : l3 ≤ l2
    · replace hf := (if_pos c1).symm.trans hf
      refine X_icmp_ge_t (pc := 7) 20 dJ7_fill_53178_7 (by decide) c1 ?_
      cases hf
      exact X_return (pc := 20) rfl dJ7_fill_53178_20
    · replace hf := (if_neg c1).symm.trans hf
      refine X_icmp_ge_f (pc := 7) 20 dJ7_fill_53178_7 (by decide) c1 ?_
      refine X_aload_n (pc := 10) (i := 0) 0 dJ7_fill_53178_10 rfl rfl ?_
      refine X_iload_n (pc := 11) (i := 2) 2 dJ7_fill_53178_11 rfl rfl ?_
      refine X_iload_n (pc := 12) (i := 1) 1 dJ7_fill_53178_12 rfl rfl ?_
      obtain ⟨c2, hf⟩ := gd_some hf
      refine X_iastj (pc := 13) (j := (l2.toNatClampNeg)) (sh_20 hT) (vp_in_lit (N := 3) c2 (by decide)) rfl dJ7_fill_53178_13 ?_
      refine X_iinc (pc := 14) (i := 2) (q := 2) (v := (l2 + (1 : Int32))) [(2, .int (l2 + (1 : Int32))), (0, .ref (xP G 20)), (1, .int l1), (3, .int l3)] dJ7_fill_53178_14 rfl rfl (by decide) rfl ?_
      refine X_goto (pc := 17) 5 dJ7_fill_53178_17 (by decide) ?_
      exact X_lvs [1, 2, 0, 3] rfl (ih hf)
theorem u_Ar_fill_i_20_L5 {S : List xSh} : ∀ (n : Nat) {l1 : Int32} {l2 : Int32} {l3 : Int32} {I : Nat → Nat → Int32} {L : Nat → Nat → Int64} {q : ((Nat → Nat → Int32) × (Nat → Nat → Int64))}, f_Ar_fill_i_20_L5 n l1 l2 l3 I L = some q → FR S [20] [] I q.1 L q.2 := by
  intro n
  induction n with
  | zero =>
    intro l1 l2 l3 I L q hf
    exact absurd (show none = some q from hf) (by simp)
  | succ n ih =>
    intro l1 l2 l3 I L q hf
    replace hf := (f_Ar_fill_i_20_L5.eq_2 _ _ _ _ _ _).symm.trans hf
    by_cases c1 : l3 ≤ l2
    · replace hf := (if_pos c1).symm.trans hf
      cases hf
      exact FR.rf
    · replace hf := (if_neg c1).symm.trans hf
      obtain ⟨c2, hf⟩ := gd_some hf
      exact FR.tr (FR.ai FR.rf (by decide)) (ih hf) (by decide) (by decide)
def f_Ar_fill_i_20 (a1 : Int32) (I : Nat → Nat → Int32) (L : Nat → Nat → Int64) : Option ((Nat → Nat → Int32) × (Nat → Nat → Int64)) := (f_Ar_fill_i_20_L5 xF a1 (0 : Int32) (3 : Int32) I L)
set_option maxRecDepth 100000 in
set_option maxHeartbeats 4000000 in
theorem c_Ar_fill_i_20 {G : xG} {S : List xSh} {Rf : Nat → Nat → Option Nat} (hT : xTH S Rf) {a1 : Int32} {I : Nat → Nat → Int32} {L : Nat → Nat → Int64} {q : ((Nat → Nat → Int32) × (Nat → Nat → Int64))} (hf : f_Ar_fill_i_20 a1 I L = some q) : CT G 1 m_Ar_fill_i [.ref (xP G 20), .int a1] (S, I, L, Rf) (none, (S, q.1, q.2, Rf)) := by
  refine CT.of (by decide +kernel) (Nat.le_of_ble_eq_true rfl) ?_
  show X G 1 m_Ar_fill_i 0 [(0, .ref (xP G 20)), (1, .int a1)] [] (S, I, L, Rf) (none, (S, q.1, q.2, Rf))
  replace hf := (f_Ar_fill_i_20.eq_1 _ _ _).symm.trans hf
  refine X_iconst (pc := 0) (0 : Int32) dJ7_fill_53178_0 (by decide) ?_
  refine X_istore_n (pc := 1) (i := 2) [(2, .int (0 : Int32)), (0, .ref (xP G 20)), (1, .int a1)] dJ7_fill_53178_1 rfl (by decide) rfl ?_
  refine X_aload_n (pc := 2) (i := 0) 1 dJ7_fill_53178_2 rfl rfl ?_
  refine X_alen (pc := 3) (3 : Int32) (by decide) (sh_20 hT) (by decide) dJ7_fill_53178_3 ?_
  refine X_istore_n (pc := 4) (i := 3) [(3, .int (3 : Int32)), (2, .int (0 : Int32)), (0, .ref (xP G 20)), (1, .int a1)] dJ7_fill_53178_4 rfl (by decide) rfl ?_
  exact X_lvs [2, 3, 1, 0] rfl (x_Ar_fill_i_20_L5 hT xF hf)
theorem u_Ar_fill_i_20 {S : List xSh} {a1 : Int32} {I : Nat → Nat → Int32} {L : Nat → Nat → Int64} {q : ((Nat → Nat → Int32) × (Nat → Nat → Int64))} (hf : f_Ar_fill_i_20 a1 I L = some q) : FR S [20] [] I q.1 L q.2 := by
  replace hf := (f_Ar_fill_i_20.eq_1 _ _ _).symm.trans hf
  exact FR.tr FR.rf (u_Ar_fill_i_20_L5 xF hf) (by decide) (by decide)
theorem dX9_productOf_0 : decode cX9_productOf 0 = .ok (.lconst 1, 1) := by decide +kernel
theorem dX9_productOf_1 : decode cX9_productOf 1 = .ok (.lstore_n 2, 1) := by decide +kernel
theorem dX9_productOf_2 : decode cX9_productOf 2 = .ok (.iconst 0, 1) := by decide +kernel
theorem dX9_productOf_3 : decode cX9_productOf 3 = .ok (.istore 4, 2) := by decide +kernel
theorem dX9_productOf_5 : decode cX9_productOf 5 = .ok (.iload 4, 2) := by decide +kernel
theorem dX9_productOf_7 : decode cX9_productOf 7 = .ok (.iload_n 1, 1) := by decide +kernel
theorem dX9_productOf_8 : decode cX9_productOf 8 = .ok (.if_icmp .ge 24, 3) := by decide +kernel
theorem dX9_productOf_11 : decode cX9_productOf 11 = .ok (.iload 4, 2) := by decide +kernel
theorem dX9_productOf_13 : decode cX9_productOf 13 = .ok (.aload_n 0, 1) := by decide +kernel
theorem dX9_productOf_14 : decode cX9_productOf 14 = .ok (.arraylength, 1) := by decide +kernel
theorem dX9_productOf_15 : decode cX9_productOf 15 = .ok (.if_icmp .ge 17, 3) := by decide +kernel
theorem dX9_productOf_18 : decode cX9_productOf 18 = .ok (.lload_n 2, 1) := by decide +kernel
theorem dX9_productOf_19 : decode cX9_productOf 19 = .ok (.aload_n 0, 1) := by decide +kernel
theorem dX9_productOf_20 : decode cX9_productOf 20 = .ok (.iload 4, 2) := by decide +kernel
theorem dX9_productOf_22 : decode cX9_productOf 22 = .ok (.iaload, 1) := by decide +kernel
theorem dX9_productOf_23 : decode cX9_productOf 23 = .ok (.i2l, 1) := by decide +kernel
theorem dX9_productOf_24 : decode cX9_productOf 24 = .ok (.lmul, 1) := by decide +kernel
theorem dX9_productOf_25 : decode cX9_productOf 25 = .ok (.lstore_n 2, 1) := by decide +kernel
theorem dX9_productOf_26 : decode cX9_productOf 26 = .ok (.iinc 4 1, 3) := by decide +kernel
theorem dX9_productOf_29 : decode cX9_productOf 29 = .ok (.goto (-24), 3) := by decide +kernel
theorem dX9_productOf_32 : decode cX9_productOf 32 = .ok (.lload_n 2, 1) := by decide +kernel
theorem dX9_productOf_33 : decode cX9_productOf 33 = .ok (.lreturn, 1) := by decide +kernel
def f_Tr_productOf_20_L5 : Nat → Int32 → Int64 → Int32 → (Nat → Nat → Int32) → (Nat → Nat → Int64) → Option Int64
  | 0, _, _, _, _, _ => none
  | n + 1, l1, l2, l4, I, L => (if l1 ≤ l4 then (some l2) else (if (3 : Int32) ≤ l4 then (some l2) else (if (0 ≤ l4 ∧ l4 < (3 : Int32)) then (bnd (l2 * (Int32.toInt64 (I 20 (l4.toNatClampNeg)))) fun x4 => (f_Tr_productOf_20_L5 n l1 x4 (l4 + (1 : Int32)) I L)) else none)))
set_option maxRecDepth 100000 in
set_option maxHeartbeats 4000000 in
theorem x_Tr_productOf_20_L5 {G : xG} {S : List xSh} {Rf : Nat → Nat → Option Nat} (hT : xTH S Rf) : ∀ (n : Nat) {l1 : Int32} {l2 : Int64} {l4 : Int32} {I : Nat → Nat → Int32} {L : Nat → Nat → Int64} {q : Int64}, f_Tr_productOf_20_L5 n l1 l2 l4 I L = some q → X G 1 m_Tr_productOf 5 [(0, .ref (xP G 20)), (1, .int l1), (2, .long l2), (4, .int l4)] [] (S, I, L, Rf) (some (.long q), (S, I, L, Rf)) := by
  intro n
  induction n with
  | zero =>
    intro l1 l2 l4 I L q hf
    exact absurd (show none = some q from hf) (by simp)
  | succ n ih =>
    intro l1 l2 l4 I L q hf
    replace hf := (f_Tr_productOf_20_L5.eq_2 _ _ _ _ _ _).symm.trans hf
    refine X_iload (pc := 5) 3 dX9_productOf_5 rfl ?_
    refine X_iload_n (pc := 7) (i := 1) 1 dX9_productOf_7 rfl rfl ?_
    by_cases c1 : l1 ≤ l4
    · replace hf := (if_pos c1).symm.trans hf
      refine X_icmp_ge_t (pc := 8) 32 dX9_productOf_8 (by decide) c1 ?_
      refine X_lload_n (pc := 32) (i := 2) 2 dX9_productOf_32 rfl rfl ?_
      cases hf
      exact X_lreturn (pc := 33) rfl dX9_productOf_33
    · replace hf := (if_neg c1).symm.trans hf
      refine X_icmp_ge_f (pc := 8) 32 dX9_productOf_8 (by decide) c1 ?_
      refine X_iload (pc := 11) 3 dX9_productOf_11 rfl ?_
      refine X_aload_n (pc := 13) (i := 0) 0 dX9_productOf_13 rfl rfl ?_
      refine X_alen (pc := 14) (3 : Int32) (by decide) (sh_20 hT) (by decide) dX9_productOf_14 ?_
      by_cases c2 : (3 : Int32) ≤ l4
      · replace hf := (if_pos c2).symm.trans hf
        refine X_icmp_ge_t (pc := 15) 32 dX9_productOf_15 (by decide) c2 ?_
        refine X_lload_n (pc := 32) (i := 2) 2 dX9_productOf_32 rfl rfl ?_
        cases hf
        exact X_lreturn (pc := 33) rfl dX9_productOf_33
      · replace hf := (if_neg c2).symm.trans hf
        refine X_icmp_ge_f (pc := 15) 32 dX9_productOf_15 (by decide) c2 ?_
        refine X_lload_n (pc := 18) (i := 2) 2 dX9_productOf_18 rfl rfl ?_
        refine X_aload_n (pc := 19) (i := 0) 0 dX9_productOf_19 rfl rfl ?_
        refine X_iload (pc := 20) 3 dX9_productOf_20 rfl ?_
        obtain ⟨c3, hf⟩ := gd_some hf
        refine X_ialdj (pc := 22) (j := l4.toNatClampNeg) (I 20 (l4.toNatClampNeg)) (sh_20 hT) (vp_in_lit (N := 3) c3 (by decide)) rfl rfl dX9_productOf_22 ?_
        refine X_i2l (pc := 23) dX9_productOf_23 ?_
        refine X_lmul (pc := 24) dX9_productOf_24 ?_
        obtain ⟨x4, ex4, hf⟩ := bnd_e hf
        refine X_tople ex4 ?_
        refine X_lstore_n (pc := 25) (i := 2) [(2, .long x4), (0, .ref (xP G 20)), (1, .int l1), (4, .int l4)] dX9_productOf_25 rfl (by decide) rfl ?_
        refine X_iinc (pc := 26) (i := 4) (q := 3) (v := (l4 + (1 : Int32))) [(4, .int (l4 + (1 : Int32))), (2, .long x4), (0, .ref (xP G 20)), (1, .int l1)] dX9_productOf_26 rfl rfl (by decide) rfl ?_
        refine X_goto (pc := 29) 5 dX9_productOf_29 (by decide) ?_
        exact X_lvs [2, 3, 1, 0] rfl (ih hf)
def f_Tr_productOf_20 (a1 : Int32) (I : Nat → Nat → Int32) (L : Nat → Nat → Int64) : Option Int64 := (f_Tr_productOf_20_L5 xF a1 (1 : Int64) (0 : Int32) I L)
set_option maxRecDepth 100000 in
set_option maxHeartbeats 4000000 in
theorem c_Tr_productOf_20 {G : xG} {S : List xSh} {Rf : Nat → Nat → Option Nat} (hT : xTH S Rf) {a1 : Int32} {I : Nat → Nat → Int32} {L : Nat → Nat → Int64} {q : Int64} (hf : f_Tr_productOf_20 a1 I L = some q) : CT G 1 m_Tr_productOf [.ref (xP G 20), .int a1] (S, I, L, Rf) (some (.long q), (S, I, L, Rf)) := by
  refine CT.of (by decide +kernel) (Nat.le_of_ble_eq_true rfl) ?_
  show X G 1 m_Tr_productOf 0 [(0, .ref (xP G 20)), (1, .int a1)] [] (S, I, L, Rf) (some (.long q), (S, I, L, Rf))
  replace hf := (f_Tr_productOf_20.eq_1 _ _ _).symm.trans hf
  refine X_lconst (pc := 0) (1 : Int64) dX9_productOf_0 (by decide) ?_
  refine X_lstore_n (pc := 1) (i := 2) [(2, .long (1 : Int64)), (0, .ref (xP G 20)), (1, .int a1)] dX9_productOf_1 rfl (by decide) rfl ?_
  refine X_iconst (pc := 2) (0 : Int32) dX9_productOf_2 (by decide) ?_
  refine X_istore (pc := 3) [(4, .int (0 : Int32)), (2, .long (1 : Int64)), (0, .ref (xP G 20)), (1, .int a1)] dX9_productOf_3 (by decide) rfl ?_
  exact X_lvs [2, 3, 1, 0] rfl (x_Tr_productOf_20_L5 hT xF hf)
def f_Ar_fill_i_21_L5 : Nat → Int32 → Int32 → Int32 → (Nat → Nat → Int32) → (Nat → Nat → Int64) → Option ((Nat → Nat → Int32) × (Nat → Nat → Int64))
  | 0, _, _, _, _, _ => none
  | n + 1, l1, l2, l3, I, L => (if l3 ≤ l2 then (some (I, L)) else (if (0 ≤ l2 ∧ l2 < (3 : Int32)) then (f_Ar_fill_i_21_L5 n l1 (l2 + (1 : Int32)) l3 (uI I 21 (l2.toNatClampNeg) l1) L) else none))
set_option maxRecDepth 100000 in
set_option maxHeartbeats 4000000 in
theorem x_Ar_fill_i_21_L5 {G : xG} {S : List xSh} {Rf : Nat → Nat → Option Nat} (hT : xTH S Rf) : ∀ (n : Nat) {l1 : Int32} {l2 : Int32} {l3 : Int32} {I : Nat → Nat → Int32} {L : Nat → Nat → Int64} {q : ((Nat → Nat → Int32) × (Nat → Nat → Int64))}, f_Ar_fill_i_21_L5 n l1 l2 l3 I L = some q → X G 1 m_Ar_fill_i 5 [(0, .ref (xP G 21)), (1, .int l1), (2, .int l2), (3, .int l3)] [] (S, I, L, Rf) (none, (S, q.1, q.2, Rf)) := by
  intro n
  induction n with
  | zero =>
    intro l1 l2 l3 I L q hf
    exact absurd (show none = some q from hf) (by simp)
  | succ n ih =>
    intro l1 l2 l3 I L q hf
    replace hf := (f_Ar_fill_i_21_L5.eq_2 _ _ _ _ _ _).symm.trans hf
    refine X_iload_n (pc := 5) (i := 2) 2 dJ7_fill_53178_5 rfl rfl ?_
    refine X_iload_n (pc := 6) (i := 3) 3 dJ7_fill_53178_6 rfl rfl ?_
    by_cases c1 : l3 ≤ l2
    · replace hf := (if_pos c1).symm.trans hf
      refine X_icmp_ge_t (pc := 7) 20 dJ7_fill_53178_7 (by decide) c1 ?_
      cases hf
      exact X_return (pc := 20) rfl dJ7_fill_53178_20
    · replace hf := (if_neg c1).symm.trans hf
      refine X_icmp_ge_f (pc := 7) 20 dJ7_fill_53178_7 (by decide) c1 ?_
      refine X_aload_n (pc := 10) (i := 0) 0 dJ7_fill_53178_10 rfl rfl ?_
      refine X_iload_n (pc := 11) (i := 2) 2 dJ7_fill_53178_11 rfl rfl ?_
      refine X_iload_n (pc := 12) (i := 1) 1 dJ7_fill_53178_12 rfl rfl ?_
      obtain ⟨c2, hf⟩ := gd_some hf
      refine X_iastj (pc := 13) (j := (l2.toNatClampNeg)) (sh_21 hT) (vp_in_lit (N := 3) c2 (by decide)) rfl dJ7_fill_53178_13 ?_
      refine X_iinc (pc := 14) (i := 2) (q := 2) (v := (l2 + (1 : Int32))) [(2, .int (l2 + (1 : Int32))), (0, .ref (xP G 21)), (1, .int l1), (3, .int l3)] dJ7_fill_53178_14 rfl rfl (by decide) rfl ?_
      refine X_goto (pc := 17) 5 dJ7_fill_53178_17 (by decide) ?_
      exact X_lvs [1, 2, 0, 3] rfl (ih hf)
theorem u_Ar_fill_i_21_L5 {S : List xSh} : ∀ (n : Nat) {l1 : Int32} {l2 : Int32} {l3 : Int32} {I : Nat → Nat → Int32} {L : Nat → Nat → Int64} {q : ((Nat → Nat → Int32) × (Nat → Nat → Int64))}, f_Ar_fill_i_21_L5 n l1 l2 l3 I L = some q → FR S [21] [] I q.1 L q.2 := by
  intro n
  induction n with
  | zero =>
    intro l1 l2 l3 I L q hf
    exact absurd (show none = some q from hf) (by simp)
  | succ n ih =>
    intro l1 l2 l3 I L q hf
    replace hf := (f_Ar_fill_i_21_L5.eq_2 _ _ _ _ _ _).symm.trans hf
    by_cases c1 : l3 ≤ l2
    · replace hf := (if_pos c1).symm.trans hf
      cases hf
      exact FR.rf
    · replace hf := (if_neg c1).symm.trans hf
      obtain ⟨c2, hf⟩ := gd_some hf
      exact FR.tr (FR.ai FR.rf (by decide)) (ih hf) (by decide) (by decide)
def f_Ar_fill_i_21 (a1 : Int32) (I : Nat → Nat → Int32) (L : Nat → Nat → Int64) : Option ((Nat → Nat → Int32) × (Nat → Nat → Int64)) := (f_Ar_fill_i_21_L5 xF a1 (0 : Int32) (3 : Int32) I L)
set_option maxRecDepth 100000 in
set_option maxHeartbeats 4000000 in
theorem c_Ar_fill_i_21 {G : xG} {S : List xSh} {Rf : Nat → Nat → Option Nat} (hT : xTH S Rf) {a1 : Int32} {I : Nat → Nat → Int32} {L : Nat → Nat → Int64} {q : ((Nat → Nat → Int32) × (Nat → Nat → Int64))} (hf : f_Ar_fill_i_21 a1 I L = some q) : CT G 1 m_Ar_fill_i [.ref (xP G 21), .int a1] (S, I, L, Rf) (none, (S, q.1, q.2, Rf)) := by
  refine CT.of (by decide +kernel) (Nat.le_of_ble_eq_true rfl) ?_
  show X G 1 m_Ar_fill_i 0 [(0, .ref (xP G 21)), (1, .int a1)] [] (S, I, L, Rf) (none, (S, q.1, q.2, Rf))
  replace hf := (f_Ar_fill_i_21.eq_1 _ _ _).symm.trans hf
  refine X_iconst (pc := 0) (0 : Int32) dJ7_fill_53178_0 (by decide) ?_
  refine X_istore_n (pc := 1) (i := 2) [(2, .int (0 : Int32)), (0, .ref (xP G 21)), (1, .int a1)] dJ7_fill_53178_1 rfl (by decide) rfl ?_
  refine X_aload_n (pc := 2) (i := 0) 1 dJ7_fill_53178_2 rfl rfl ?_
  refine X_alen (pc := 3) (3 : Int32) (by decide) (sh_21 hT) (by decide) dJ7_fill_53178_3 ?_
  refine X_istore_n (pc := 4) (i := 3) [(3, .int (3 : Int32)), (2, .int (0 : Int32)), (0, .ref (xP G 21)), (1, .int a1)] dJ7_fill_53178_4 rfl (by decide) rfl ?_
  exact X_lvs [2, 3, 1, 0] rfl (x_Ar_fill_i_21_L5 hT xF hf)
theorem u_Ar_fill_i_21 {S : List xSh} {a1 : Int32} {I : Nat → Nat → Int32} {L : Nat → Nat → Int64} {q : ((Nat → Nat → Int32) × (Nat → Nat → Int64))} (hf : f_Ar_fill_i_21 a1 I L = some q) : FR S [21] [] I q.1 L q.2 := by
  replace hf := (f_Ar_fill_i_21.eq_1 _ _ _).symm.trans hf
  exact FR.tr FR.rf (u_Ar_fill_i_21_L5 xF hf) (by decide) (by decide)
def f_Tr_productOf_21_L5 : Nat → Int32 → Int64 → Int32 → (Nat → Nat → Int32) → (Nat → Nat → Int64) → Option Int64
  | 0, _, _, _, _, _ => none
  | n + 1, l1, l2, l4, I, L => (if l1 ≤ l4 then (some l2) else (if (3 : Int32) ≤ l4 then (some l2) else (if (0 ≤ l4 ∧ l4 < (3 : Int32)) then (bnd (l2 * (Int32.toInt64 (I 21 (l4.toNatClampNeg)))) fun x4 => (f_Tr_productOf_21_L5 n l1 x4 (l4 + (1 : Int32)) I L)) else none)))
set_option maxRecDepth 100000 in
set_option maxHeartbeats 4000000 in
theorem x_Tr_productOf_21_L5 {G : xG} {S : List xSh} {Rf : Nat → Nat → Option Nat} (hT : xTH S Rf) : ∀ (n : Nat) {l1 : Int32} {l2 : Int64} {l4 : Int32} {I : Nat → Nat → Int32} {L : Nat → Nat → Int64} {q : Int64}, f_Tr_productOf_21_L5 n l1 l2 l4 I L = some q → X G 1 m_Tr_productOf 5 [(0, .ref (xP G 21)), (1, .int l1), (2, .long l2), (4, .int l4)] [] (S, I, L, Rf) (some (.long q), (S, I, L, Rf)) := by
  intro n
  induction n with
  | zero =>
    intro l1 l2 l4 I L q hf
    exact absurd (show none = some q from hf) (by simp)
  | succ n ih =>
    intro l1 l2 l4 I L q hf
    replace hf := (f_Tr_productOf_21_L5.eq_2 _ _ _ _ _ _).symm.trans hf
    refine X_iload (pc := 5) 3 dX9_productOf_5 rfl ?_
    refine X_iload_n (pc := 7) (i := 1) 1 dX9_productOf_7 rfl rfl ?_
    by_cases c1 : l1 ≤ l4
    · replace hf := (if_pos c1).symm.trans hf
      refine X_icmp_ge_t (pc := 8) 32 dX9_productOf_8 (by decide) c1 ?_
      refine X_lload_n (pc := 32) (i := 2) 2 dX9_productOf_32 rfl rfl ?_
      cases hf
      exact X_lreturn (pc := 33) rfl dX9_productOf_33
    · replace hf := (if_neg c1).symm.trans hf
      refine X_icmp_ge_f (pc := 8) 32 dX9_productOf_8 (by decide) c1 ?_
      refine X_iload (pc := 11) 3 dX9_productOf_11 rfl ?_
      refine X_aload_n (pc := 13) (i := 0) 0 dX9_productOf_13 rfl rfl ?_
      refine X_alen (pc := 14) (3 : Int32) (by decide) (sh_21 hT) (by decide) dX9_productOf_14 ?_
      by_cases c2 : (3 : Int32) ≤ l4
      · replace hf := (if_pos c2).symm.trans hf
        refine X_icmp_ge_t (pc := 15) 32 dX9_productOf_15 (by decide) c2 ?_
        refine X_lload_n (pc := 32) (i := 2) 2 dX9_productOf_32 rfl rfl ?_
        cases hf
        exact X_lreturn (pc := 33) rfl dX9_productOf_33
      · replace hf := (if_neg c2).symm.trans hf
        refine X_icmp_ge_f (pc := 15) 32 dX9_productOf_15 (by decide) c2 ?_
        refine X_lload_n (pc := 18) (i := 2) 2 dX9_productOf_18 rfl rfl ?_
        refine X_aload_n (pc := 19) (i := 0) 0 dX9_productOf_19 rfl rfl ?_
        refine X_iload (pc := 20) 3 dX9_productOf_20 rfl ?_
        obtain ⟨c3, hf⟩ := gd_some hf
        refine X_ialdj (pc := 22) (j := l4.toNatClampNeg) (I 21 (l4.toNatClampNeg)) (sh_21 hT) (vp_in_lit (N := 3) c3 (by decide)) rfl rfl dX9_productOf_22 ?_
        refine X_i2l (pc := 23) dX9_productOf_23 ?_
        refine X_lmul (pc := 24) dX9_productOf_24 ?_
        obtain ⟨x4, ex4, hf⟩ := bnd_e hf
        refine X_tople ex4 ?_
        refine X_lstore_n (pc := 25) (i := 2) [(2, .long x4), (0, .ref (xP G 21)), (1, .int l1), (4, .int l4)] dX9_productOf_25 rfl (by decide) rfl ?_
        refine X_iinc (pc := 26) (i := 4) (q := 3) (v := (l4 + (1 : Int32))) [(4, .int (l4 + (1 : Int32))), (2, .long x4), (0, .ref (xP G 21)), (1, .int l1)] dX9_productOf_26 rfl rfl (by decide) rfl ?_
        refine X_goto (pc := 29) 5 dX9_productOf_29 (by decide) ?_
        exact X_lvs [2, 3, 1, 0] rfl (ih hf)
def f_Tr_productOf_21 (a1 : Int32) (I : Nat → Nat → Int32) (L : Nat → Nat → Int64) : Option Int64 := (f_Tr_productOf_21_L5 xF a1 (1 : Int64) (0 : Int32) I L)
set_option maxRecDepth 100000 in
set_option maxHeartbeats 4000000 in
theorem c_Tr_productOf_21 {G : xG} {S : List xSh} {Rf : Nat → Nat → Option Nat} (hT : xTH S Rf) {a1 : Int32} {I : Nat → Nat → Int32} {L : Nat → Nat → Int64} {q : Int64} (hf : f_Tr_productOf_21 a1 I L = some q) : CT G 1 m_Tr_productOf [.ref (xP G 21), .int a1] (S, I, L, Rf) (some (.long q), (S, I, L, Rf)) := by
  refine CT.of (by decide +kernel) (Nat.le_of_ble_eq_true rfl) ?_
  show X G 1 m_Tr_productOf 0 [(0, .ref (xP G 21)), (1, .int a1)] [] (S, I, L, Rf) (some (.long q), (S, I, L, Rf))
  replace hf := (f_Tr_productOf_21.eq_1 _ _ _).symm.trans hf
  refine X_lconst (pc := 0) (1 : Int64) dX9_productOf_0 (by decide) ?_
  refine X_lstore_n (pc := 1) (i := 2) [(2, .long (1 : Int64)), (0, .ref (xP G 21)), (1, .int a1)] dX9_productOf_1 rfl (by decide) rfl ?_
  refine X_iconst (pc := 2) (0 : Int32) dX9_productOf_2 (by decide) ?_
  refine X_istore (pc := 3) [(4, .int (0 : Int32)), (2, .long (1 : Int64)), (0, .ref (xP G 21)), (1, .int a1)] dX9_productOf_3 (by decide) rfl ?_
  exact X_lvs [2, 3, 1, 0] rfl (x_Tr_productOf_21_L5 hT xF hf)
theorem dX9_keep_0 : decode cX9_keep 0 = .ok (.aload_n 0, 1) := by decide +kernel
theorem dX9_keep_1 : decode cX9_keep 1 = .ok (.iload_n 1, 1) := by decide +kernel
theorem dX9_keep_2 : decode cX9_keep 2 = .ok (.putfield 64, 3) := by decide +kernel
theorem dX9_keep_5 : decode cX9_keep 5 = .ok (.aload_n 0, 1) := by decide +kernel
theorem dX9_keep_6 : decode cX9_keep 6 = .ok (.lload_n 2, 1) := by decide +kernel
theorem dX9_keep_7 : decode cX9_keep 7 = .ok (.putfield 67, 3) := by decide +kernel
theorem dX9_keep_10 : decode cX9_keep 10 = .ok (.aload_n 0, 1) := by decide +kernel
theorem dX9_keep_11 : decode cX9_keep 11 = .ok (.lload 4, 2) := by decide +kernel
theorem dX9_keep_13 : decode cX9_keep 13 = .ok (.putfield 50, 3) := by decide +kernel
theorem dX9_keep_16 : decode cX9_keep 16 = .ok (.aload_n 0, 1) := by decide +kernel
theorem dX9_keep_17 : decode cX9_keep 17 = .ok (.getfield 31, 3) := by decide +kernel
theorem dX9_keep_20 : decode cX9_keep 20 = .ok (.iconst 0, 1) := by decide +kernel
theorem dX9_keep_21 : decode cX9_keep 21 = .ok (.aload_n 0, 1) := by decide +kernel
theorem dX9_keep_22 : decode cX9_keep 22 = .ok (.getfield 24, 3) := by decide +kernel
theorem dX9_keep_25 : decode cX9_keep 25 = .ok (.iconst 0, 1) := by decide +kernel
theorem dX9_keep_26 : decode cX9_keep 26 = .ok (.iconst 3, 1) := by decide +kernel
theorem dX9_keep_27 : decode cX9_keep 27 = .ok (.invokestatic 102, 3) := by decide +kernel
theorem dX9_keep_30 : decode cX9_keep 30 = .ok (.aload_n 0, 1) := by decide +kernel
theorem dX9_keep_31 : decode cX9_keep 31 = .ok (.getfield 34, 3) := by decide +kernel
theorem dX9_keep_34 : decode cX9_keep 34 = .ok (.iconst 0, 1) := by decide +kernel
theorem dX9_keep_35 : decode cX9_keep 35 = .ok (.aload_n 0, 1) := by decide +kernel
theorem dX9_keep_36 : decode cX9_keep 36 = .ok (.getfield 28, 3) := by decide +kernel
theorem dX9_keep_39 : decode cX9_keep 39 = .ok (.iconst 0, 1) := by decide +kernel
theorem dX9_keep_40 : decode cX9_keep 40 = .ok (.iconst 3, 1) := by decide +kernel
theorem dX9_keep_41 : decode cX9_keep 41 = .ok (.invokestatic 102, 3) := by decide +kernel
theorem dX9_keep_44 : decode cX9_keep 44 = .ok (.return_, 1) := by decide +kernel
def f_Tr_keep (a0 : Int32) (a1 : Int64) (a2 : Int64) (I : Nat → Nat → Int32) (L : Nat → Nat → Int64) : Option ((Nat → Nat → Int32) × (Nat → Nat → Int64)) := (some ((uC (uC (uI I 17 4 a0) 20 (Int32.toNatClampNeg (0 : Int32)) 18 (Int32.toNatClampNeg (0 : Int32)) (Int32.toNatClampNeg (3 : Int32))) 21 (Int32.toNatClampNeg (0 : Int32)) 19 (Int32.toNatClampNeg (0 : Int32)) (Int32.toNatClampNeg (3 : Int32))), (uL (uL L 17 11 a1) 17 12 a2)))
set_option maxRecDepth 100000 in
set_option maxHeartbeats 4000000 in
theorem c_Tr_keep {G : xG} {S : List xSh} {Rf : Nat → Nat → Option Nat} (hT : xTH S Rf) {a0 : Int32} {a1 : Int64} {a2 : Int64} {I : Nat → Nat → Int32} {L : Nat → Nat → Int64} {q : ((Nat → Nat → Int32) × (Nat → Nat → Int64))} (hf : f_Tr_keep a0 a1 a2 I L = some q) : CT G 1 m_Tr_keep [.ref (xP G 17), .int a0, .long a1, .long a2] (S, I, L, Rf) (none, (S, q.1, q.2, Rf)) := by
  refine CT.of (by decide +kernel) (Nat.le_of_ble_eq_true rfl) ?_
  show X G 1 m_Tr_keep 0 [(0, .ref (xP G 17)), (1, .int a0), (2, .long a1), (4, .long a2)] [] (S, I, L, Rf) (none, (S, q.1, q.2, Rf))
  replace hf := (f_Tr_keep.eq_1 _ _ _ _ _).symm.trans hf
  refine X_aload_n (pc := 0) (i := 0) 0 dX9_keep_0 rfl rfl ?_
  refine X_iload_n (pc := 1) (i := 1) 1 dX9_keep_1 rfl rfl ?_
  refine X_puti (pc := 2) (a := 17) (ci := 9) (j := 4) 4 rfl false (sh_17 hT) (by decide) k_255 rfl (fun h => by cases h) rfl dX9_keep_2 ?_
  refine X_aload_n (pc := 5) (i := 0) 0 dX9_keep_5 rfl rfl ?_
  refine X_lload_n (pc := 6) (i := 2) 2 dX9_keep_6 rfl rfl ?_
  refine X_putl (pc := 7) (a := 17) (ci := 9) (j := 11) 11 rfl false (sh_17 hT) (by decide) k_267 rfl (fun h => by cases h) rfl dX9_keep_7 ?_
  refine X_aload_n (pc := 10) (i := 0) 0 dX9_keep_10 rfl rfl ?_
  refine X_lload (pc := 11) 3 dX9_keep_11 rfl ?_
  refine X_putl (pc := 13) (a := 17) (ci := 9) (j := 12) 12 rfl false (sh_17 hT) (by decide) k_268 rfl (fun h => by cases h) rfl dX9_keep_13 ?_
  refine X_aload_n (pc := 16) (i := 0) 0 dX9_keep_16 rfl rfl ?_
  refine X_getr (pc := 17) (a := 17) (ci := 9) (j := 13) (c := 20) (sh_17 hT) (by decide) k_269 (rf_17_13 hT) (fun _ h => h) dX9_keep_17 ?_
  refine X_iconst (pc := 20) (0 : Int32) dX9_keep_20 (by decide) ?_
  refine X_aload_n (pc := 21) (i := 0) 0 dX9_keep_21 rfl rfl ?_
  refine X_getr (pc := 22) (a := 17) (ci := 9) (j := 5) (c := 18) (sh_17 hT) (by decide) k_257 (rf_17_5 hT) (fun _ h => h) dX9_keep_22 ?_
  refine X_iconst (pc := 25) (0 : Int32) dX9_keep_25 (by decide) ?_
  refine X_iconst (pc := 26) (3 : Int32) dX9_keep_26 (by decide) ?_
  refine X_copyi (pc := 27) (sh_20 hT) (sh_18 hT) k_1035 k_1037 k_1036 k_86 (by decide) (by decide) (by decide) (by decide) (by decide) (by decide) (Nat.le_of_ble_eq_true rfl) dX9_keep_27 ?_
  refine X_aload_n (pc := 30) (i := 0) 0 dX9_keep_30 rfl rfl ?_
  refine X_getr (pc := 31) (a := 17) (ci := 9) (j := 14) (c := 21) (sh_17 hT) (by decide) k_270 (rf_17_14 hT) (fun _ h => h) dX9_keep_31 ?_
  refine X_iconst (pc := 34) (0 : Int32) dX9_keep_34 (by decide) ?_
  refine X_aload_n (pc := 35) (i := 0) 0 dX9_keep_35 rfl rfl ?_
  refine X_getr (pc := 36) (a := 17) (ci := 9) (j := 6) (c := 19) (sh_17 hT) (by decide) k_259 (rf_17_6 hT) (fun _ h => h) dX9_keep_36 ?_
  refine X_iconst (pc := 39) (0 : Int32) dX9_keep_39 (by decide) ?_
  refine X_iconst (pc := 40) (3 : Int32) dX9_keep_40 (by decide) ?_
  refine X_copyi (pc := 41) (sh_21 hT) (sh_19 hT) k_1035 k_1037 k_1036 k_86 (by decide) (by decide) (by decide) (by decide) (by decide) (by decide) (Nat.le_of_ble_eq_true rfl) dX9_keep_41 ?_
  cases hf
  exact X_return (pc := 44) rfl dX9_keep_44
theorem u_Tr_keep {S : List xSh} {a0 : Int32} {a1 : Int64} {a2 : Int64} {I : Nat → Nat → Int32} {L : Nat → Nat → Int64} {q : ((Nat → Nat → Int32) × (Nat → Nat → Int64))} (hf : f_Tr_keep a0 a1 a2 I L = some q) : FR S [18, 19, 2704] [2711, 2712] I q.1 L q.2 := by
  replace hf := (f_Tr_keep.eq_1 _ _ _ _ _).symm.trans hf
  cases hf
  exact (FR.ci (FR.ci (FR.fl (FR.fl (FR.fi FR.rf (by decide)) (by decide)) (by decide)) (by decide)) (by decide))
theorem dX9_nextRow_0 : decode cX9_nextRow 0 = .ok (.iload_n 1, 1) := by decide +kernel
theorem dX9_nextRow_1 : decode cX9_nextRow 1 = .ok (.aload_n 0, 1) := by decide +kernel
theorem dX9_nextRow_2 : decode cX9_nextRow 2 = .ok (.arraylength, 1) := by decide +kernel
theorem dX9_nextRow_3 : decode cX9_nextRow 3 = .ok (.invokestatic 98, 3) := by decide +kernel
theorem dX9_nextRow_6 : decode cX9_nextRow 6 = .ok (.istore_n 3, 1) := by decide +kernel
theorem dX9_nextRow_7 : decode cX9_nextRow 7 = .ok (.iload_n 3, 1) := by decide +kernel
theorem dX9_nextRow_8 : decode cX9_nextRow 8 = .ok (.iconst 1, 1) := by decide +kernel
theorem dX9_nextRow_9 : decode cX9_nextRow 9 = .ok (.isub, 1) := by decide +kernel
theorem dX9_nextRow_10 : decode cX9_nextRow 10 = .ok (.istore 4, 2) := by decide +kernel
theorem dX9_nextRow_12 : decode cX9_nextRow 12 = .ok (.iload 4, 2) := by decide +kernel
theorem dX9_nextRow_14 : decode cX9_nextRow 14 = .ok (.ifCond .lt 48, 3) := by decide +kernel
theorem dX9_nextRow_17 : decode cX9_nextRow 17 = .ok (.aload_n 0, 1) := by decide +kernel
theorem dX9_nextRow_18 : decode cX9_nextRow 18 = .ok (.iload 4, 2) := by decide +kernel
theorem dX9_nextRow_20 : decode cX9_nextRow 20 = .ok (.iaload, 1) := by decide +kernel
theorem dX9_nextRow_21 : decode cX9_nextRow 21 = .ok (.iload_n 2, 1) := by decide +kernel
theorem dX9_nextRow_22 : decode cX9_nextRow 22 = .ok (.if_icmp .ge 34, 3) := by decide +kernel
theorem dX9_nextRow_25 : decode cX9_nextRow 25 = .ok (.aload_n 0, 1) := by decide +kernel
theorem dX9_nextRow_26 : decode cX9_nextRow 26 = .ok (.iload 4, 2) := by decide +kernel
theorem dX9_nextRow_28 : decode cX9_nextRow 28 = .ok (.iaload, 1) := by decide +kernel
theorem dX9_nextRow_29 : decode cX9_nextRow 29 = .ok (.iconst 1, 1) := by decide +kernel
theorem dX9_nextRow_30 : decode cX9_nextRow 30 = .ok (.iadd, 1) := by decide +kernel
theorem dX9_nextRow_31 : decode cX9_nextRow 31 = .ok (.istore 5, 2) := by decide +kernel
theorem dX9_nextRow_33 : decode cX9_nextRow 33 = .ok (.iload 4, 2) := by decide +kernel
theorem dX9_nextRow_35 : decode cX9_nextRow 35 = .ok (.istore 6, 2) := by decide +kernel
theorem dX9_nextRow_37 : decode cX9_nextRow 37 = .ok (.iload 6, 2) := by decide +kernel
theorem dX9_nextRow_39 : decode cX9_nextRow 39 = .ok (.iload_n 3, 1) := by decide +kernel
theorem dX9_nextRow_40 : decode cX9_nextRow 40 = .ok (.if_icmp .ge 15, 3) := by decide +kernel
theorem dX9_nextRow_43 : decode cX9_nextRow 43 = .ok (.aload_n 0, 1) := by decide +kernel
theorem dX9_nextRow_44 : decode cX9_nextRow 44 = .ok (.iload 6, 2) := by decide +kernel
theorem dX9_nextRow_46 : decode cX9_nextRow 46 = .ok (.iload 5, 2) := by decide +kernel
theorem dX9_nextRow_48 : decode cX9_nextRow 48 = .ok (.iastore, 1) := by decide +kernel
theorem dX9_nextRow_49 : decode cX9_nextRow 49 = .ok (.iinc 6 1, 3) := by decide +kernel
theorem dX9_nextRow_52 : decode cX9_nextRow 52 = .ok (.goto (-15), 3) := by decide +kernel
theorem dX9_nextRow_55 : decode cX9_nextRow 55 = .ok (.return_, 1) := by decide +kernel
theorem dX9_nextRow_56 : decode cX9_nextRow 56 = .ok (.iinc 4 (-1), 3) := by decide +kernel
theorem dX9_nextRow_59 : decode cX9_nextRow 59 = .ok (.goto (-47), 3) := by decide +kernel
theorem dX9_nextRow_62 : decode cX9_nextRow 62 = .ok (.return_, 1) := by decide +kernel
def f_Tr_nextRow_21_L37 : Nat → Int32 → Int32 → Int32 → (Nat → Nat → Int32) → (Nat → Nat → Int64) → Option ((Nat → Nat → Int32) × (Nat → Nat → Int64))
  | 0, _, _, _, _, _ => none
  | n + 1, l3, l5, l6, I, L => (if l3 ≤ l6 then (some (I, L)) else (if (0 ≤ l6 ∧ l6 < (3 : Int32)) then (f_Tr_nextRow_21_L37 n l3 l5 (l6 + (1 : Int32)) (uI I 21 (l6.toNatClampNeg) l5) L) else none))
set_option maxRecDepth 100000 in
set_option maxHeartbeats 4000000 in
theorem x_Tr_nextRow_21_L37 {G : xG} {S : List xSh} {Rf : Nat → Nat → Option Nat} (hT : xTH S Rf) : ∀ (n : Nat) {l3 : Int32} {l5 : Int32} {l6 : Int32} {I : Nat → Nat → Int32} {L : Nat → Nat → Int64} {q : ((Nat → Nat → Int32) × (Nat → Nat → Int64))}, f_Tr_nextRow_21_L37 n l3 l5 l6 I L = some q → X G 1 m_Tr_nextRow 37 [(0, .ref (xP G 21)), (3, .int l3), (5, .int l5), (6, .int l6)] [] (S, I, L, Rf) (none, (S, q.1, q.2, Rf)) := by
  intro n
  induction n with
  | zero =>
    intro l3 l5 l6 I L q hf
    exact absurd (show none = some q from hf) (by simp)
  | succ n ih =>
    intro l3 l5 l6 I L q hf
    replace hf := (f_Tr_nextRow_21_L37.eq_2 _ _ _ _ _ _).symm.trans hf
    refine X_iload (pc := 37) 3 dX9_nextRow_37 rfl ?_
    refine X_iload_n (pc := 39) (i := 3) 1 dX9_nextRow_39 rfl rfl ?_
    by_cases c8 : l3 ≤ l6
    · replace hf := (if_pos c8).symm.trans hf
      refine X_icmp_ge_t (pc := 40) 55 dX9_nextRow_40 (by decide) c8 ?_
      cases hf
      exact X_return (pc := 55) rfl dX9_nextRow_55
    · replace hf := (if_neg c8).symm.trans hf
      refine X_icmp_ge_f (pc := 40) 55 dX9_nextRow_40 (by decide) c8 ?_
      refine X_aload_n (pc := 43) (i := 0) 0 dX9_nextRow_43 rfl rfl ?_
      refine X_iload (pc := 44) 3 dX9_nextRow_44 rfl ?_
      refine X_iload (pc := 46) 2 dX9_nextRow_46 rfl ?_
      obtain ⟨c9, hf⟩ := gd_some hf
      refine X_iastj (pc := 48) (j := (l6.toNatClampNeg)) (sh_21 hT) (vp_in_lit (N := 3) c9 (by decide)) rfl dX9_nextRow_48 ?_
      refine X_iinc (pc := 49) (i := 6) (q := 3) (v := (l6 + (1 : Int32))) [(6, .int (l6 + (1 : Int32))), (0, .ref (xP G 21)), (3, .int l3), (5, .int l5)] dX9_nextRow_49 rfl rfl (by decide) rfl ?_
      refine X_goto (pc := 52) 37 dX9_nextRow_52 (by decide) ?_
      exact X_lvs [1, 2, 3, 0] rfl (ih hf)
theorem u_Tr_nextRow_21_L37 {S : List xSh} : ∀ (n : Nat) {l3 : Int32} {l5 : Int32} {l6 : Int32} {I : Nat → Nat → Int32} {L : Nat → Nat → Int64} {q : ((Nat → Nat → Int32) × (Nat → Nat → Int64))}, f_Tr_nextRow_21_L37 n l3 l5 l6 I L = some q → FR S [21] [] I q.1 L q.2 := by
  intro n
  induction n with
  | zero =>
    intro l3 l5 l6 I L q hf
    exact absurd (show none = some q from hf) (by simp)
  | succ n ih =>
    intro l3 l5 l6 I L q hf
    replace hf := (f_Tr_nextRow_21_L37.eq_2 _ _ _ _ _ _).symm.trans hf
    by_cases c8 : l3 ≤ l6
    · replace hf := (if_pos c8).symm.trans hf
      cases hf
      exact FR.rf
    · replace hf := (if_neg c8).symm.trans hf
      obtain ⟨c9, hf⟩ := gd_some hf
      exact FR.tr (FR.ai FR.rf (by decide)) (ih hf) (by decide) (by decide)
def f_Tr_nextRow_21_L12 : Nat → Int32 → Int32 → Int32 → (Nat → Nat → Int32) → (Nat → Nat → Int64) → Option ((Nat → Nat → Int32) × (Nat → Nat → Int64))
  | 0, _, _, _, _, _ => none
  | n + 1, l2, l3, l4, I, L => (if l4 < (0 : Int32) then (some (I, L)) else (if (0 ≤ l4 ∧ l4 < (3 : Int32)) then (if l2 ≤ (I 21 (l4.toNatClampNeg)) then (f_Tr_nextRow_21_L12 n l2 l3 (l4 + (-1 : Int32)) I L) else (if (0 ≤ l4 ∧ l4 < (3 : Int32)) then (bnd ((I 21 (l4.toNatClampNeg)) + (1 : Int32)) fun x7 => (f_Tr_nextRow_21_L37 xF l3 x7 l4 I L)) else none)) else none))
set_option maxRecDepth 100000 in
set_option maxHeartbeats 4000000 in
theorem x_Tr_nextRow_21_L12 {G : xG} {S : List xSh} {Rf : Nat → Nat → Option Nat} (hT : xTH S Rf) : ∀ (n : Nat) {l2 : Int32} {l3 : Int32} {l4 : Int32} {I : Nat → Nat → Int32} {L : Nat → Nat → Int64} {q : ((Nat → Nat → Int32) × (Nat → Nat → Int64))}, f_Tr_nextRow_21_L12 n l2 l3 l4 I L = some q → X G 1 m_Tr_nextRow 12 [(0, .ref (xP G 21)), (2, .int l2), (3, .int l3), (4, .int l4)] [] (S, I, L, Rf) (none, (S, q.1, q.2, Rf)) := by
  intro n
  induction n with
  | zero =>
    intro l2 l3 l4 I L q hf
    exact absurd (show none = some q from hf) (by simp)
  | succ n ih =>
    intro l2 l3 l4 I L q hf
    replace hf := (f_Tr_nextRow_21_L12.eq_2 _ _ _ _ _ _).symm.trans hf
    refine X_iload (pc := 12) 3 dX9_nextRow_12 rfl ?_
    by_cases c3 : l4 < (0 : Int32)
    · replace hf := (if_pos c3).symm.trans hf
      refine X_if_lt_t (pc := 14) 62 dX9_nextRow_14 (by decide) c3 ?_
      cases hf
      exact X_return (pc := 62) rfl dX9_nextRow_62
    · replace hf := (if_neg c3).symm.trans hf
      refine X_if_lt_f (pc := 14) 62 dX9_nextRow_14 (by decide) c3 ?_
      refine X_aload_n (pc := 17) (i := 0) 0 dX9_nextRow_17 rfl rfl ?_
      refine X_iload (pc := 18) 3 dX9_nextRow_18 rfl ?_
      obtain ⟨c4, hf⟩ := gd_some hf
      refine X_ialdj (pc := 20) (j := l4.toNatClampNeg) (I 21 (l4.toNatClampNeg)) (sh_21 hT) (vp_in_lit (N := 3) c4 (by decide)) rfl rfl dX9_nextRow_20 ?_
      refine X_iload_n (pc := 21) (i := 2) 1 dX9_nextRow_21 rfl rfl ?_
      by_cases c5 : l2 ≤ (I 21 (l4.toNatClampNeg))
      · replace hf := (if_pos c5).symm.trans hf
        refine X_icmp_ge_t (pc := 22) 56 dX9_nextRow_22 (by decide) c5 ?_
        refine X_iinc (pc := 56) (i := 4) (q := 3) (v := (l4 + (-1 : Int32))) [(4, .int (l4 + (-1 : Int32))), (0, .ref (xP G 21)), (2, .int l2), (3, .int l3)] dX9_nextRow_56 rfl rfl (by decide) rfl ?_
        refine X_goto (pc := 59) 12 dX9_nextRow_59 (by decide) ?_
        exact X_lvs [1, 2, 3, 0] rfl (ih hf)
      · replace hf := (if_neg c5).symm.trans hf
        refine X_icmp_ge_f (pc := 22) 56 dX9_nextRow_22 (by decide) c5 ?_
        refine X_aload_n (pc := 25) (i := 0) 0 dX9_nextRow_25 rfl rfl ?_
        refine X_iload (pc := 26) 3 dX9_nextRow_26 rfl ?_
        obtain ⟨c6, hf⟩ := gd_some hf
        refine X_ialdj (pc := 28) (j := l4.toNatClampNeg) (I 21 (l4.toNatClampNeg)) (sh_21 hT) (vp_in_lit (N := 3) c6 (by decide)) rfl rfl dX9_nextRow_28 ?_
        refine X_iconst (pc := 29) (1 : Int32) dX9_nextRow_29 (by decide) ?_
        refine X_iadd (pc := 30) dX9_nextRow_30 ?_
        obtain ⟨x7, ex7, hf⟩ := bnd_e hf
        refine X_tope ex7 ?_
        refine X_istore (pc := 31) [(5, .int x7), (0, .ref (xP G 21)), (2, .int l2), (3, .int l3), (4, .int l4)] dX9_nextRow_31 (by decide) rfl ?_
        refine X_iload (pc := 33) 4 dX9_nextRow_33 rfl ?_
        refine X_istore (pc := 35) [(6, .int l4), (5, .int x7), (0, .ref (xP G 21)), (2, .int l2), (3, .int l3), (4, .int l4)] dX9_nextRow_35 (by decide) rfl ?_
        exact X_lvs [2, 4, 1, 0] rfl (x_Tr_nextRow_21_L37 hT xF hf)
theorem u_Tr_nextRow_21_L12 {S : List xSh} : ∀ (n : Nat) {l2 : Int32} {l3 : Int32} {l4 : Int32} {I : Nat → Nat → Int32} {L : Nat → Nat → Int64} {q : ((Nat → Nat → Int32) × (Nat → Nat → Int64))}, f_Tr_nextRow_21_L12 n l2 l3 l4 I L = some q → FR S [21] [] I q.1 L q.2 := by
  intro n
  induction n with
  | zero =>
    intro l2 l3 l4 I L q hf
    exact absurd (show none = some q from hf) (by simp)
  | succ n ih =>
    intro l2 l3 l4 I L q hf
    replace hf := (f_Tr_nextRow_21_L12.eq_2 _ _ _ _ _ _).symm.trans hf
    by_cases c3 : l4 < (0 : Int32)
    · replace hf := (if_pos c3).symm.trans hf
      cases hf
      exact FR.rf
    · replace hf := (if_neg c3).symm.trans hf
      obtain ⟨c4, hf⟩ := gd_some hf
      by_cases c5 : l2 ≤ (I 21 (l4.toNatClampNeg))
      · replace hf := (if_pos c5).symm.trans hf
        exact FR.tr FR.rf (ih hf) (by decide) (by decide)
      · replace hf := (if_neg c5).symm.trans hf
        obtain ⟨c6, hf⟩ := gd_some hf
        obtain ⟨x7, ex7, hf⟩ := bnd_e hf
        exact FR.tr FR.rf (u_Tr_nextRow_21_L37 xF hf) (by decide) (by decide)
def f_Tr_nextRow_21 (a1 : Int32) (a2 : Int32) (I : Nat → Nat → Int32) (L : Nat → Nat → Int64) : Option ((Nat → Nat → Int32) × (Nat → Nat → Int64)) := (bnd (jmin a1 (3 : Int32)) fun x1 => (bnd (x1 - (1 : Int32)) fun x2 => (f_Tr_nextRow_21_L12 xF a2 x1 x2 I L)))
set_option maxRecDepth 100000 in
set_option maxHeartbeats 4000000 in
theorem c_Tr_nextRow_21 {G : xG} {S : List xSh} {Rf : Nat → Nat → Option Nat} (hT : xTH S Rf) {a1 : Int32} {a2 : Int32} {I : Nat → Nat → Int32} {L : Nat → Nat → Int64} {q : ((Nat → Nat → Int32) × (Nat → Nat → Int64))} (hf : f_Tr_nextRow_21 a1 a2 I L = some q) : CT G 1 m_Tr_nextRow [.ref (xP G 21), .int a1, .int a2] (S, I, L, Rf) (none, (S, q.1, q.2, Rf)) := by
  refine CT.of (by decide +kernel) (Nat.le_of_ble_eq_true rfl) ?_
  show X G 1 m_Tr_nextRow 0 [(0, .ref (xP G 21)), (1, .int a1), (2, .int a2)] [] (S, I, L, Rf) (none, (S, q.1, q.2, Rf))
  replace hf := (f_Tr_nextRow_21.eq_1 _ _ _ _).symm.trans hf
  refine X_iload_n (pc := 0) (i := 1) 1 dX9_nextRow_0 rfl rfl ?_
  refine X_aload_n (pc := 1) (i := 0) 0 dX9_nextRow_1 rfl rfl ?_
  refine X_alen (pc := 2) (3 : Int32) (by decide) (sh_21 hT) (by decide) dX9_nextRow_2 ?_
  refine X_jmin (pc := 3) k_1041 (by decide) (Nat.le_of_ble_eq_true rfl) dX9_nextRow_3 ?_
  obtain ⟨x1, ex1, hf⟩ := bnd_e hf
  refine X_tope ex1 ?_
  refine X_istore_n (pc := 6) (i := 3) [(3, .int x1), (0, .ref (xP G 21)), (1, .int a1), (2, .int a2)] dX9_nextRow_6 rfl (by decide) rfl ?_
  refine X_iload_n (pc := 7) (i := 3) 0 dX9_nextRow_7 rfl rfl ?_
  refine X_iconst (pc := 8) (1 : Int32) dX9_nextRow_8 (by decide) ?_
  refine X_isub (pc := 9) dX9_nextRow_9 ?_
  obtain ⟨x2, ex2, hf⟩ := bnd_e hf
  refine X_tope ex2 ?_
  refine X_istore (pc := 10) [(4, .int x2), (3, .int x1), (0, .ref (xP G 21)), (1, .int a1), (2, .int a2)] dX9_nextRow_10 (by decide) rfl ?_
  exact X_lvs [2, 4, 1, 0] rfl (x_Tr_nextRow_21_L12 hT xF hf)
theorem u_Tr_nextRow_21 {S : List xSh} {a1 : Int32} {a2 : Int32} {I : Nat → Nat → Int32} {L : Nat → Nat → Int64} {q : ((Nat → Nat → Int32) × (Nat → Nat → Int64))} (hf : f_Tr_nextRow_21 a1 a2 I L = some q) : FR S [21] [] I q.1 L q.2 := by
  replace hf := (f_Tr_nextRow_21.eq_1 _ _ _ _).symm.trans hf
  obtain ⟨x1, ex1, hf⟩ := bnd_e hf
  obtain ⟨x2, ex2, hf⟩ := bnd_e hf
  exact FR.tr FR.rf (u_Tr_nextRow_21_L12 xF hf) (by decide) (by decide)
theorem dX9_tryPinions_0 : decode cX9_tryPinions 0 = .ok (.iload_n 1, 1) := by decide +kernel
theorem dX9_tryPinions_1 : decode cX9_tryPinions 1 = .ok (.aload_n 0, 1) := by decide +kernel
theorem dX9_tryPinions_2 : decode cX9_tryPinions 2 = .ok (.getfield 18, 3) := by decide +kernel
theorem dX9_tryPinions_5 : decode cX9_tryPinions 5 = .ok (.aload_n 0, 1) := by decide +kernel
theorem dX9_tryPinions_6 : decode cX9_tryPinions 6 = .ok (.getfield 21, 3) := by decide +kernel
theorem dX9_tryPinions_9 : decode cX9_tryPinions 9 = .ok (.invokestatic 37, 3) := by decide +kernel
theorem dX9_tryPinions_12 : decode cX9_tryPinions 12 = .ok (.istore 4, 2) := by decide +kernel
theorem dX9_tryPinions_14 : decode cX9_tryPinions 14 = .ok (.aload_n 0, 1) := by decide +kernel
theorem dX9_tryPinions_15 : decode cX9_tryPinions 15 = .ok (.getfield 34, 3) := by decide +kernel
theorem dX9_tryPinions_18 : decode cX9_tryPinions 18 = .ok (.aload_n 0, 1) := by decide +kernel
theorem dX9_tryPinions_19 : decode cX9_tryPinions 19 = .ok (.getfield 18, 3) := by decide +kernel
theorem dX9_tryPinions_22 : decode cX9_tryPinions 22 = .ok (.invokestatic 70, 3) := by decide +kernel
theorem dX9_tryPinions_25 : decode cX9_tryPinions 25 = .ok (.iconst 0, 1) := by decide +kernel
theorem dX9_tryPinions_26 : decode cX9_tryPinions 26 = .ok (.istore 5, 2) := by decide +kernel
theorem dX9_tryPinions_28 : decode cX9_tryPinions 28 = .ok (.iload 5, 2) := by decide +kernel
theorem dX9_tryPinions_30 : decode cX9_tryPinions 30 = .ok (.iload 4, 2) := by decide +kernel
theorem dX9_tryPinions_32 : decode cX9_tryPinions 32 = .ok (.if_icmp .ge 81, 3) := by decide +kernel
theorem dX9_tryPinions_35 : decode cX9_tryPinions 35 = .ok (.aload_n 0, 1) := by decide +kernel
theorem dX9_tryPinions_36 : decode cX9_tryPinions 36 = .ok (.getfield 34, 3) := by decide +kernel
theorem dX9_tryPinions_39 : decode cX9_tryPinions 39 = .ok (.iload_n 1, 1) := by decide +kernel
theorem dX9_tryPinions_40 : decode cX9_tryPinions 40 = .ok (.invokestatic 76, 3) := by decide +kernel
theorem dX9_tryPinions_43 : decode cX9_tryPinions 43 = .ok (.lstore 6, 2) := by decide +kernel
theorem dX9_tryPinions_45 : decode cX9_tryPinions 45 = .ok (.lload_n 2, 1) := by decide +kernel
theorem dX9_tryPinions_46 : decode cX9_tryPinions 46 = .ok (.lload 6, 2) := by decide +kernel
theorem dX9_tryPinions_48 : decode cX9_tryPinions 48 = .ok (.aload_n 0, 1) := by decide +kernel
theorem dX9_tryPinions_49 : decode cX9_tryPinions 49 = .ok (.getfield 43, 3) := by decide +kernel
theorem dX9_tryPinions_52 : decode cX9_tryPinions 52 = .ok (.lmul, 1) := by decide +kernel
theorem dX9_tryPinions_53 : decode cX9_tryPinions 53 = .ok (.lsub, 1) := by decide +kernel
theorem dX9_tryPinions_54 : decode cX9_tryPinions 54 = .ok (.invokestatic 88, 3) := by decide +kernel
theorem dX9_tryPinions_57 : decode cX9_tryPinions 57 = .ok (.lstore 8, 2) := by decide +kernel
theorem dX9_tryPinions_59 : decode cX9_tryPinions 59 = .ok (.aload_n 0, 1) := by decide +kernel
theorem dX9_tryPinions_60 : decode cX9_tryPinions 60 = .ok (.getfield 50, 3) := by decide +kernel
theorem dX9_tryPinions_63 : decode cX9_tryPinions 63 = .ok (.lconst 0, 1) := by decide +kernel
theorem dX9_tryPinions_64 : decode cX9_tryPinions 64 = .ok (.lcmp, 1) := by decide +kernel
theorem dX9_tryPinions_65 : decode cX9_tryPinions 65 = .ok (.ifCond .eq 21, 3) := by decide +kernel
theorem dX9_tryPinions_68 : decode cX9_tryPinions 68 = .ok (.lload 8, 2) := by decide +kernel
theorem dX9_tryPinions_70 : decode cX9_tryPinions 70 = .ok (.aload_n 0, 1) := by decide +kernel
theorem dX9_tryPinions_71 : decode cX9_tryPinions 71 = .ok (.getfield 50, 3) := by decide +kernel
theorem dX9_tryPinions_74 : decode cX9_tryPinions 74 = .ok (.lmul, 1) := by decide +kernel
theorem dX9_tryPinions_75 : decode cX9_tryPinions 75 = .ok (.aload_n 0, 1) := by decide +kernel
theorem dX9_tryPinions_76 : decode cX9_tryPinions 76 = .ok (.getfield 67, 3) := by decide +kernel
theorem dX9_tryPinions_79 : decode cX9_tryPinions 79 = .ok (.lload 6, 2) := by decide +kernel
theorem dX9_tryPinions_81 : decode cX9_tryPinions 81 = .ok (.lmul, 1) := by decide +kernel
theorem dX9_tryPinions_82 : decode cX9_tryPinions 82 = .ok (.lcmp, 1) := by decide +kernel
theorem dX9_tryPinions_83 : decode cX9_tryPinions 83 = .ok (.ifCond .ge 12, 3) := by decide +kernel
theorem dX9_tryPinions_86 : decode cX9_tryPinions 86 = .ok (.aload_n 0, 1) := by decide +kernel
theorem dX9_tryPinions_87 : decode cX9_tryPinions 87 = .ok (.iload_n 1, 1) := by decide +kernel
theorem dX9_tryPinions_88 : decode cX9_tryPinions 88 = .ok (.lload 8, 2) := by decide +kernel
theorem dX9_tryPinions_90 : decode cX9_tryPinions 90 = .ok (.lload 6, 2) := by decide +kernel
theorem dX9_tryPinions_92 : decode cX9_tryPinions 92 = .ok (.invokevirtual 94, 3) := by decide +kernel
theorem dX9_tryPinions_95 : decode cX9_tryPinions 95 = .ok (.aload_n 0, 1) := by decide +kernel
theorem dX9_tryPinions_96 : decode cX9_tryPinions 96 = .ok (.getfield 34, 3) := by decide +kernel
theorem dX9_tryPinions_99 : decode cX9_tryPinions 99 = .ok (.iload_n 1, 1) := by decide +kernel
theorem dX9_tryPinions_100 : decode cX9_tryPinions 100 = .ok (.aload_n 0, 1) := by decide +kernel
theorem dX9_tryPinions_101 : decode cX9_tryPinions 101 = .ok (.getfield 21, 3) := by decide +kernel
theorem dX9_tryPinions_104 : decode cX9_tryPinions 104 = .ok (.invokestatic 84, 3) := by decide +kernel
theorem dX9_tryPinions_107 : decode cX9_tryPinions 107 = .ok (.iinc 5 1, 3) := by decide +kernel
theorem dX9_tryPinions_110 : decode cX9_tryPinions 110 = .ok (.goto (-82), 3) := by decide +kernel
theorem dX9_tryPinions_113 : decode cX9_tryPinions 113 = .ok (.return_, 1) := by decide +kernel
def f_Tr_tryPinions_L95 (k28 : Int32 → Int64 → Int32 → Int32 → (Nat → Nat → Int32) → (Nat → Nat → Int64) → Option ((Nat → Nat → Int32) × (Nat → Nat → Int64))) (l1 : Int32) (l2 : Int64) (l4 : Int32) (l5 : Int32) (I : (Nat → Nat → Int32)) (L : (Nat → Nat → Int64)) : Option ((Nat → Nat → Int32) × (Nat → Nat → Int64)) := ((f_Tr_nextRow_21 l1 (I 17 3) I L).bind fun q11 => (k28 l1 l2 l4 (l5 + (1 : Int32)) q11.1 q11.2))
set_option maxRecDepth 100000 in
set_option maxHeartbeats 4000000 in
theorem x_Tr_tryPinions_L95 {G : xG} {S : List xSh} {Rf : Nat → Nat → Option Nat} (hT : xTH S Rf) {k28 : Int32 → Int64 → Int32 → Int32 → (Nat → Nat → Int32) → (Nat → Nat → Int64) → Option ((Nat → Nat → Int32) × (Nat → Nat → Int64))} (hk28 : ∀ {l1 : Int32} {l2 : Int64} {l4 : Int32} {l5 : Int32} {I : Nat → Nat → Int32} {L : Nat → Nat → Int64} {q : ((Nat → Nat → Int32) × (Nat → Nat → Int64))}, k28 l1 l2 l4 l5 I L = some q → X G 2 m_Tr_tryPinions 28 [(0, .ref (xP G 17)), (1, .int l1), (2, .long l2), (4, .int l4), (5, .int l5)] [] (S, I, L, Rf) (none, (S, q.1, q.2, Rf))) {l1 : Int32} {l2 : Int64} {l4 : Int32} {l5 : Int32} {I : Nat → Nat → Int32} {L : Nat → Nat → Int64} {q : ((Nat → Nat → Int32) × (Nat → Nat → Int64))} (hf : f_Tr_tryPinions_L95 k28 l1 l2 l4 l5 I L = some q) : X G 2 m_Tr_tryPinions 95 [(0, .ref (xP G 17)), (1, .int l1), (2, .long l2), (4, .int l4), (5, .int l5)] [] (S, I, L, Rf) (none, (S, q.1, q.2, Rf)) := by
  replace hf := (f_Tr_tryPinions_L95.eq_1 _ _ _ _ _ _ _).symm.trans hf
  refine X_aload_n (pc := 95) (i := 0) 0 dX9_tryPinions_95 rfl rfl ?_
  refine X_getr (pc := 96) (a := 17) (ci := 9) (j := 14) (c := 21) (sh_17 hT) (by decide) k_270 (rf_17_14 hT) (fun _ h => h) dX9_tryPinions_96 ?_
  refine X_iload_n (pc := 99) (i := 1) 1 dX9_tryPinions_99 rfl rfl ?_
  refine X_aload_n (pc := 100) (i := 0) 0 dX9_tryPinions_100 rfl rfl ?_
  refine X_get (pc := 101) (a := 17) (ci := 9) (j := 3) (.int (I 17 3)) (sh_17 hT) (by decide) k_254 rfl dX9_tryPinions_101 ?_
  obtain ⟨q11, c12, hf⟩ := bd_some hf
  refine X_invS_v (pc := 104) (c_Tr_nextRow_21 hT c12) ok_Tr_nextRow k_1038 k_1039 nd_29 (by decide) rfl (Nat.le_of_ble_eq_true rfl) dX9_tryPinions_104 ?_
  refine X_iinc (pc := 107) (i := 5) (q := 4) (v := (l5 + (1 : Int32))) [(5, .int (l5 + (1 : Int32))), (0, .ref (xP G 17)), (1, .int l1), (2, .long l2), (4, .int l4)] dX9_tryPinions_107 rfl rfl (by decide) rfl ?_
  refine X_goto (pc := 110) 28 dX9_tryPinions_110 (by decide) ?_
  exact X_lvs [1, 2, 3, 4, 0] rfl (hk28 hf)
theorem u_Tr_tryPinions_L95 {S : List xSh} {k28 : Int32 → Int64 → Int32 → Int32 → (Nat → Nat → Int32) → (Nat → Nat → Int64) → Option ((Nat → Nat → Int32) × (Nat → Nat → Int64))} (hk28 : ∀ {l1 : Int32} {l2 : Int64} {l4 : Int32} {l5 : Int32} {I : Nat → Nat → Int32} {L : Nat → Nat → Int64} {q : ((Nat → Nat → Int32) × (Nat → Nat → Int64))}, k28 l1 l2 l4 l5 I L = some q → FR S [18, 19, 21, 2704] [2711, 2712] I q.1 L q.2) {l1 : Int32} {l2 : Int64} {l4 : Int32} {l5 : Int32} {I : Nat → Nat → Int32} {L : Nat → Nat → Int64} {q : ((Nat → Nat → Int32) × (Nat → Nat → Int64))} (hf : f_Tr_tryPinions_L95 k28 l1 l2 l4 l5 I L = some q) : FR S [18, 19, 21, 2704] [2711, 2712] I q.1 L q.2 := by
  replace hf := (f_Tr_tryPinions_L95.eq_1 _ _ _ _ _ _ _).symm.trans hf
  obtain ⟨q11, c12, hf⟩ := bd_some hf
  exact FR.tr (FR.tr FR.rf (u_Tr_nextRow_21 (q := q11) c12) (by decide) (by decide)) (hk28 hf) (by decide) (by decide)
def f_Tr_tryPinions_L86 (k28 : Int32 → Int64 → Int32 → Int32 → (Nat → Nat → Int32) → (Nat → Nat → Int64) → Option ((Nat → Nat → Int32) × (Nat → Nat → Int64))) (l1 : Int32) (l2 : Int64) (l4 : Int32) (l5 : Int32) (l6 : Int64) (l8 : Int64) (I : (Nat → Nat → Int32)) (L : (Nat → Nat → Int64)) : Option ((Nat → Nat → Int32) × (Nat → Nat → Int64)) := ((f_Tr_keep l1 l8 l6 I L).bind fun q9 => (f_Tr_tryPinions_L95 k28 l1 l2 l4 l5 q9.1 q9.2))
set_option maxRecDepth 100000 in
set_option maxHeartbeats 4000000 in
theorem x_Tr_tryPinions_L86 {G : xG} {S : List xSh} {Rf : Nat → Nat → Option Nat} (hT : xTH S Rf) {k28 : Int32 → Int64 → Int32 → Int32 → (Nat → Nat → Int32) → (Nat → Nat → Int64) → Option ((Nat → Nat → Int32) × (Nat → Nat → Int64))} (hk28 : ∀ {l1 : Int32} {l2 : Int64} {l4 : Int32} {l5 : Int32} {I : Nat → Nat → Int32} {L : Nat → Nat → Int64} {q : ((Nat → Nat → Int32) × (Nat → Nat → Int64))}, k28 l1 l2 l4 l5 I L = some q → X G 2 m_Tr_tryPinions 28 [(0, .ref (xP G 17)), (1, .int l1), (2, .long l2), (4, .int l4), (5, .int l5)] [] (S, I, L, Rf) (none, (S, q.1, q.2, Rf))) {l1 : Int32} {l2 : Int64} {l4 : Int32} {l5 : Int32} {l6 : Int64} {l8 : Int64} {I : Nat → Nat → Int32} {L : Nat → Nat → Int64} {q : ((Nat → Nat → Int32) × (Nat → Nat → Int64))} (hf : f_Tr_tryPinions_L86 k28 l1 l2 l4 l5 l6 l8 I L = some q) : X G 2 m_Tr_tryPinions 86 [(0, .ref (xP G 17)), (1, .int l1), (2, .long l2), (4, .int l4), (5, .int l5), (6, .long l6), (8, .long l8)] [] (S, I, L, Rf) (none, (S, q.1, q.2, Rf)) := by
  replace hf := (f_Tr_tryPinions_L86.eq_1 _ _ _ _ _ _ _ _ _).symm.trans hf
  refine X_aload_n (pc := 86) (i := 0) 0 dX9_tryPinions_86 rfl rfl ?_
  refine X_iload_n (pc := 87) (i := 1) 1 dX9_tryPinions_87 rfl rfl ?_
  refine X_lload (pc := 88) 6 dX9_tryPinions_88 rfl ?_
  refine X_lload (pc := 90) 5 dX9_tryPinions_90 rfl ?_
  obtain ⟨q9, c10, hf⟩ := bd_some hf
  refine X_invV_v (pc := 92) (c_Tr_keep hT c10) ok_Tr_keep (ci := 9) (sh_17 hT) k_1031 k_1033 k_29 nd_28 (by decide) rfl (Nat.le_of_ble_eq_true rfl) dX9_tryPinions_92 ?_
  exact X_lvs [0, 1, 2, 3, 4] rfl (x_Tr_tryPinions_L95 hT hk28 hf)
theorem u_Tr_tryPinions_L86 {S : List xSh} {k28 : Int32 → Int64 → Int32 → Int32 → (Nat → Nat → Int32) → (Nat → Nat → Int64) → Option ((Nat → Nat → Int32) × (Nat → Nat → Int64))} (hk28 : ∀ {l1 : Int32} {l2 : Int64} {l4 : Int32} {l5 : Int32} {I : Nat → Nat → Int32} {L : Nat → Nat → Int64} {q : ((Nat → Nat → Int32) × (Nat → Nat → Int64))}, k28 l1 l2 l4 l5 I L = some q → FR S [18, 19, 21, 2704] [2711, 2712] I q.1 L q.2) {l1 : Int32} {l2 : Int64} {l4 : Int32} {l5 : Int32} {l6 : Int64} {l8 : Int64} {I : Nat → Nat → Int32} {L : Nat → Nat → Int64} {q : ((Nat → Nat → Int32) × (Nat → Nat → Int64))} (hf : f_Tr_tryPinions_L86 k28 l1 l2 l4 l5 l6 l8 I L = some q) : FR S [18, 19, 21, 2704] [2711, 2712] I q.1 L q.2 := by
  replace hf := (f_Tr_tryPinions_L86.eq_1 _ _ _ _ _ _ _ _ _).symm.trans hf
  obtain ⟨q9, c10, hf⟩ := bd_some hf
  exact FR.tr (FR.tr FR.rf (u_Tr_keep (q := q9) c10) (by decide) (by decide)) (u_Tr_tryPinions_L95 hk28 hf) (by decide) (by decide)
def f_Tr_tryPinions_L28 : Nat → Int32 → Int64 → Int32 → Int32 → (Nat → Nat → Int32) → (Nat → Nat → Int64) → Option ((Nat → Nat → Int32) × (Nat → Nat → Int64))
  | 0, _, _, _, _, _, _ => none
  | n + 1, l1, l2, l4, l5, I, L => (if l4 ≤ l5 then (some (I, L)) else ((f_Tr_productOf_21 l1 I L).bind fun q5 => (bnd (Jabs (l2 - (q5 * (L 17 9)))) fun x7 => (if (L 17 12) = (0 : Int64) then (f_Tr_tryPinions_L86 (f_Tr_tryPinions_L28 n) l1 l2 l4 l5 q5 x7 I L) else (if ((L 17 11) * q5) ≤ (x7 * (L 17 12)) then (f_Tr_tryPinions_L95 (f_Tr_tryPinions_L28 n) l1 l2 l4 l5 I L) else (f_Tr_tryPinions_L86 (f_Tr_tryPinions_L28 n) l1 l2 l4 l5 q5 x7 I L))))))
set_option maxRecDepth 100000 in
set_option maxHeartbeats 4000000 in
theorem x_Tr_tryPinions_L28 {G : xG} {S : List xSh} {Rf : Nat → Nat → Option Nat} (hT : xTH S Rf) : ∀ (n : Nat) {l1 : Int32} {l2 : Int64} {l4 : Int32} {l5 : Int32} {I : Nat → Nat → Int32} {L : Nat → Nat → Int64} {q : ((Nat → Nat → Int32) × (Nat → Nat → Int64))}, f_Tr_tryPinions_L28 n l1 l2 l4 l5 I L = some q → X G 2 m_Tr_tryPinions 28 [(0, .ref (xP G 17)), (1, .int l1), (2, .long l2), (4, .int l4), (5, .int l5)] [] (S, I, L, Rf) (none, (S, q.1, q.2, Rf)) := by
  intro n
  induction n with
  | zero =>
    intro l1 l2 l4 l5 I L q hf
    exact absurd (show none = some q from hf) (by simp)
  | succ n ih =>
    intro l1 l2 l4 l5 I L q hf
    replace hf := (f_Tr_tryPinions_L28.eq_2 _ _ _ _ _ _ _).symm.trans hf
    refine X_iload (pc := 28) 4 dX9_tryPinions_28 rfl ?_
    refine X_iload (pc := 30) 3 dX9_tryPinions_30 rfl ?_
    by_cases c4 : l4 ≤ l5
    · replace hf := (if_pos c4).symm.trans hf
      refine X_icmp_ge_t (pc := 32) 113 dX9_tryPinions_32 (by decide) c4 ?_
      cases hf
      exact X_return (pc := 113) rfl dX9_tryPinions_113
    · replace hf := (if_neg c4).symm.trans hf
      refine X_icmp_ge_f (pc := 32) 113 dX9_tryPinions_32 (by decide) c4 ?_
      refine X_aload_n (pc := 35) (i := 0) 0 dX9_tryPinions_35 rfl rfl ?_
      refine X_getr (pc := 36) (a := 17) (ci := 9) (j := 14) (c := 21) (sh_17 hT) (by decide) k_270 (rf_17_14 hT) (fun _ h => h) dX9_tryPinions_36 ?_
      refine X_iload_n (pc := 39) (i := 1) 1 dX9_tryPinions_39 rfl rfl ?_
      obtain ⟨q5, c6, hf⟩ := bd_some hf
      refine X_invS_l (pc := 40) (c_Tr_productOf_21 hT c6) ok_Tr_productOf k_1023 k_1024 nd_27 (by decide) rfl (Nat.le_of_ble_eq_true rfl) dX9_tryPinions_40 ?_
      refine X_lstore (pc := 43) [(6, .long q5), (0, .ref (xP G 17)), (1, .int l1), (2, .long l2), (4, .int l4), (5, .int l5)] dX9_tryPinions_43 (by decide) rfl ?_
      refine X_lload_n (pc := 45) (i := 2) 3 dX9_tryPinions_45 rfl rfl ?_
      refine X_lload (pc := 46) 0 dX9_tryPinions_46 rfl ?_
      refine X_aload_n (pc := 48) (i := 0) 1 dX9_tryPinions_48 rfl rfl ?_
      refine X_get (pc := 49) (a := 17) (ci := 9) (j := 9) (.long (L 17 9)) (sh_17 hT) (by decide) k_265 rfl dX9_tryPinions_49 ?_
      refine X_lmul (pc := 52) dX9_tryPinions_52 ?_
      refine X_lsub (pc := 53) dX9_tryPinions_53 ?_
      refine X_Jabs (pc := 54) k_1030 (by decide) (Nat.le_of_ble_eq_true rfl) dX9_tryPinions_54 ?_
      obtain ⟨x7, ex7, hf⟩ := bnd_e hf
      refine X_tople ex7 ?_
      refine X_lstore (pc := 57) [(8, .long x7), (6, .long q5), (0, .ref (xP G 17)), (1, .int l1), (2, .long l2), (4, .int l4), (5, .int l5)] dX9_tryPinions_57 (by decide) rfl ?_
      refine X_aload_n (pc := 59) (i := 0) 2 dX9_tryPinions_59 rfl rfl ?_
      refine X_get (pc := 60) (a := 17) (ci := 9) (j := 12) (.long (L 17 12)) (sh_17 hT) (by decide) k_268 rfl dX9_tryPinions_60 ?_
      refine X_lconst (pc := 63) (0 : Int64) dX9_tryPinions_63 (by decide) ?_
      refine X_lcmp (pc := 64) dX9_tryPinions_64 ?_
      by_cases c8 : (L 17 12) = (0 : Int64)
      · replace hf := (if_pos c8).symm.trans hf
        refine X_if_eq_t (pc := 65) 86 dX9_tryPinions_65 (by decide) ((lg_cmp_eq _ _).mpr c8) ?_
        exact X_lvs [2, 3, 4, 5, 6, 1, 0] rfl (x_Tr_tryPinions_L86 hT ih hf)
      · replace hf := (if_neg c8).symm.trans hf
        refine X_if_eq_f (pc := 65) 86 dX9_tryPinions_65 (by decide) (fun h => c8 ((lg_cmp_eq _ _).mp h)) ?_
        refine X_lload (pc := 68) 0 dX9_tryPinions_68 rfl ?_
        refine X_aload_n (pc := 70) (i := 0) 2 dX9_tryPinions_70 rfl rfl ?_
        refine X_get (pc := 71) (a := 17) (ci := 9) (j := 12) (.long (L 17 12)) (sh_17 hT) (by decide) k_268 rfl dX9_tryPinions_71 ?_
        refine X_lmul (pc := 74) dX9_tryPinions_74 ?_
        refine X_aload_n (pc := 75) (i := 0) 2 dX9_tryPinions_75 rfl rfl ?_
        refine X_get (pc := 76) (a := 17) (ci := 9) (j := 11) (.long (L 17 11)) (sh_17 hT) (by decide) k_267 rfl dX9_tryPinions_76 ?_
        refine X_lload (pc := 79) 1 dX9_tryPinions_79 rfl ?_
        refine X_lmul (pc := 81) dX9_tryPinions_81 ?_
        refine X_lcmp (pc := 82) dX9_tryPinions_82 ?_
        by_cases c13 : ((L 17 11) * q5) ≤ (x7 * (L 17 12))
        · replace hf := (if_pos c13).symm.trans hf
          refine X_if_ge_t (pc := 83) 95 dX9_tryPinions_83 (by decide) ((lg_cmp_ge _ _).mpr c13) ?_
          exact X_lvs [2, 3, 4, 5, 6] rfl (x_Tr_tryPinions_L95 hT ih hf)
        · replace hf := (if_neg c13).symm.trans hf
          refine X_if_ge_f (pc := 83) 95 dX9_tryPinions_83 (by decide) (fun h => c13 ((lg_cmp_ge _ _).mp h)) ?_
          exact X_lvs [2, 3, 4, 5, 6, 1, 0] rfl (x_Tr_tryPinions_L86 hT ih hf)
theorem u_Tr_tryPinions_L28 {S : List xSh} : ∀ (n : Nat) {l1 : Int32} {l2 : Int64} {l4 : Int32} {l5 : Int32} {I : Nat → Nat → Int32} {L : Nat → Nat → Int64} {q : ((Nat → Nat → Int32) × (Nat → Nat → Int64))}, f_Tr_tryPinions_L28 n l1 l2 l4 l5 I L = some q → FR S [18, 19, 21, 2704] [2711, 2712] I q.1 L q.2 := by
  intro n
  induction n with
  | zero =>
    intro l1 l2 l4 l5 I L q hf
    exact absurd (show none = some q from hf) (by simp)
  | succ n ih =>
    intro l1 l2 l4 l5 I L q hf
    replace hf := (f_Tr_tryPinions_L28.eq_2 _ _ _ _ _ _ _).symm.trans hf
    by_cases c4 : l4 ≤ l5
    · replace hf := (if_pos c4).symm.trans hf
      cases hf
      exact FR.rf
    · replace hf := (if_neg c4).symm.trans hf
      obtain ⟨q5, c6, hf⟩ := bd_some hf
      obtain ⟨x7, ex7, hf⟩ := bnd_e hf
      by_cases c8 : (L 17 12) = (0 : Int64)
      · replace hf := (if_pos c8).symm.trans hf
        exact FR.tr FR.rf (u_Tr_tryPinions_L86 ih hf) (by decide) (by decide)
      · replace hf := (if_neg c8).symm.trans hf
        by_cases c13 : ((L 17 11) * q5) ≤ (x7 * (L 17 12))
        · replace hf := (if_pos c13).symm.trans hf
          exact FR.tr FR.rf (u_Tr_tryPinions_L95 ih hf) (by decide) (by decide)
        · replace hf := (if_neg c13).symm.trans hf
          exact FR.tr FR.rf (u_Tr_tryPinions_L86 ih hf) (by decide) (by decide)
def f_Tr_tryPinions (a0 : Int32) (a1 : Int64) (I : Nat → Nat → Int32) (L : Nat → Nat → Int64) : Option ((Nat → Nat → Int32) × (Nat → Nat → Int64)) := (bnd (f_Tr_rowsOf a0 (I 17 2) (I 17 3)) fun x1 => ((f_Ar_fill_i_21 (I 17 2) I L).bind fun q2 => (f_Tr_tryPinions_L28 xF a0 a1 x1 (0 : Int32) q2.1 q2.2)))
set_option maxRecDepth 100000 in
set_option maxHeartbeats 4000000 in
theorem c_Tr_tryPinions {G : xG} {S : List xSh} {Rf : Nat → Nat → Option Nat} (hT : xTH S Rf) {a0 : Int32} {a1 : Int64} {I : Nat → Nat → Int32} {L : Nat → Nat → Int64} {q : ((Nat → Nat → Int32) × (Nat → Nat → Int64))} (hf : f_Tr_tryPinions a0 a1 I L = some q) : CT G 2 m_Tr_tryPinions [.ref (xP G 17), .int a0, .long a1] (S, I, L, Rf) (none, (S, q.1, q.2, Rf)) := by
  refine CT.of (by decide +kernel) (Nat.le_of_ble_eq_true rfl) ?_
  show X G 2 m_Tr_tryPinions 0 [(0, .ref (xP G 17)), (1, .int a0), (2, .long a1)] [] (S, I, L, Rf) (none, (S, q.1, q.2, Rf))
  replace hf := (f_Tr_tryPinions.eq_1 _ _ _ _).symm.trans hf
  refine X_iload_n (pc := 0) (i := 1) 1 dX9_tryPinions_0 rfl rfl ?_
  refine X_aload_n (pc := 1) (i := 0) 0 dX9_tryPinions_1 rfl rfl ?_
  refine X_get (pc := 2) (a := 17) (ci := 9) (j := 2) (.int (I 17 2)) (sh_17 hT) (by decide) k_253 rfl dX9_tryPinions_2 ?_
  refine X_aload_n (pc := 5) (i := 0) 0 dX9_tryPinions_5 rfl rfl ?_
  refine X_get (pc := 6) (a := 17) (ci := 9) (j := 3) (.int (I 17 3)) (sh_17 hT) (by decide) k_254 rfl dX9_tryPinions_6 ?_
  refine X_invS_i (pc := 9) (c_Tr_rowsOf hT rfl) ok_Tr_rowsOf k_1010 k_1011 nd_16 (by decide) rfl (Nat.le_of_ble_eq_true rfl) dX9_tryPinions_9 ?_
  obtain ⟨x1, ex1, hf⟩ := bnd_e hf
  refine X_tope ex1 ?_
  refine X_istore (pc := 12) [(4, .int x1), (0, .ref (xP G 17)), (1, .int a0), (2, .long a1)] dX9_tryPinions_12 (by decide) rfl ?_
  refine X_aload_n (pc := 14) (i := 0) 1 dX9_tryPinions_14 rfl rfl ?_
  refine X_getr (pc := 15) (a := 17) (ci := 9) (j := 14) (c := 21) (sh_17 hT) (by decide) k_270 (rf_17_14 hT) (fun _ h => h) dX9_tryPinions_15 ?_
  refine X_aload_n (pc := 18) (i := 0) 1 dX9_tryPinions_18 rfl rfl ?_
  refine X_get (pc := 19) (a := 17) (ci := 9) (j := 2) (.int (I 17 2)) (sh_17 hT) (by decide) k_253 rfl dX9_tryPinions_19 ?_
  obtain ⟨q2, c3, hf⟩ := bd_some hf
  refine X_invS_v (pc := 22) (c_Ar_fill_i_21 hT c3) ok_Ar_fill_i k_1022 k_488 nd_3 (by decide) rfl (Nat.le_of_ble_eq_true rfl) dX9_tryPinions_22 ?_
  refine X_iconst (pc := 25) (0 : Int32) dX9_tryPinions_25 (by decide) ?_
  refine X_istore (pc := 26) [(5, .int (0 : Int32)), (4, .int x1), (0, .ref (xP G 17)), (1, .int a0), (2, .long a1)] dX9_tryPinions_26 (by decide) rfl ?_
  exact X_lvs [2, 3, 4, 1, 0] rfl (x_Tr_tryPinions_L28 hT xF hf)
theorem u_Tr_tryPinions {S : List xSh} {a0 : Int32} {a1 : Int64} {I : Nat → Nat → Int32} {L : Nat → Nat → Int64} {q : ((Nat → Nat → Int32) × (Nat → Nat → Int64))} (hf : f_Tr_tryPinions a0 a1 I L = some q) : FR S [18, 19, 21, 2704] [2711, 2712] I q.1 L q.2 := by
  replace hf := (f_Tr_tryPinions.eq_1 _ _ _ _).symm.trans hf
  obtain ⟨x1, ex1, hf⟩ := bnd_e hf
  obtain ⟨q2, c3, hf⟩ := bd_some hf
  exact FR.tr (FR.tr FR.rf (u_Ar_fill_i_21 (q := q2) c3) (by decide) (by decide)) (u_Tr_tryPinions_L28 xF hf) (by decide) (by decide)
def f_Tr_nextRow_20_L37 : Nat → Int32 → Int32 → Int32 → (Nat → Nat → Int32) → (Nat → Nat → Int64) → Option ((Nat → Nat → Int32) × (Nat → Nat → Int64))
  | 0, _, _, _, _, _ => none
  | n + 1, l3, l5, l6, I, L => (if l3 ≤ l6 then (some (I, L)) else (if (0 ≤ l6 ∧ l6 < (3 : Int32)) then (f_Tr_nextRow_20_L37 n l3 l5 (l6 + (1 : Int32)) (uI I 20 (l6.toNatClampNeg) l5) L) else none))
set_option maxRecDepth 100000 in
set_option maxHeartbeats 4000000 in
theorem x_Tr_nextRow_20_L37 {G : xG} {S : List xSh} {Rf : Nat → Nat → Option Nat} (hT : xTH S Rf) : ∀ (n : Nat) {l3 : Int32} {l5 : Int32} {l6 : Int32} {I : Nat → Nat → Int32} {L : Nat → Nat → Int64} {q : ((Nat → Nat → Int32) × (Nat → Nat → Int64))}, f_Tr_nextRow_20_L37 n l3 l5 l6 I L = some q → X G 1 m_Tr_nextRow 37 [(0, .ref (xP G 20)), (3, .int l3), (5, .int l5), (6, .int l6)] [] (S, I, L, Rf) (none, (S, q.1, q.2, Rf)) := by
  intro n
  induction n with
  | zero =>
    intro l3 l5 l6 I L q hf
    exact absurd (show none = some q from hf) (by simp)
  | succ n ih =>
    intro l3 l5 l6 I L q hf
    replace hf := (f_Tr_nextRow_20_L37.eq_2 _ _ _ _ _ _).symm.trans hf
    refine X_iload (pc := 37) 3 dX9_nextRow_37 rfl ?_
    refine X_iload_n (pc := 39) (i := 3) 1 dX9_nextRow_39 rfl rfl ?_
    by_cases c8 : l3 ≤ l6
    · replace hf := (if_pos c8).symm.trans hf
      refine X_icmp_ge_t (pc := 40) 55 dX9_nextRow_40 (by decide) c8 ?_
      cases hf
      exact X_return (pc := 55) rfl dX9_nextRow_55
    · replace hf := (if_neg c8).symm.trans hf
      refine X_icmp_ge_f (pc := 40) 55 dX9_nextRow_40 (by decide) c8 ?_
      refine X_aload_n (pc := 43) (i := 0) 0 dX9_nextRow_43 rfl rfl ?_
      refine X_iload (pc := 44) 3 dX9_nextRow_44 rfl ?_
      refine X_iload (pc := 46) 2 dX9_nextRow_46 rfl ?_
      obtain ⟨c9, hf⟩ := gd_some hf
      refine X_iastj (pc := 48) (j := (l6.toNatClampNeg)) (sh_20 hT) (vp_in_lit (N := 3) c9 (by decide)) rfl dX9_nextRow_48 ?_
      refine X_iinc (pc := 49) (i := 6) (q := 3) (v := (l6 + (1 : Int32))) [(6, .int (l6 + (1 : Int32))), (0, .ref (xP G 20)), (3, .int l3), (5, .int l5)] dX9_nextRow_49 rfl rfl (by decide) rfl ?_
      refine X_goto (pc := 52) 37 dX9_nextRow_52 (by decide) ?_
      exact X_lvs [1, 2, 3, 0] rfl (ih hf)
theorem u_Tr_nextRow_20_L37 {S : List xSh} : ∀ (n : Nat) {l3 : Int32} {l5 : Int32} {l6 : Int32} {I : Nat → Nat → Int32} {L : Nat → Nat → Int64} {q : ((Nat → Nat → Int32) × (Nat → Nat → Int64))}, f_Tr_nextRow_20_L37 n l3 l5 l6 I L = some q → FR S [20] [] I q.1 L q.2 := by
  intro n
  induction n with
  | zero =>
    intro l3 l5 l6 I L q hf
    exact absurd (show none = some q from hf) (by simp)
  | succ n ih =>
    intro l3 l5 l6 I L q hf
    replace hf := (f_Tr_nextRow_20_L37.eq_2 _ _ _ _ _ _).symm.trans hf
    by_cases c8 : l3 ≤ l6
    · replace hf := (if_pos c8).symm.trans hf
      cases hf
      exact FR.rf
    · replace hf := (if_neg c8).symm.trans hf
      obtain ⟨c9, hf⟩ := gd_some hf
      exact FR.tr (FR.ai FR.rf (by decide)) (ih hf) (by decide) (by decide)
def f_Tr_nextRow_20_L12 : Nat → Int32 → Int32 → Int32 → (Nat → Nat → Int32) → (Nat → Nat → Int64) → Option ((Nat → Nat → Int32) × (Nat → Nat → Int64))
  | 0, _, _, _, _, _ => none
  | n + 1, l2, l3, l4, I, L => (if l4 < (0 : Int32) then (some (I, L)) else (if (0 ≤ l4 ∧ l4 < (3 : Int32)) then (if l2 ≤ (I 20 (l4.toNatClampNeg)) then (f_Tr_nextRow_20_L12 n l2 l3 (l4 + (-1 : Int32)) I L) else (if (0 ≤ l4 ∧ l4 < (3 : Int32)) then (bnd ((I 20 (l4.toNatClampNeg)) + (1 : Int32)) fun x7 => (f_Tr_nextRow_20_L37 xF l3 x7 l4 I L)) else none)) else none))
set_option maxRecDepth 100000 in
set_option maxHeartbeats 4000000 in
theorem x_Tr_nextRow_20_L12 {G : xG} {S : List xSh} {Rf : Nat → Nat → Option Nat} (hT : xTH S Rf) : ∀ (n : Nat) {l2 : Int32} {l3 : Int32} {l4 : Int32} {I : Nat → Nat → Int32} {L : Nat → Nat → Int64} {q : ((Nat → Nat → Int32) × (Nat → Nat → Int64))}, f_Tr_nextRow_20_L12 n l2 l3 l4 I L = some q → X G 1 m_Tr_nextRow 12 [(0, .ref (xP G 20)), (2, .int l2), (3, .int l3), (4, .int l4)] [] (S, I, L, Rf) (none, (S, q.1, q.2, Rf)) := by
  intro n
  induction n with
  | zero =>
    intro l2 l3 l4 I L q hf
    exact absurd (show none = some q from hf) (by simp)
  | succ n ih =>
    intro l2 l3 l4 I L q hf
    replace hf := (f_Tr_nextRow_20_L12.eq_2 _ _ _ _ _ _).symm.trans hf
    refine X_iload (pc := 12) 3 dX9_nextRow_12 rfl ?_
    by_cases c3 : l4 < (0 : Int32)
    · replace hf := (if_pos c3).symm.trans hf
      refine X_if_lt_t (pc := 14) 62 dX9_nextRow_14 (by decide) c3 ?_
      cases hf
      exact X_return (pc := 62) rfl dX9_nextRow_62
    · replace hf := (if_neg c3).symm.trans hf
      refine X_if_lt_f (pc := 14) 62 dX9_nextRow_14 (by decide) c3 ?_
      refine X_aload_n (pc := 17) (i := 0) 0 dX9_nextRow_17 rfl rfl ?_
      refine X_iload (pc := 18) 3 dX9_nextRow_18 rfl ?_
      obtain ⟨c4, hf⟩ := gd_some hf
      refine X_ialdj (pc := 20) (j := l4.toNatClampNeg) (I 20 (l4.toNatClampNeg)) (sh_20 hT) (vp_in_lit (N := 3) c4 (by decide)) rfl rfl dX9_nextRow_20 ?_
      refine X_iload_n (pc := 21) (i := 2) 1 dX9_nextRow_21 rfl rfl ?_
      by_cases c5 : l2 ≤ (I 20 (l4.toNatClampNeg))
      · replace hf := (if_pos c5).symm.trans hf
        refine X_icmp_ge_t (pc := 22) 56 dX9_nextRow_22 (by decide) c5 ?_
        refine X_iinc (pc := 56) (i := 4) (q := 3) (v := (l4 + (-1 : Int32))) [(4, .int (l4 + (-1 : Int32))), (0, .ref (xP G 20)), (2, .int l2), (3, .int l3)] dX9_nextRow_56 rfl rfl (by decide) rfl ?_
        refine X_goto (pc := 59) 12 dX9_nextRow_59 (by decide) ?_
        exact X_lvs [1, 2, 3, 0] rfl (ih hf)
      · replace hf := (if_neg c5).symm.trans hf
        refine X_icmp_ge_f (pc := 22) 56 dX9_nextRow_22 (by decide) c5 ?_
        refine X_aload_n (pc := 25) (i := 0) 0 dX9_nextRow_25 rfl rfl ?_
        refine X_iload (pc := 26) 3 dX9_nextRow_26 rfl ?_
        obtain ⟨c6, hf⟩ := gd_some hf
        refine X_ialdj (pc := 28) (j := l4.toNatClampNeg) (I 20 (l4.toNatClampNeg)) (sh_20 hT) (vp_in_lit (N := 3) c6 (by decide)) rfl rfl dX9_nextRow_28 ?_
        refine X_iconst (pc := 29) (1 : Int32) dX9_nextRow_29 (by decide) ?_
        refine X_iadd (pc := 30) dX9_nextRow_30 ?_
        obtain ⟨x7, ex7, hf⟩ := bnd_e hf
        refine X_tope ex7 ?_
        refine X_istore (pc := 31) [(5, .int x7), (0, .ref (xP G 20)), (2, .int l2), (3, .int l3), (4, .int l4)] dX9_nextRow_31 (by decide) rfl ?_
        refine X_iload (pc := 33) 4 dX9_nextRow_33 rfl ?_
        refine X_istore (pc := 35) [(6, .int l4), (5, .int x7), (0, .ref (xP G 20)), (2, .int l2), (3, .int l3), (4, .int l4)] dX9_nextRow_35 (by decide) rfl ?_
        exact X_lvs [2, 4, 1, 0] rfl (x_Tr_nextRow_20_L37 hT xF hf)
theorem u_Tr_nextRow_20_L12 {S : List xSh} : ∀ (n : Nat) {l2 : Int32} {l3 : Int32} {l4 : Int32} {I : Nat → Nat → Int32} {L : Nat → Nat → Int64} {q : ((Nat → Nat → Int32) × (Nat → Nat → Int64))}, f_Tr_nextRow_20_L12 n l2 l3 l4 I L = some q → FR S [20] [] I q.1 L q.2 := by
  intro n
  induction n with
  | zero =>
    intro l2 l3 l4 I L q hf
    exact absurd (show none = some q from hf) (by simp)
  | succ n ih =>
    intro l2 l3 l4 I L q hf
    replace hf := (f_Tr_nextRow_20_L12.eq_2 _ _ _ _ _ _).symm.trans hf
    by_cases c3 : l4 < (0 : Int32)
    · replace hf := (if_pos c3).symm.trans hf
      cases hf
      exact FR.rf
    · replace hf := (if_neg c3).symm.trans hf
      obtain ⟨c4, hf⟩ := gd_some hf
      by_cases c5 : l2 ≤ (I 20 (l4.toNatClampNeg))
      · replace hf := (if_pos c5).symm.trans hf
        exact FR.tr FR.rf (ih hf) (by decide) (by decide)
      · replace hf := (if_neg c5).symm.trans hf
        obtain ⟨c6, hf⟩ := gd_some hf
        obtain ⟨x7, ex7, hf⟩ := bnd_e hf
        exact FR.tr FR.rf (u_Tr_nextRow_20_L37 xF hf) (by decide) (by decide)
def f_Tr_nextRow_20 (a1 : Int32) (a2 : Int32) (I : Nat → Nat → Int32) (L : Nat → Nat → Int64) : Option ((Nat → Nat → Int32) × (Nat → Nat → Int64)) := (bnd (jmin a1 (3 : Int32)) fun x1 => (bnd (x1 - (1 : Int32)) fun x2 => (f_Tr_nextRow_20_L12 xF a2 x1 x2 I L)))
set_option maxRecDepth 100000 in
set_option maxHeartbeats 4000000 in
theorem c_Tr_nextRow_20 {G : xG} {S : List xSh} {Rf : Nat → Nat → Option Nat} (hT : xTH S Rf) {a1 : Int32} {a2 : Int32} {I : Nat → Nat → Int32} {L : Nat → Nat → Int64} {q : ((Nat → Nat → Int32) × (Nat → Nat → Int64))} (hf : f_Tr_nextRow_20 a1 a2 I L = some q) : CT G 1 m_Tr_nextRow [.ref (xP G 20), .int a1, .int a2] (S, I, L, Rf) (none, (S, q.1, q.2, Rf)) := by
  refine CT.of (by decide +kernel) (Nat.le_of_ble_eq_true rfl) ?_
  show X G 1 m_Tr_nextRow 0 [(0, .ref (xP G 20)), (1, .int a1), (2, .int a2)] [] (S, I, L, Rf) (none, (S, q.1, q.2, Rf))
  replace hf := (f_Tr_nextRow_20.eq_1 _ _ _ _).symm.trans hf
  refine X_iload_n (pc := 0) (i := 1) 1 dX9_nextRow_0 rfl rfl ?_
  refine X_aload_n (pc := 1) (i := 0) 0 dX9_nextRow_1 rfl rfl ?_
  refine X_alen (pc := 2) (3 : Int32) (by decide) (sh_20 hT) (by decide) dX9_nextRow_2 ?_
  refine X_jmin (pc := 3) k_1041 (by decide) (Nat.le_of_ble_eq_true rfl) dX9_nextRow_3 ?_
  obtain ⟨x1, ex1, hf⟩ := bnd_e hf
  refine X_tope ex1 ?_
  refine X_istore_n (pc := 6) (i := 3) [(3, .int x1), (0, .ref (xP G 20)), (1, .int a1), (2, .int a2)] dX9_nextRow_6 rfl (by decide) rfl ?_
  refine X_iload_n (pc := 7) (i := 3) 0 dX9_nextRow_7 rfl rfl ?_
  refine X_iconst (pc := 8) (1 : Int32) dX9_nextRow_8 (by decide) ?_
  refine X_isub (pc := 9) dX9_nextRow_9 ?_
  obtain ⟨x2, ex2, hf⟩ := bnd_e hf
  refine X_tope ex2 ?_
  refine X_istore (pc := 10) [(4, .int x2), (3, .int x1), (0, .ref (xP G 20)), (1, .int a1), (2, .int a2)] dX9_nextRow_10 (by decide) rfl ?_
  exact X_lvs [2, 4, 1, 0] rfl (x_Tr_nextRow_20_L12 hT xF hf)
theorem u_Tr_nextRow_20 {S : List xSh} {a1 : Int32} {a2 : Int32} {I : Nat → Nat → Int32} {L : Nat → Nat → Int64} {q : ((Nat → Nat → Int32) × (Nat → Nat → Int64))} (hf : f_Tr_nextRow_20 a1 a2 I L = some q) : FR S [20] [] I q.1 L q.2 := by
  replace hf := (f_Tr_nextRow_20.eq_1 _ _ _ _).symm.trans hf
  obtain ⟨x1, ex1, hf⟩ := bnd_e hf
  obtain ⟨x2, ex2, hf⟩ := bnd_e hf
  exact FR.tr FR.rf (u_Tr_nextRow_20_L12 xF hf) (by decide) (by decide)
theorem dX9_tryWheels_0 : decode cX9_tryWheels 0 = .ok (.iload_n 1, 1) := by decide +kernel
theorem dX9_tryWheels_1 : decode cX9_tryWheels 1 = .ok (.aload_n 0, 1) := by decide +kernel
theorem dX9_tryWheels_2 : decode cX9_tryWheels 2 = .ok (.getfield 9, 3) := by decide +kernel
theorem dX9_tryWheels_5 : decode cX9_tryWheels 5 = .ok (.aload_n 0, 1) := by decide +kernel
theorem dX9_tryWheels_6 : decode cX9_tryWheels 6 = .ok (.getfield 15, 3) := by decide +kernel
theorem dX9_tryWheels_9 : decode cX9_tryWheels 9 = .ok (.invokestatic 37, 3) := by decide +kernel
theorem dX9_tryWheels_12 : decode cX9_tryWheels 12 = .ok (.istore_n 2, 1) := by decide +kernel
theorem dX9_tryWheels_13 : decode cX9_tryWheels 13 = .ok (.aload_n 0, 1) := by decide +kernel
theorem dX9_tryWheels_14 : decode cX9_tryWheels 14 = .ok (.getfield 31, 3) := by decide +kernel
theorem dX9_tryWheels_17 : decode cX9_tryWheels 17 = .ok (.aload_n 0, 1) := by decide +kernel
theorem dX9_tryWheels_18 : decode cX9_tryWheels 18 = .ok (.getfield 9, 3) := by decide +kernel
theorem dX9_tryWheels_21 : decode cX9_tryWheels 21 = .ok (.invokestatic 70, 3) := by decide +kernel
theorem dX9_tryWheels_24 : decode cX9_tryWheels 24 = .ok (.iconst 0, 1) := by decide +kernel
theorem dX9_tryWheels_25 : decode cX9_tryWheels 25 = .ok (.istore_n 3, 1) := by decide +kernel
theorem dX9_tryWheels_26 : decode cX9_tryWheels 26 = .ok (.iload_n 3, 1) := by decide +kernel
theorem dX9_tryWheels_27 : decode cX9_tryWheels 27 = .ok (.iload_n 2, 1) := by decide +kernel
theorem dX9_tryWheels_28 : decode cX9_tryWheels 28 = .ok (.if_icmp .ge 46, 3) := by decide +kernel
theorem dX9_tryWheels_31 : decode cX9_tryWheels 31 = .ok (.aload_n 0, 1) := by decide +kernel
theorem dX9_tryWheels_32 : decode cX9_tryWheels 32 = .ok (.invokevirtual 53, 3) := by decide +kernel
theorem dX9_tryWheels_35 : decode cX9_tryWheels 35 = .ok (.ifCond .ne 39, 3) := by decide +kernel
theorem dX9_tryWheels_38 : decode cX9_tryWheels 38 = .ok (.aload_n 0, 1) := by decide +kernel
theorem dX9_tryWheels_39 : decode cX9_tryWheels 39 = .ok (.iload_n 1, 1) := by decide +kernel
theorem dX9_tryWheels_40 : decode cX9_tryWheels 40 = .ok (.aload_n 0, 1) := by decide +kernel
theorem dX9_tryWheels_41 : decode cX9_tryWheels 41 = .ok (.getfield 31, 3) := by decide +kernel
theorem dX9_tryWheels_44 : decode cX9_tryWheels 44 = .ok (.iload_n 1, 1) := by decide +kernel
theorem dX9_tryWheels_45 : decode cX9_tryWheels 45 = .ok (.invokestatic 76, 3) := by decide +kernel
theorem dX9_tryWheels_48 : decode cX9_tryWheels 48 = .ok (.aload_n 0, 1) := by decide +kernel
theorem dX9_tryWheels_49 : decode cX9_tryWheels 49 = .ok (.getfield 47, 3) := by decide +kernel
theorem dX9_tryWheels_52 : decode cX9_tryWheels 52 = .ok (.lmul, 1) := by decide +kernel
theorem dX9_tryWheels_53 : decode cX9_tryWheels 53 = .ok (.invokevirtual 80, 3) := by decide +kernel
theorem dX9_tryWheels_56 : decode cX9_tryWheels 56 = .ok (.aload_n 0, 1) := by decide +kernel
theorem dX9_tryWheels_57 : decode cX9_tryWheels 57 = .ok (.getfield 31, 3) := by decide +kernel
theorem dX9_tryWheels_60 : decode cX9_tryWheels 60 = .ok (.iload_n 1, 1) := by decide +kernel
theorem dX9_tryWheels_61 : decode cX9_tryWheels 61 = .ok (.aload_n 0, 1) := by decide +kernel
theorem dX9_tryWheels_62 : decode cX9_tryWheels 62 = .ok (.getfield 15, 3) := by decide +kernel
theorem dX9_tryWheels_65 : decode cX9_tryWheels 65 = .ok (.invokestatic 84, 3) := by decide +kernel
theorem dX9_tryWheels_68 : decode cX9_tryWheels 68 = .ok (.iinc 3 1, 3) := by decide +kernel
theorem dX9_tryWheels_71 : decode cX9_tryWheels 71 = .ok (.goto (-45), 3) := by decide +kernel
theorem dX9_tryWheels_74 : decode cX9_tryWheels 74 = .ok (.return_, 1) := by decide +kernel
def f_Tr_tryWheels_L26 : Nat → Int32 → Int32 → Int32 → (Nat → Nat → Int32) → (Nat → Nat → Int64) → Option ((Nat → Nat → Int32) × (Nat → Nat → Int64))
  | 0, _, _, _, _, _ => none
  | n + 1, l1, l2, l3, I, L => (if l2 ≤ l3 then (some (I, L)) else (if (f_Tr_isPerfect I L) = (0 : Int32) then ((f_Tr_productOf_20 l1 I L).bind fun q6 => ((f_Tr_tryPinions l1 (q6 * (L 17 10)) I L).bind fun q8 => ((f_Tr_nextRow_20 l1 (q8.1 17 1) q8.1 q8.2).bind fun q10 => (f_Tr_tryWheels_L26 n l1 l2 (l3 + (1 : Int32)) q10.1 q10.2)))) else (some (I, L))))
set_option maxRecDepth 100000 in
set_option maxHeartbeats 4000000 in
theorem x_Tr_tryWheels_L26 {G : xG} {S : List xSh} {Rf : Nat → Nat → Option Nat} (hT : xTH S Rf) : ∀ (n : Nat) {l1 : Int32} {l2 : Int32} {l3 : Int32} {I : Nat → Nat → Int32} {L : Nat → Nat → Int64} {q : ((Nat → Nat → Int32) × (Nat → Nat → Int64))}, f_Tr_tryWheels_L26 n l1 l2 l3 I L = some q → X G 3 m_Tr_tryWheels 26 [(0, .ref (xP G 17)), (1, .int l1), (2, .int l2), (3, .int l3)] [] (S, I, L, Rf) (none, (S, q.1, q.2, Rf)) := by
  intro n
  induction n with
  | zero =>
    intro l1 l2 l3 I L q hf
    exact absurd (show none = some q from hf) (by simp)
  | succ n ih =>
    intro l1 l2 l3 I L q hf
    replace hf := (f_Tr_tryWheels_L26.eq_2 _ _ _ _ _ _).symm.trans hf
    refine X_iload_n (pc := 26) (i := 3) 3 dX9_tryWheels_26 rfl rfl ?_
    refine X_iload_n (pc := 27) (i := 2) 2 dX9_tryWheels_27 rfl rfl ?_
    by_cases c4 : l2 ≤ l3
    · replace hf := (if_pos c4).symm.trans hf
      refine X_icmp_ge_t (pc := 28) 74 dX9_tryWheels_28 (by decide) c4 ?_
      cases hf
      exact X_return (pc := 74) rfl dX9_tryWheels_74
    · replace hf := (if_neg c4).symm.trans hf
      refine X_icmp_ge_f (pc := 28) 74 dX9_tryWheels_28 (by decide) c4 ?_
      refine X_aload_n (pc := 31) (i := 0) 0 dX9_tryWheels_31 rfl rfl ?_
      refine X_invV_i (pc := 32) (c_Tr_isPerfect hT rfl) ok_Tr_isPerfect (ci := 9) (sh_17 hT) k_1014 k_1016 k_26 nd_11 (by decide) rfl (Nat.le_of_ble_eq_true rfl) dX9_tryWheels_32 ?_
      by_cases c5 : (f_Tr_isPerfect I L) = (0 : Int32)
      · replace hf := (if_pos c5).symm.trans hf
        refine X_if_ne_f (pc := 35) 74 dX9_tryWheels_35 (by decide) c5 ?_
        refine X_aload_n (pc := 38) (i := 0) 0 dX9_tryWheels_38 rfl rfl ?_
        refine X_iload_n (pc := 39) (i := 1) 1 dX9_tryWheels_39 rfl rfl ?_
        refine X_aload_n (pc := 40) (i := 0) 0 dX9_tryWheels_40 rfl rfl ?_
        refine X_getr (pc := 41) (a := 17) (ci := 9) (j := 13) (c := 20) (sh_17 hT) (by decide) k_269 (rf_17_13 hT) (fun _ h => h) dX9_tryWheels_41 ?_
        refine X_iload_n (pc := 44) (i := 1) 1 dX9_tryWheels_44 rfl rfl ?_
        obtain ⟨q6, c7, hf⟩ := bd_some hf
        refine X_invS_l (pc := 45) (c_Tr_productOf_20 hT c7) ok_Tr_productOf k_1023 k_1024 nd_27 (by decide) rfl (Nat.le_of_ble_eq_true rfl) dX9_tryWheels_45 ?_
        refine X_aload_n (pc := 48) (i := 0) 0 dX9_tryWheels_48 rfl rfl ?_
        refine X_get (pc := 49) (a := 17) (ci := 9) (j := 10) (.long (L 17 10)) (sh_17 hT) (by decide) k_266 rfl dX9_tryWheels_49 ?_
        refine X_lmul (pc := 52) dX9_tryWheels_52 ?_
        obtain ⟨q8, c9, hf⟩ := bd_some hf
        refine X_invV_v (pc := 53) (c_Tr_tryPinions hT c9) ok_Tr_tryPinions (ci := 9) (sh_17 hT) k_1026 k_1028 k_28 nd_30 (by decide) rfl (Nat.le_of_ble_eq_true rfl) dX9_tryWheels_53 ?_
        refine X_aload_n (pc := 56) (i := 0) 0 dX9_tryWheels_56 rfl rfl ?_
        refine X_getr (pc := 57) (a := 17) (ci := 9) (j := 13) (c := 20) (sh_17 hT) (by decide) k_269 (rf_17_13 hT) (fun _ h => h) dX9_tryWheels_57 ?_
        refine X_iload_n (pc := 60) (i := 1) 1 dX9_tryWheels_60 rfl rfl ?_
        refine X_aload_n (pc := 61) (i := 0) 0 dX9_tryWheels_61 rfl rfl ?_
        refine X_get (pc := 62) (a := 17) (ci := 9) (j := 1) (.int (q8.1 17 1)) (sh_17 hT) (by decide) k_252 rfl dX9_tryWheels_62 ?_
        obtain ⟨q10, c11, hf⟩ := bd_some hf
        refine X_invS_v (pc := 65) (c_Tr_nextRow_20 hT c11) ok_Tr_nextRow k_1038 k_1039 nd_29 (by decide) rfl (Nat.le_of_ble_eq_true rfl) dX9_tryWheels_65 ?_
        refine X_iinc (pc := 68) (i := 3) (q := 3) (v := (l3 + (1 : Int32))) [(3, .int (l3 + (1 : Int32))), (0, .ref (xP G 17)), (1, .int l1), (2, .int l2)] dX9_tryWheels_68 rfl rfl (by decide) rfl ?_
        refine X_goto (pc := 71) 26 dX9_tryWheels_71 (by decide) ?_
        exact X_lvs [1, 2, 3, 0] rfl (ih hf)
      · replace hf := (if_neg c5).symm.trans hf
        refine X_if_ne_t (pc := 35) 74 dX9_tryWheels_35 (by decide) c5 ?_
        cases hf
        exact X_return (pc := 74) rfl dX9_tryWheels_74
theorem u_Tr_tryWheels_L26 {S : List xSh} : ∀ (n : Nat) {l1 : Int32} {l2 : Int32} {l3 : Int32} {I : Nat → Nat → Int32} {L : Nat → Nat → Int64} {q : ((Nat → Nat → Int32) × (Nat → Nat → Int64))}, f_Tr_tryWheels_L26 n l1 l2 l3 I L = some q → FR S [18, 19, 20, 21, 2704] [2711, 2712] I q.1 L q.2 := by
  intro n
  induction n with
  | zero =>
    intro l1 l2 l3 I L q hf
    exact absurd (show none = some q from hf) (by simp)
  | succ n ih =>
    intro l1 l2 l3 I L q hf
    replace hf := (f_Tr_tryWheels_L26.eq_2 _ _ _ _ _ _).symm.trans hf
    by_cases c4 : l2 ≤ l3
    · replace hf := (if_pos c4).symm.trans hf
      cases hf
      exact FR.rf
    · replace hf := (if_neg c4).symm.trans hf
      by_cases c5 : (f_Tr_isPerfect I L) = (0 : Int32)
      · replace hf := (if_pos c5).symm.trans hf
        obtain ⟨q6, c7, hf⟩ := bd_some hf
        obtain ⟨q8, c9, hf⟩ := bd_some hf
        obtain ⟨q10, c11, hf⟩ := bd_some hf
        exact FR.tr (FR.tr (FR.tr FR.rf (u_Tr_tryPinions (q := q8) c9) (by decide) (by decide)) (u_Tr_nextRow_20 (q := q10) c11) (by decide) (by decide)) (ih hf) (by decide) (by decide)
      · replace hf := (if_neg c5).symm.trans hf
        cases hf
        exact FR.rf
def f_Tr_tryWheels (a0 : Int32) (I : Nat → Nat → Int32) (L : Nat → Nat → Int64) : Option ((Nat → Nat → Int32) × (Nat → Nat → Int64)) := (bnd (f_Tr_rowsOf a0 (I 17 0) (I 17 1)) fun x1 => ((f_Ar_fill_i_20 (I 17 0) I L).bind fun q2 => (f_Tr_tryWheels_L26 xF a0 x1 (0 : Int32) q2.1 q2.2)))
set_option maxRecDepth 100000 in
set_option maxHeartbeats 4000000 in
theorem c_Tr_tryWheels {G : xG} {S : List xSh} {Rf : Nat → Nat → Option Nat} (hT : xTH S Rf) {a0 : Int32} {I : Nat → Nat → Int32} {L : Nat → Nat → Int64} {q : ((Nat → Nat → Int32) × (Nat → Nat → Int64))} (hf : f_Tr_tryWheels a0 I L = some q) : CT G 3 m_Tr_tryWheels [.ref (xP G 17), .int a0] (S, I, L, Rf) (none, (S, q.1, q.2, Rf)) := by
  refine CT.of (by decide +kernel) (Nat.le_of_ble_eq_true rfl) ?_
  show X G 3 m_Tr_tryWheels 0 [(0, .ref (xP G 17)), (1, .int a0)] [] (S, I, L, Rf) (none, (S, q.1, q.2, Rf))
  replace hf := (f_Tr_tryWheels.eq_1 _ _ _).symm.trans hf
  refine X_iload_n (pc := 0) (i := 1) 1 dX9_tryWheels_0 rfl rfl ?_
  refine X_aload_n (pc := 1) (i := 0) 0 dX9_tryWheels_1 rfl rfl ?_
  refine X_get (pc := 2) (a := 17) (ci := 9) (j := 0) (.int (I 17 0)) (sh_17 hT) (by decide) k_251 rfl dX9_tryWheels_2 ?_
  refine X_aload_n (pc := 5) (i := 0) 0 dX9_tryWheels_5 rfl rfl ?_
  refine X_get (pc := 6) (a := 17) (ci := 9) (j := 1) (.int (I 17 1)) (sh_17 hT) (by decide) k_252 rfl dX9_tryWheels_6 ?_
  refine X_invS_i (pc := 9) (c_Tr_rowsOf hT rfl) ok_Tr_rowsOf k_1010 k_1011 nd_16 (by decide) rfl (Nat.le_of_ble_eq_true rfl) dX9_tryWheels_9 ?_
  obtain ⟨x1, ex1, hf⟩ := bnd_e hf
  refine X_tope ex1 ?_
  refine X_istore_n (pc := 12) (i := 2) [(2, .int x1), (0, .ref (xP G 17)), (1, .int a0)] dX9_tryWheels_12 rfl (by decide) rfl ?_
  refine X_aload_n (pc := 13) (i := 0) 1 dX9_tryWheels_13 rfl rfl ?_
  refine X_getr (pc := 14) (a := 17) (ci := 9) (j := 13) (c := 20) (sh_17 hT) (by decide) k_269 (rf_17_13 hT) (fun _ h => h) dX9_tryWheels_14 ?_
  refine X_aload_n (pc := 17) (i := 0) 1 dX9_tryWheels_17 rfl rfl ?_
  refine X_get (pc := 18) (a := 17) (ci := 9) (j := 0) (.int (I 17 0)) (sh_17 hT) (by decide) k_251 rfl dX9_tryWheels_18 ?_
  obtain ⟨q2, c3, hf⟩ := bd_some hf
  refine X_invS_v (pc := 21) (c_Ar_fill_i_20 hT c3) ok_Ar_fill_i k_1022 k_488 nd_3 (by decide) rfl (Nat.le_of_ble_eq_true rfl) dX9_tryWheels_21 ?_
  refine X_iconst (pc := 24) (0 : Int32) dX9_tryWheels_24 (by decide) ?_
  refine X_istore_n (pc := 25) (i := 3) [(3, .int (0 : Int32)), (2, .int x1), (0, .ref (xP G 17)), (1, .int a0)] dX9_tryWheels_25 rfl (by decide) rfl ?_
  exact X_lvs [2, 3, 1, 0] rfl (x_Tr_tryWheels_L26 hT xF hf)
theorem u_Tr_tryWheels {S : List xSh} {a0 : Int32} {I : Nat → Nat → Int32} {L : Nat → Nat → Int64} {q : ((Nat → Nat → Int32) × (Nat → Nat → Int64))} (hf : f_Tr_tryWheels a0 I L = some q) : FR S [18, 19, 20, 21, 2704] [2711, 2712] I q.1 L q.2 := by
  replace hf := (f_Tr_tryWheels.eq_1 _ _ _).symm.trans hf
  obtain ⟨x1, ex1, hf⟩ := bnd_e hf
  obtain ⟨q2, c3, hf⟩ := bd_some hf
  exact FR.tr (FR.tr FR.rf (u_Ar_fill_i_20 (q := q2) c3) (by decide) (by decide)) (u_Tr_tryWheels_L26 xF hf) (by decide) (by decide)
theorem dX9_find_0 : decode cX9_find 0 = .ok (.iload_n 3, 1) := by decide +kernel
theorem dX9_find_1 : decode cX9_find 1 = .ok (.aload_n 0, 1) := by decide +kernel
theorem dX9_find_2 : decode cX9_find 2 = .ok (.getfield 9, 3) := by decide +kernel
theorem dX9_find_5 : decode cX9_find 5 = .ok (.aload_n 0, 1) := by decide +kernel
theorem dX9_find_6 : decode cX9_find 6 = .ok (.getfield 15, 3) := by decide +kernel
theorem dX9_find_9 : decode cX9_find 9 = .ok (.invokestatic 37, 3) := by decide +kernel
theorem dX9_find_12 : decode cX9_find 12 = .ok (.i2l, 1) := by decide +kernel
theorem dX9_find_13 : decode cX9_find 13 = .ok (.iload_n 3, 1) := by decide +kernel
theorem dX9_find_14 : decode cX9_find 14 = .ok (.aload_n 0, 1) := by decide +kernel
theorem dX9_find_15 : decode cX9_find 15 = .ok (.getfield 18, 3) := by decide +kernel
theorem dX9_find_18 : decode cX9_find 18 = .ok (.aload_n 0, 1) := by decide +kernel
theorem dX9_find_19 : decode cX9_find 19 = .ok (.getfield 21, 3) := by decide +kernel
theorem dX9_find_22 : decode cX9_find 22 = .ok (.invokestatic 37, 3) := by decide +kernel
theorem dX9_find_25 : decode cX9_find 25 = .ok (.i2l, 1) := by decide +kernel
theorem dX9_find_26 : decode cX9_find 26 = .ok (.lmul, 1) := by decide +kernel
theorem dX9_find_27 : decode cX9_find 27 = .ok (.lstore 4, 2) := by decide +kernel
theorem dX9_find_29 : decode cX9_find 29 = .ok (.lload 4, 2) := by decide +kernel
theorem dX9_find_31 : decode cX9_find 31 = .ok (.ldc2_w 41, 3) := by decide +kernel
theorem dX9_find_34 : decode cX9_find 34 = .ok (.lcmp, 1) := by decide +kernel
theorem dX9_find_35 : decode cX9_find 35 = .ok (.ifCond .le 6, 3) := by decide +kernel
theorem dX9_find_38 : decode cX9_find 38 = .ok (.bipush (-3), 2) := by decide +kernel
theorem dX9_find_40 : decode cX9_find 40 = .ok (.ireturn, 1) := by decide +kernel
theorem dX9_find_41 : decode cX9_find 41 = .ok (.aload_n 0, 1) := by decide +kernel
theorem dX9_find_42 : decode cX9_find 42 = .ok (.iload_n 1, 1) := by decide +kernel
theorem dX9_find_43 : decode cX9_find 43 = .ok (.i2l, 1) := by decide +kernel
theorem dX9_find_44 : decode cX9_find 44 = .ok (.putfield 43, 3) := by decide +kernel
theorem dX9_find_47 : decode cX9_find 47 = .ok (.aload_n 0, 1) := by decide +kernel
theorem dX9_find_48 : decode cX9_find 48 = .ok (.iload_n 2, 1) := by decide +kernel
theorem dX9_find_49 : decode cX9_find 49 = .ok (.i2l, 1) := by decide +kernel
theorem dX9_find_50 : decode cX9_find 50 = .ok (.putfield 47, 3) := by decide +kernel
theorem dX9_find_53 : decode cX9_find 53 = .ok (.aload_n 0, 1) := by decide +kernel
theorem dX9_find_54 : decode cX9_find 54 = .ok (.lconst 0, 1) := by decide +kernel
theorem dX9_find_55 : decode cX9_find 55 = .ok (.putfield 50, 3) := by decide +kernel
theorem dX9_find_58 : decode cX9_find 58 = .ok (.iconst 1, 1) := by decide +kernel
theorem dX9_find_59 : decode cX9_find 59 = .ok (.istore 6, 2) := by decide +kernel
theorem dX9_find_61 : decode cX9_find 61 = .ok (.iload 6, 2) := by decide +kernel
theorem dX9_find_63 : decode cX9_find 63 = .ok (.iload_n 3, 1) := by decide +kernel
theorem dX9_find_64 : decode cX9_find 64 = .ok (.if_icmp .gt 22, 3) := by decide +kernel
theorem dX9_find_67 : decode cX9_find 67 = .ok (.aload_n 0, 1) := by decide +kernel
theorem dX9_find_68 : decode cX9_find 68 = .ok (.invokevirtual 53, 3) := by decide +kernel
theorem dX9_find_71 : decode cX9_find 71 = .ok (.ifCond .ne 15, 3) := by decide +kernel
theorem dX9_find_74 : decode cX9_find 74 = .ok (.aload_n 0, 1) := by decide +kernel
theorem dX9_find_75 : decode cX9_find 75 = .ok (.iload 6, 2) := by decide +kernel
theorem dX9_find_77 : decode cX9_find 77 = .ok (.invokevirtual 57, 3) := by decide +kernel
theorem dX9_find_80 : decode cX9_find 80 = .ok (.iinc 6 1, 3) := by decide +kernel
theorem dX9_find_83 : decode cX9_find 83 = .ok (.goto (-22), 3) := by decide +kernel
theorem dX9_find_86 : decode cX9_find 86 = .ok (.aload_n 0, 1) := by decide +kernel
theorem dX9_find_87 : decode cX9_find 87 = .ok (.invokevirtual 61, 3) := by decide +kernel
theorem dX9_find_90 : decode cX9_find 90 = .ok (.aload_n 0, 1) := by decide +kernel
theorem dX9_find_91 : decode cX9_find 91 = .ok (.getfield 64, 3) := by decide +kernel
theorem dX9_find_94 : decode cX9_find 94 = .ok (.ireturn, 1) := by decide +kernel
def f_Tr_find_L86 (I : (Nat → Nat → Int32)) (L : (Nat → Nat → Int64)) : Option (Int32 × (Nat → Nat → Int32) × (Nat → Nat → Int64)) := ((f_Tr_setError I L).bind fun q6 => (some ((q6.1 17 4), q6.1, q6.2)))
set_option maxRecDepth 100000 in
set_option maxHeartbeats 4000000 in
theorem x_Tr_find_L86 {G : xG} {S : List xSh} {Rf : Nat → Nat → Option Nat} (hT : xTH S Rf) {I : Nat → Nat → Int32} {L : Nat → Nat → Int64} {q : (Int32 × (Nat → Nat → Int32) × (Nat → Nat → Int64))} (hf : f_Tr_find_L86 I L = some q) : X G 4 m_Tr_find 86 [(0, .ref (xP G 17))] [] (S, I, L, Rf) (some (.int q.1), (S, q.2.1, q.2.2, Rf)) := by
  replace hf := (f_Tr_find_L86.eq_1 _ _).symm.trans hf
  refine X_aload_n (pc := 86) (i := 0) 0 dX9_find_86 rfl rfl ?_
  obtain ⟨q6, c7, hf⟩ := bd_some hf
  refine X_invV_v (pc := 87) (c_Tr_setError hT c7) ok_Tr_setError (ci := 9) (sh_17 hT) k_1042 k_1044 k_30 nd_1 (by decide) rfl (Nat.le_of_ble_eq_true rfl) dX9_find_87 ?_
  refine X_aload_n (pc := 90) (i := 0) 0 dX9_find_90 rfl rfl ?_
  refine X_get (pc := 91) (a := 17) (ci := 9) (j := 4) (.int (q6.1 17 4)) (sh_17 hT) (by decide) k_255 rfl dX9_find_91 ?_
  cases hf
  exact X_ireturn (pc := 94) rfl dX9_find_94
theorem u_Tr_find_L86 {S : List xSh} {I : Nat → Nat → Int32} {L : Nat → Nat → Int64} {q : (Int32 × (Nat → Nat → Int32) × (Nat → Nat → Int64))} (hf : f_Tr_find_L86 I L = some q) : FR S [18, 19, 20, 21, 2704] [2707, 2708, 2709, 2710, 2711, 2712] I q.2.1 L q.2.2 := by
  replace hf := (f_Tr_find_L86.eq_1 _ _).symm.trans hf
  obtain ⟨q6, c7, hf⟩ := bd_some hf
  cases hf
  exact (FR.tr FR.rf (u_Tr_setError (q := q6) c7) (by decide) (by decide))
def f_Tr_find_L61 : Nat → Int32 → Int32 → (Nat → Nat → Int32) → (Nat → Nat → Int64) → Option (Int32 × (Nat → Nat → Int32) × (Nat → Nat → Int64))
  | 0, _, _, _, _ => none
  | n + 1, l3, l6, I, L => (if l3 < l6 then (f_Tr_find_L86 I L) else (if (f_Tr_isPerfect I L) = (0 : Int32) then ((f_Tr_tryWheels l6 I L).bind fun q9 => (f_Tr_find_L61 n l3 (l6 + (1 : Int32)) q9.1 q9.2)) else (f_Tr_find_L86 I L)))
set_option maxRecDepth 100000 in
set_option maxHeartbeats 4000000 in
theorem x_Tr_find_L61 {G : xG} {S : List xSh} {Rf : Nat → Nat → Option Nat} (hT : xTH S Rf) : ∀ (n : Nat) {l3 : Int32} {l6 : Int32} {I : Nat → Nat → Int32} {L : Nat → Nat → Int64} {q : (Int32 × (Nat → Nat → Int32) × (Nat → Nat → Int64))}, f_Tr_find_L61 n l3 l6 I L = some q → X G 4 m_Tr_find 61 [(0, .ref (xP G 17)), (3, .int l3), (6, .int l6)] [] (S, I, L, Rf) (some (.int q.1), (S, q.2.1, q.2.2, Rf)) := by
  intro n
  induction n with
  | zero =>
    intro l3 l6 I L q hf
    exact absurd (show none = some q from hf) (by simp)
  | succ n ih =>
    intro l3 l6 I L q hf
    replace hf := (f_Tr_find_L61.eq_2 _ _ _ _ _).symm.trans hf
    refine X_iload (pc := 61) 2 dX9_find_61 rfl ?_
    refine X_iload_n (pc := 63) (i := 3) 1 dX9_find_63 rfl rfl ?_
    by_cases c5 : l3 < l6
    · replace hf := (if_pos c5).symm.trans hf
      refine X_icmp_gt_t (pc := 64) 86 dX9_find_64 (by decide) c5 ?_
      exact X_lvs [0] rfl (x_Tr_find_L86 hT hf)
    · replace hf := (if_neg c5).symm.trans hf
      refine X_icmp_gt_f (pc := 64) 86 dX9_find_64 (by decide) c5 ?_
      refine X_aload_n (pc := 67) (i := 0) 0 dX9_find_67 rfl rfl ?_
      refine X_invV_i (pc := 68) (c_Tr_isPerfect hT rfl) ok_Tr_isPerfect (ci := 9) (sh_17 hT) k_1014 k_1016 k_26 nd_11 (by decide) rfl (Nat.le_of_ble_eq_true rfl) dX9_find_68 ?_
      by_cases c8 : (f_Tr_isPerfect I L) = (0 : Int32)
      · replace hf := (if_pos c8).symm.trans hf
        refine X_if_ne_f (pc := 71) 86 dX9_find_71 (by decide) c8 ?_
        refine X_aload_n (pc := 74) (i := 0) 0 dX9_find_74 rfl rfl ?_
        refine X_iload (pc := 75) 2 dX9_find_75 rfl ?_
        obtain ⟨q9, c10, hf⟩ := bd_some hf
        refine X_invV_v (pc := 77) (c_Tr_tryWheels hT c10) ok_Tr_tryWheels (ci := 9) (sh_17 hT) k_1018 k_1020 k_27 nd_13 (by decide) rfl (Nat.le_of_ble_eq_true rfl) dX9_find_77 ?_
        refine X_iinc (pc := 80) (i := 6) (q := 2) (v := (l6 + (1 : Int32))) [(6, .int (l6 + (1 : Int32))), (0, .ref (xP G 17)), (3, .int l3)] dX9_find_80 rfl rfl (by decide) rfl ?_
        refine X_goto (pc := 83) 61 dX9_find_83 (by decide) ?_
        exact X_lvs [1, 2, 0] rfl (ih hf)
      · replace hf := (if_neg c8).symm.trans hf
        refine X_if_ne_t (pc := 71) 86 dX9_find_71 (by decide) c8 ?_
        exact X_lvs [0] rfl (x_Tr_find_L86 hT hf)
theorem u_Tr_find_L61 {S : List xSh} : ∀ (n : Nat) {l3 : Int32} {l6 : Int32} {I : Nat → Nat → Int32} {L : Nat → Nat → Int64} {q : (Int32 × (Nat → Nat → Int32) × (Nat → Nat → Int64))}, f_Tr_find_L61 n l3 l6 I L = some q → FR S [18, 19, 20, 21, 2704] [2707, 2708, 2709, 2710, 2711, 2712] I q.2.1 L q.2.2 := by
  intro n
  induction n with
  | zero =>
    intro l3 l6 I L q hf
    exact absurd (show none = some q from hf) (by simp)
  | succ n ih =>
    intro l3 l6 I L q hf
    replace hf := (f_Tr_find_L61.eq_2 _ _ _ _ _).symm.trans hf
    by_cases c5 : l3 < l6
    · replace hf := (if_pos c5).symm.trans hf
      exact FR.tr FR.rf (u_Tr_find_L86 hf) (by decide) (by decide)
    · replace hf := (if_neg c5).symm.trans hf
      by_cases c8 : (f_Tr_isPerfect I L) = (0 : Int32)
      · replace hf := (if_pos c8).symm.trans hf
        obtain ⟨q9, c10, hf⟩ := bd_some hf
        exact FR.tr (FR.tr FR.rf (u_Tr_tryWheels (q := q9) c10) (by decide) (by decide)) (ih hf) (by decide) (by decide)
      · replace hf := (if_neg c8).symm.trans hf
        exact FR.tr FR.rf (u_Tr_find_L86 hf) (by decide) (by decide)
def f_Tr_find (a0 : Int32) (a1 : Int32) (a2 : Int32) (I : Nat → Nat → Int32) (L : Nat → Nat → Int64) : Option (Int32 × (Nat → Nat → Int32) × (Nat → Nat → Int64)) := (bnd ((Int32.toInt64 (f_Tr_rowsOf a2 (I 17 0) (I 17 1))) * (Int32.toInt64 (f_Tr_rowsOf a2 (I 17 2) (I 17 3)))) fun x1 => (if x1 ≤ (200000 : Int64) then (bnd (Int32.toInt64 a0) fun x3 => (bnd (Int32.toInt64 a1) fun x4 => (f_Tr_find_L61 xF a2 (1 : Int32) I (uL (uL (uL L 17 9 x3) 17 10 x4) 17 12 (0 : Int64))))) else (some ((-3 : Int32), I, L))))
set_option maxRecDepth 100000 in
set_option maxHeartbeats 4000000 in
theorem c_Tr_find {G : xG} {S : List xSh} {Rf : Nat → Nat → Option Nat} (hT : xTH S Rf) {a0 : Int32} {a1 : Int32} {a2 : Int32} {I : Nat → Nat → Int32} {L : Nat → Nat → Int64} {q : (Int32 × (Nat → Nat → Int32) × (Nat → Nat → Int64))} (hf : f_Tr_find a0 a1 a2 I L = some q) : CT G 4 m_Tr_find [.ref (xP G 17), .int a0, .int a1, .int a2] (S, I, L, Rf) (some (.int q.1), (S, q.2.1, q.2.2, Rf)) := by
  refine CT.of (by decide +kernel) (Nat.le_of_ble_eq_true rfl) ?_
  show X G 4 m_Tr_find 0 [(0, .ref (xP G 17)), (1, .int a0), (2, .int a1), (3, .int a2)] [] (S, I, L, Rf) (some (.int q.1), (S, q.2.1, q.2.2, Rf))
  replace hf := (f_Tr_find.eq_1 _ _ _ _ _).symm.trans hf
  refine X_iload_n (pc := 0) (i := 3) 3 dX9_find_0 rfl rfl ?_
  refine X_aload_n (pc := 1) (i := 0) 0 dX9_find_1 rfl rfl ?_
  refine X_get (pc := 2) (a := 17) (ci := 9) (j := 0) (.int (I 17 0)) (sh_17 hT) (by decide) k_251 rfl dX9_find_2 ?_
  refine X_aload_n (pc := 5) (i := 0) 0 dX9_find_5 rfl rfl ?_
  refine X_get (pc := 6) (a := 17) (ci := 9) (j := 1) (.int (I 17 1)) (sh_17 hT) (by decide) k_252 rfl dX9_find_6 ?_
  refine X_invS_i (pc := 9) (c_Tr_rowsOf hT rfl) ok_Tr_rowsOf k_1010 k_1011 nd_16 (by decide) rfl (Nat.le_of_ble_eq_true rfl) dX9_find_9 ?_
  refine X_i2l (pc := 12) dX9_find_12 ?_
  refine X_iload_n (pc := 13) (i := 3) 3 dX9_find_13 rfl rfl ?_
  refine X_aload_n (pc := 14) (i := 0) 0 dX9_find_14 rfl rfl ?_
  refine X_get (pc := 15) (a := 17) (ci := 9) (j := 2) (.int (I 17 2)) (sh_17 hT) (by decide) k_253 rfl dX9_find_15 ?_
  refine X_aload_n (pc := 18) (i := 0) 0 dX9_find_18 rfl rfl ?_
  refine X_get (pc := 19) (a := 17) (ci := 9) (j := 3) (.int (I 17 3)) (sh_17 hT) (by decide) k_254 rfl dX9_find_19 ?_
  refine X_invS_i (pc := 22) (c_Tr_rowsOf hT rfl) ok_Tr_rowsOf k_1010 k_1011 nd_16 (by decide) rfl (Nat.le_of_ble_eq_true rfl) dX9_find_22 ?_
  refine X_i2l (pc := 25) dX9_find_25 ?_
  refine X_lmul (pc := 26) dX9_find_26 ?_
  obtain ⟨x1, ex1, hf⟩ := bnd_e hf
  refine X_tople ex1 ?_
  refine X_lstore (pc := 27) [(4, .long x1), (0, .ref (xP G 17)), (1, .int a0), (2, .int a1), (3, .int a2)] dX9_find_27 (by decide) rfl ?_
  refine X_lload (pc := 29) 0 dX9_find_29 rfl ?_
  refine X_ldc2 (pc := 31) (200000 : Int64) k_1013 dX9_find_31 ?_
  refine X_lcmp (pc := 34) dX9_find_34 ?_
  by_cases c2 : x1 ≤ (200000 : Int64)
  · replace hf := (if_pos c2).symm.trans hf
    refine X_if_le_t (pc := 35) 41 dX9_find_35 (by decide) ((lg_cmp_le _ _).mpr c2) ?_
    refine X_aload_n (pc := 41) (i := 0) 1 dX9_find_41 rfl rfl ?_
    refine X_iload_n (pc := 42) (i := 1) 2 dX9_find_42 rfl rfl ?_
    refine X_i2l (pc := 43) dX9_find_43 ?_
    obtain ⟨x3, ex3, hf⟩ := bnd_e hf
    refine X_tople ex3 ?_
    refine X_putl (pc := 44) (a := 17) (ci := 9) (j := 9) 9 rfl false (sh_17 hT) (by decide) k_265 rfl (fun h => by cases h) rfl dX9_find_44 ?_
    refine X_aload_n (pc := 47) (i := 0) 1 dX9_find_47 rfl rfl ?_
    refine X_iload_n (pc := 48) (i := 2) 3 dX9_find_48 rfl rfl ?_
    refine X_i2l (pc := 49) dX9_find_49 ?_
    obtain ⟨x4, ex4, hf⟩ := bnd_e hf
    refine X_tople ex4 ?_
    refine X_putl (pc := 50) (a := 17) (ci := 9) (j := 10) 10 rfl false (sh_17 hT) (by decide) k_266 rfl (fun h => by cases h) rfl dX9_find_50 ?_
    refine X_aload_n (pc := 53) (i := 0) 1 dX9_find_53 rfl rfl ?_
    refine X_lconst (pc := 54) (0 : Int64) dX9_find_54 (by decide) ?_
    refine X_putl (pc := 55) (a := 17) (ci := 9) (j := 12) 12 rfl false (sh_17 hT) (by decide) k_268 rfl (fun h => by cases h) rfl dX9_find_55 ?_
    refine X_iconst (pc := 58) (1 : Int32) dX9_find_58 (by decide) ?_
    refine X_istore (pc := 59) [(6, .int (1 : Int32)), (4, .long x1), (0, .ref (xP G 17)), (1, .int a0), (2, .int a1), (3, .int a2)] dX9_find_59 (by decide) rfl ?_
    exact X_lvs [2, 5, 0] rfl (x_Tr_find_L61 hT xF hf)
  · replace hf := (if_neg c2).symm.trans hf
    refine X_if_le_f (pc := 35) 41 dX9_find_35 (by decide) (fun h => c2 ((lg_cmp_le _ _).mp h)) ?_
    refine X_bipush (pc := 38) (-3 : Int32) dX9_find_38 (by decide) ?_
    cases hf
    exact X_ireturn (pc := 40) rfl dX9_find_40
theorem u_Tr_find {S : List xSh} {a0 : Int32} {a1 : Int32} {a2 : Int32} {I : Nat → Nat → Int32} {L : Nat → Nat → Int64} {q : (Int32 × (Nat → Nat → Int32) × (Nat → Nat → Int64))} (hf : f_Tr_find a0 a1 a2 I L = some q) : FR S [18, 19, 20, 21, 2704] [2707, 2708, 2709, 2710, 2711, 2712] I q.2.1 L q.2.2 := by
  replace hf := (f_Tr_find.eq_1 _ _ _ _ _).symm.trans hf
  obtain ⟨x1, ex1, hf⟩ := bnd_e hf
  by_cases c2 : x1 ≤ (200000 : Int64)
  · replace hf := (if_pos c2).symm.trans hf
    obtain ⟨x3, ex3, hf⟩ := bnd_e hf
    obtain ⟨x4, ex4, hf⟩ := bnd_e hf
    exact FR.tr (FR.fl (FR.fl (FR.fl FR.rf (by decide)) (by decide)) (by decide)) (u_Tr_find_L61 xF hf) (by decide) (by decide)
  · replace hf := (if_neg c2).symm.trans hf
    cases hf
    exact FR.rf

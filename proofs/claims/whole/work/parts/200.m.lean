theorem dJ7_fill_d0a16_0 : decode cJ7_fill_d0a16 0 = .ok (.iconst 0, 1) := by decide +kernel
theorem dJ7_fill_d0a16_1 : decode cJ7_fill_d0a16 1 = .ok (.istore_n 3, 1) := by decide +kernel
theorem dJ7_fill_d0a16_2 : decode cJ7_fill_d0a16 2 = .ok (.aload_n 0, 1) := by decide +kernel
theorem dJ7_fill_d0a16_3 : decode cJ7_fill_d0a16 3 = .ok (.arraylength, 1) := by decide +kernel
theorem dJ7_fill_d0a16_4 : decode cJ7_fill_d0a16 4 = .ok (.istore 4, 2) := by decide +kernel
theorem dJ7_fill_d0a16_6 : decode cJ7_fill_d0a16 6 = .ok (.iload_n 3, 1) := by decide +kernel
theorem dJ7_fill_d0a16_7 : decode cJ7_fill_d0a16 7 = .ok (.iload 4, 2) := by decide +kernel
theorem dJ7_fill_d0a16_9 : decode cJ7_fill_d0a16 9 = .ok (.if_icmp .ge 13, 3) := by decide +kernel
theorem dJ7_fill_d0a16_12 : decode cJ7_fill_d0a16 12 = .ok (.aload_n 0, 1) := by decide +kernel
theorem dJ7_fill_d0a16_13 : decode cJ7_fill_d0a16 13 = .ok (.iload_n 3, 1) := by decide +kernel
theorem dJ7_fill_d0a16_14 : decode cJ7_fill_d0a16 14 = .ok (.lload_n 1, 1) := by decide +kernel
theorem dJ7_fill_d0a16_15 : decode cJ7_fill_d0a16 15 = .ok (.lastore, 1) := by decide +kernel
theorem dJ7_fill_d0a16_16 : decode cJ7_fill_d0a16 16 = .ok (.iinc 3 1, 3) := by decide +kernel
theorem dJ7_fill_d0a16_19 : decode cJ7_fill_d0a16 19 = .ok (.goto (-13), 3) := by decide +kernel
theorem dJ7_fill_d0a16_22 : decode cJ7_fill_d0a16 22 = .ok (.return_, 1) := by decide +kernel
def f_Ar_fill_l_3_L6 : Nat → Int64 → Int32 → Int32 → (Nat → Nat → Int32) → (Nat → Nat → Int64) → Option ((Nat → Nat → Int32) × (Nat → Nat → Int64))
  | 0, _, _, _, _, _ => none
  | n + 1, l1, l3, l4, I, L => (if l4 ≤ l3 then (some (I, L)) else (if (0 ≤ l3 ∧ l3 < (24 : Int32)) then (f_Ar_fill_l_3_L6 n l1 (l3 + (1 : Int32)) l4 I (uL L 3 (l3.toNatClampNeg) l1)) else none))
set_option maxRecDepth 100000 in
set_option maxHeartbeats 4000000 in
theorem x_Ar_fill_l_3_L6 {G : xG} {S : List xSh} {Rf : Nat → Nat → Option Nat} (hT : xTH S Rf) : ∀ (n : Nat) {l1 : Int64} {l3 : Int32} {l4 : Int32} {I : Nat → Nat → Int32} {L : Nat → Nat → Int64} {q : ((Nat → Nat → Int32) × (Nat → Nat → Int64))}, f_Ar_fill_l_3_L6 n l1 l3 l4 I L = some q → X G 1 m_Ar_fill_l 6 [(0, .ref (xP G 3)), (1, .long l1), (3, .int l3), (4, .int l4)] [] (S, I, L, Rf) (none, (S, q.1, q.2, Rf)) := by
  intro n
  induction n with
  | zero =>
    intro l1 l3 l4 I L q hf
    exact absurd (show none = some q from hf) (by simp)
  | succ n ih =>
    intro l1 l3 l4 I L q hf
    replace hf := (f_Ar_fill_l_3_L6.eq_2 _ _ _ _ _ _).symm.trans hf
    refine X_iload_n (pc := 6) (i := 3) 2 dJ7_fill_d0a16_6 rfl rfl ?_
    refine X_iload (pc := 7) 3 dJ7_fill_d0a16_7 rfl ?_
    by_cases c1 : l4 ≤ l3
    · replace hf := (if_pos c1).symm.trans hf
      refine X_icmp_ge_t (pc := 9) 22 dJ7_fill_d0a16_9 (by decide) c1 ?_
      cases hf
      exact X_return (pc := 22) rfl dJ7_fill_d0a16_22
    · replace hf := (if_neg c1).symm.trans hf
      refine X_icmp_ge_f (pc := 9) 22 dJ7_fill_d0a16_9 (by decide) c1 ?_
      refine X_aload_n (pc := 12) (i := 0) 0 dJ7_fill_d0a16_12 rfl rfl ?_
      refine X_iload_n (pc := 13) (i := 3) 2 dJ7_fill_d0a16_13 rfl rfl ?_
      refine X_lload_n (pc := 14) (i := 1) 1 dJ7_fill_d0a16_14 rfl rfl ?_
      obtain ⟨c2, hf⟩ := gd_some hf
      refine X_lastj (pc := 15) (j := (l3.toNatClampNeg)) (sh_3 hT) (vp_in_lit (N := 24) c2 (by decide)) rfl dJ7_fill_d0a16_15 ?_
      refine X_iinc (pc := 16) (i := 3) (q := 2) (v := (l3 + (1 : Int32))) [(3, .int (l3 + (1 : Int32))), (0, .ref (xP G 3)), (1, .long l1), (4, .int l4)] dJ7_fill_d0a16_16 rfl rfl (by decide) rfl ?_
      refine X_goto (pc := 19) 6 dJ7_fill_d0a16_19 (by decide) ?_
      exact X_lvs [1, 2, 0, 3] rfl (ih hf)
theorem u_Ar_fill_l_3_L6 {S : List xSh} : ∀ (n : Nat) {l1 : Int64} {l3 : Int32} {l4 : Int32} {I : Nat → Nat → Int32} {L : Nat → Nat → Int64} {q : ((Nat → Nat → Int32) × (Nat → Nat → Int64))}, f_Ar_fill_l_3_L6 n l1 l3 l4 I L = some q → FR S [] [3] I q.1 L q.2 := by
  intro n
  induction n with
  | zero =>
    intro l1 l3 l4 I L q hf
    exact absurd (show none = some q from hf) (by simp)
  | succ n ih =>
    intro l1 l3 l4 I L q hf
    replace hf := (f_Ar_fill_l_3_L6.eq_2 _ _ _ _ _ _).symm.trans hf
    by_cases c1 : l4 ≤ l3
    · replace hf := (if_pos c1).symm.trans hf
      cases hf
      exact FR.rf
    · replace hf := (if_neg c1).symm.trans hf
      obtain ⟨c2, hf⟩ := gd_some hf
      exact FR.tr (FR.al FR.rf (by decide)) (ih hf) (by decide) (by decide)
def f_Ar_fill_l_3 (a1 : Int64) (I : Nat → Nat → Int32) (L : Nat → Nat → Int64) : Option ((Nat → Nat → Int32) × (Nat → Nat → Int64)) := (f_Ar_fill_l_3_L6 xF a1 (0 : Int32) (24 : Int32) I L)
set_option maxRecDepth 100000 in
set_option maxHeartbeats 4000000 in
theorem c_Ar_fill_l_3 {G : xG} {S : List xSh} {Rf : Nat → Nat → Option Nat} (hT : xTH S Rf) {a1 : Int64} {I : Nat → Nat → Int32} {L : Nat → Nat → Int64} {q : ((Nat → Nat → Int32) × (Nat → Nat → Int64))} (hf : f_Ar_fill_l_3 a1 I L = some q) : CT G 1 m_Ar_fill_l [.ref (xP G 3), .long a1] (S, I, L, Rf) (none, (S, q.1, q.2, Rf)) := by
  refine CT.of (by decide +kernel) (Nat.le_of_ble_eq_true rfl) ?_
  show X G 1 m_Ar_fill_l 0 [(0, .ref (xP G 3)), (1, .long a1)] [] (S, I, L, Rf) (none, (S, q.1, q.2, Rf))
  replace hf := (f_Ar_fill_l_3.eq_1 _ _ _).symm.trans hf
  refine X_iconst (pc := 0) (0 : Int32) dJ7_fill_d0a16_0 (by decide) ?_
  refine X_istore_n (pc := 1) (i := 3) [(3, .int (0 : Int32)), (0, .ref (xP G 3)), (1, .long a1)] dJ7_fill_d0a16_1 rfl (by decide) rfl ?_
  refine X_aload_n (pc := 2) (i := 0) 1 dJ7_fill_d0a16_2 rfl rfl ?_
  refine X_alen (pc := 3) (24 : Int32) (by decide) (sh_3 hT) (by decide) dJ7_fill_d0a16_3 ?_
  refine X_istore (pc := 4) [(4, .int (24 : Int32)), (3, .int (0 : Int32)), (0, .ref (xP G 3)), (1, .long a1)] dJ7_fill_d0a16_4 (by decide) rfl ?_
  exact X_lvs [2, 3, 1, 0] rfl (x_Ar_fill_l_3_L6 hT xF hf)
theorem u_Ar_fill_l_3 {S : List xSh} {a1 : Int64} {I : Nat → Nat → Int32} {L : Nat → Nat → Int64} {q : ((Nat → Nat → Int32) × (Nat → Nat → Int64))} (hf : f_Ar_fill_l_3 a1 I L = some q) : FR S [] [3] I q.1 L q.2 := by
  replace hf := (f_Ar_fill_l_3.eq_1 _ _ _).symm.trans hf
  exact FR.tr FR.rf (u_Ar_fill_l_3_L6 xF hf) (by decide) (by decide)
def f_Ar_fill_l_4_L6 : Nat → Int64 → Int32 → Int32 → (Nat → Nat → Int32) → (Nat → Nat → Int64) → Option ((Nat → Nat → Int32) × (Nat → Nat → Int64))
  | 0, _, _, _, _, _ => none
  | n + 1, l1, l3, l4, I, L => (if l4 ≤ l3 then (some (I, L)) else (if (0 ≤ l3 ∧ l3 < (24 : Int32)) then (f_Ar_fill_l_4_L6 n l1 (l3 + (1 : Int32)) l4 I (uL L 4 (l3.toNatClampNeg) l1)) else none))
set_option maxRecDepth 100000 in
set_option maxHeartbeats 4000000 in
theorem x_Ar_fill_l_4_L6 {G : xG} {S : List xSh} {Rf : Nat → Nat → Option Nat} (hT : xTH S Rf) : ∀ (n : Nat) {l1 : Int64} {l3 : Int32} {l4 : Int32} {I : Nat → Nat → Int32} {L : Nat → Nat → Int64} {q : ((Nat → Nat → Int32) × (Nat → Nat → Int64))}, f_Ar_fill_l_4_L6 n l1 l3 l4 I L = some q → X G 1 m_Ar_fill_l 6 [(0, .ref (xP G 4)), (1, .long l1), (3, .int l3), (4, .int l4)] [] (S, I, L, Rf) (none, (S, q.1, q.2, Rf)) := by
  intro n
  induction n with
  | zero =>
    intro l1 l3 l4 I L q hf
    exact absurd (show none = some q from hf) (by simp)
  | succ n ih =>
    intro l1 l3 l4 I L q hf
    replace hf := (f_Ar_fill_l_4_L6.eq_2 _ _ _ _ _ _).symm.trans hf
    refine X_iload_n (pc := 6) (i := 3) 2 dJ7_fill_d0a16_6 rfl rfl ?_
    refine X_iload (pc := 7) 3 dJ7_fill_d0a16_7 rfl ?_
    by_cases c1 : l4 ≤ l3
    · replace hf := (if_pos c1).symm.trans hf
      refine X_icmp_ge_t (pc := 9) 22 dJ7_fill_d0a16_9 (by decide) c1 ?_
      cases hf
      exact X_return (pc := 22) rfl dJ7_fill_d0a16_22
    · replace hf := (if_neg c1).symm.trans hf
      refine X_icmp_ge_f (pc := 9) 22 dJ7_fill_d0a16_9 (by decide) c1 ?_
      refine X_aload_n (pc := 12) (i := 0) 0 dJ7_fill_d0a16_12 rfl rfl ?_
      refine X_iload_n (pc := 13) (i := 3) 2 dJ7_fill_d0a16_13 rfl rfl ?_
      refine X_lload_n (pc := 14) (i := 1) 1 dJ7_fill_d0a16_14 rfl rfl ?_
      obtain ⟨c2, hf⟩ := gd_some hf
      refine X_lastj (pc := 15) (j := (l3.toNatClampNeg)) (sh_4 hT) (vp_in_lit (N := 24) c2 (by decide)) rfl dJ7_fill_d0a16_15 ?_
      refine X_iinc (pc := 16) (i := 3) (q := 2) (v := (l3 + (1 : Int32))) [(3, .int (l3 + (1 : Int32))), (0, .ref (xP G 4)), (1, .long l1), (4, .int l4)] dJ7_fill_d0a16_16 rfl rfl (by decide) rfl ?_
      refine X_goto (pc := 19) 6 dJ7_fill_d0a16_19 (by decide) ?_
      exact X_lvs [1, 2, 0, 3] rfl (ih hf)
theorem u_Ar_fill_l_4_L6 {S : List xSh} : ∀ (n : Nat) {l1 : Int64} {l3 : Int32} {l4 : Int32} {I : Nat → Nat → Int32} {L : Nat → Nat → Int64} {q : ((Nat → Nat → Int32) × (Nat → Nat → Int64))}, f_Ar_fill_l_4_L6 n l1 l3 l4 I L = some q → FR S [] [4] I q.1 L q.2 := by
  intro n
  induction n with
  | zero =>
    intro l1 l3 l4 I L q hf
    exact absurd (show none = some q from hf) (by simp)
  | succ n ih =>
    intro l1 l3 l4 I L q hf
    replace hf := (f_Ar_fill_l_4_L6.eq_2 _ _ _ _ _ _).symm.trans hf
    by_cases c1 : l4 ≤ l3
    · replace hf := (if_pos c1).symm.trans hf
      cases hf
      exact FR.rf
    · replace hf := (if_neg c1).symm.trans hf
      obtain ⟨c2, hf⟩ := gd_some hf
      exact FR.tr (FR.al FR.rf (by decide)) (ih hf) (by decide) (by decide)
def f_Ar_fill_l_4 (a1 : Int64) (I : Nat → Nat → Int32) (L : Nat → Nat → Int64) : Option ((Nat → Nat → Int32) × (Nat → Nat → Int64)) := (f_Ar_fill_l_4_L6 xF a1 (0 : Int32) (24 : Int32) I L)
set_option maxRecDepth 100000 in
set_option maxHeartbeats 4000000 in
theorem c_Ar_fill_l_4 {G : xG} {S : List xSh} {Rf : Nat → Nat → Option Nat} (hT : xTH S Rf) {a1 : Int64} {I : Nat → Nat → Int32} {L : Nat → Nat → Int64} {q : ((Nat → Nat → Int32) × (Nat → Nat → Int64))} (hf : f_Ar_fill_l_4 a1 I L = some q) : CT G 1 m_Ar_fill_l [.ref (xP G 4), .long a1] (S, I, L, Rf) (none, (S, q.1, q.2, Rf)) := by
  refine CT.of (by decide +kernel) (Nat.le_of_ble_eq_true rfl) ?_
  show X G 1 m_Ar_fill_l 0 [(0, .ref (xP G 4)), (1, .long a1)] [] (S, I, L, Rf) (none, (S, q.1, q.2, Rf))
  replace hf := (f_Ar_fill_l_4.eq_1 _ _ _).symm.trans hf
  refine X_iconst (pc := 0) (0 : Int32) dJ7_fill_d0a16_0 (by decide) ?_
  refine X_istore_n (pc := 1) (i := 3) [(3, .int (0 : Int32)), (0, .ref (xP G 4)), (1, .long a1)] dJ7_fill_d0a16_1 rfl (by decide) rfl ?_
  refine X_aload_n (pc := 2) (i := 0) 1 dJ7_fill_d0a16_2 rfl rfl ?_
  refine X_alen (pc := 3) (24 : Int32) (by decide) (sh_4 hT) (by decide) dJ7_fill_d0a16_3 ?_
  refine X_istore (pc := 4) [(4, .int (24 : Int32)), (3, .int (0 : Int32)), (0, .ref (xP G 4)), (1, .long a1)] dJ7_fill_d0a16_4 (by decide) rfl ?_
  exact X_lvs [2, 3, 1, 0] rfl (x_Ar_fill_l_4_L6 hT xF hf)
theorem u_Ar_fill_l_4 {S : List xSh} {a1 : Int64} {I : Nat → Nat → Int32} {L : Nat → Nat → Int64} {q : ((Nat → Nat → Int32) × (Nat → Nat → Int64))} (hf : f_Ar_fill_l_4 a1 I L = some q) : FR S [] [4] I q.1 L q.2 := by
  replace hf := (f_Ar_fill_l_4.eq_1 _ _ _).symm.trans hf
  exact FR.tr FR.rf (u_Ar_fill_l_4_L6 xF hf) (by decide) (by decide)
def f_Ar_fill_l_5_L6 : Nat → Int64 → Int32 → Int32 → (Nat → Nat → Int32) → (Nat → Nat → Int64) → Option ((Nat → Nat → Int32) × (Nat → Nat → Int64))
  | 0, _, _, _, _, _ => none
  | n + 1, l1, l3, l4, I, L => (if l4 ≤ l3 then (some (I, L)) else (if (0 ≤ l3 ∧ l3 < (24 : Int32)) then (f_Ar_fill_l_5_L6 n l1 (l3 + (1 : Int32)) l4 I (uL L 5 (l3.toNatClampNeg) l1)) else none))
set_option maxRecDepth 100000 in
set_option maxHeartbeats 4000000 in
theorem x_Ar_fill_l_5_L6 {G : xG} {S : List xSh} {Rf : Nat → Nat → Option Nat} (hT : xTH S Rf) : ∀ (n : Nat) {l1 : Int64} {l3 : Int32} {l4 : Int32} {I : Nat → Nat → Int32} {L : Nat → Nat → Int64} {q : ((Nat → Nat → Int32) × (Nat → Nat → Int64))}, f_Ar_fill_l_5_L6 n l1 l3 l4 I L = some q → X G 1 m_Ar_fill_l 6 [(0, .ref (xP G 5)), (1, .long l1), (3, .int l3), (4, .int l4)] [] (S, I, L, Rf) (none, (S, q.1, q.2, Rf)) := by
  intro n
  induction n with
  | zero =>
    intro l1 l3 l4 I L q hf
    exact absurd (show none = some q from hf) (by simp)
  | succ n ih =>
    intro l1 l3 l4 I L q hf
    replace hf := (f_Ar_fill_l_5_L6.eq_2 _ _ _ _ _ _).symm.trans hf
    refine X_iload_n (pc := 6) (i := 3) 2 dJ7_fill_d0a16_6 rfl rfl ?_
    refine X_iload (pc := 7) 3 dJ7_fill_d0a16_7 rfl ?_
    by_cases c1 : l4 ≤ l3
    · replace hf := (if_pos c1).symm.trans hf
      refine X_icmp_ge_t (pc := 9) 22 dJ7_fill_d0a16_9 (by decide) c1 ?_
      cases hf
      exact X_return (pc := 22) rfl dJ7_fill_d0a16_22
    · replace hf := (if_neg c1).symm.trans hf
      refine X_icmp_ge_f (pc := 9) 22 dJ7_fill_d0a16_9 (by decide) c1 ?_
      refine X_aload_n (pc := 12) (i := 0) 0 dJ7_fill_d0a16_12 rfl rfl ?_
      refine X_iload_n (pc := 13) (i := 3) 2 dJ7_fill_d0a16_13 rfl rfl ?_
      refine X_lload_n (pc := 14) (i := 1) 1 dJ7_fill_d0a16_14 rfl rfl ?_
      obtain ⟨c2, hf⟩ := gd_some hf
      refine X_lastj (pc := 15) (j := (l3.toNatClampNeg)) (sh_5 hT) (vp_in_lit (N := 24) c2 (by decide)) rfl dJ7_fill_d0a16_15 ?_
      refine X_iinc (pc := 16) (i := 3) (q := 2) (v := (l3 + (1 : Int32))) [(3, .int (l3 + (1 : Int32))), (0, .ref (xP G 5)), (1, .long l1), (4, .int l4)] dJ7_fill_d0a16_16 rfl rfl (by decide) rfl ?_
      refine X_goto (pc := 19) 6 dJ7_fill_d0a16_19 (by decide) ?_
      exact X_lvs [1, 2, 0, 3] rfl (ih hf)
theorem u_Ar_fill_l_5_L6 {S : List xSh} : ∀ (n : Nat) {l1 : Int64} {l3 : Int32} {l4 : Int32} {I : Nat → Nat → Int32} {L : Nat → Nat → Int64} {q : ((Nat → Nat → Int32) × (Nat → Nat → Int64))}, f_Ar_fill_l_5_L6 n l1 l3 l4 I L = some q → FR S [] [5] I q.1 L q.2 := by
  intro n
  induction n with
  | zero =>
    intro l1 l3 l4 I L q hf
    exact absurd (show none = some q from hf) (by simp)
  | succ n ih =>
    intro l1 l3 l4 I L q hf
    replace hf := (f_Ar_fill_l_5_L6.eq_2 _ _ _ _ _ _).symm.trans hf
    by_cases c1 : l4 ≤ l3
    · replace hf := (if_pos c1).symm.trans hf
      cases hf
      exact FR.rf
    · replace hf := (if_neg c1).symm.trans hf
      obtain ⟨c2, hf⟩ := gd_some hf
      exact FR.tr (FR.al FR.rf (by decide)) (ih hf) (by decide) (by decide)
def f_Ar_fill_l_5 (a1 : Int64) (I : Nat → Nat → Int32) (L : Nat → Nat → Int64) : Option ((Nat → Nat → Int32) × (Nat → Nat → Int64)) := (f_Ar_fill_l_5_L6 xF a1 (0 : Int32) (24 : Int32) I L)
set_option maxRecDepth 100000 in
set_option maxHeartbeats 4000000 in
theorem c_Ar_fill_l_5 {G : xG} {S : List xSh} {Rf : Nat → Nat → Option Nat} (hT : xTH S Rf) {a1 : Int64} {I : Nat → Nat → Int32} {L : Nat → Nat → Int64} {q : ((Nat → Nat → Int32) × (Nat → Nat → Int64))} (hf : f_Ar_fill_l_5 a1 I L = some q) : CT G 1 m_Ar_fill_l [.ref (xP G 5), .long a1] (S, I, L, Rf) (none, (S, q.1, q.2, Rf)) := by
  refine CT.of (by decide +kernel) (Nat.le_of_ble_eq_true rfl) ?_
  show X G 1 m_Ar_fill_l 0 [(0, .ref (xP G 5)), (1, .long a1)] [] (S, I, L, Rf) (none, (S, q.1, q.2, Rf))
  replace hf := (f_Ar_fill_l_5.eq_1 _ _ _).symm.trans hf
  refine X_iconst (pc := 0) (0 : Int32) dJ7_fill_d0a16_0 (by decide) ?_
  refine X_istore_n (pc := 1) (i := 3) [(3, .int (0 : Int32)), (0, .ref (xP G 5)), (1, .long a1)] dJ7_fill_d0a16_1 rfl (by decide) rfl ?_
  refine X_aload_n (pc := 2) (i := 0) 1 dJ7_fill_d0a16_2 rfl rfl ?_
  refine X_alen (pc := 3) (24 : Int32) (by decide) (sh_5 hT) (by decide) dJ7_fill_d0a16_3 ?_
  refine X_istore (pc := 4) [(4, .int (24 : Int32)), (3, .int (0 : Int32)), (0, .ref (xP G 5)), (1, .long a1)] dJ7_fill_d0a16_4 (by decide) rfl ?_
  exact X_lvs [2, 3, 1, 0] rfl (x_Ar_fill_l_5_L6 hT xF hf)
theorem u_Ar_fill_l_5 {S : List xSh} {a1 : Int64} {I : Nat → Nat → Int32} {L : Nat → Nat → Int64} {q : ((Nat → Nat → Int32) × (Nat → Nat → Int64))} (hf : f_Ar_fill_l_5 a1 I L = some q) : FR S [] [5] I q.1 L q.2 := by
  replace hf := (f_Ar_fill_l_5.eq_1 _ _ _).symm.trans hf
  exact FR.tr FR.rf (u_Ar_fill_l_5_L6 xF hf) (by decide) (by decide)
theorem dX6_forgetSpeeds_0 : decode cX6_forgetSpeeds 0 = .ok (.aload_n 0, 1) := by decide +kernel
theorem dX6_forgetSpeeds_1 : decode cX6_forgetSpeeds 1 = .ok (.getfield 11, 3) := by decide +kernel
theorem dX6_forgetSpeeds_4 : decode cX6_forgetSpeeds 4 = .ok (.lconst 0, 1) := by decide +kernel
theorem dX6_forgetSpeeds_5 : decode cX6_forgetSpeeds 5 = .ok (.invokestatic 72, 3) := by decide +kernel
theorem dX6_forgetSpeeds_8 : decode cX6_forgetSpeeds 8 = .ok (.aload_n 0, 1) := by decide +kernel
theorem dX6_forgetSpeeds_9 : decode cX6_forgetSpeeds 9 = .ok (.getfield 15, 3) := by decide +kernel
theorem dX6_forgetSpeeds_12 : decode cX6_forgetSpeeds 12 = .ok (.lconst 0, 1) := by decide +kernel
theorem dX6_forgetSpeeds_13 : decode cX6_forgetSpeeds 13 = .ok (.invokestatic 72, 3) := by decide +kernel
theorem dX6_forgetSpeeds_16 : decode cX6_forgetSpeeds 16 = .ok (.aload_n 0, 1) := by decide +kernel
theorem dX6_forgetSpeeds_17 : decode cX6_forgetSpeeds 17 = .ok (.getfield 18, 3) := by decide +kernel
theorem dX6_forgetSpeeds_20 : decode cX6_forgetSpeeds 20 = .ok (.lconst 0, 1) := by decide +kernel
theorem dX6_forgetSpeeds_21 : decode cX6_forgetSpeeds 21 = .ok (.invokestatic 72, 3) := by decide +kernel
theorem dX6_forgetSpeeds_24 : decode cX6_forgetSpeeds 24 = .ok (.return_, 1) := by decide +kernel
def f_Ge_forgetSpeeds (I : Nat → Nat → Int32) (L : Nat → Nat → Int64) : Option ((Nat → Nat → Int32) × (Nat → Nat → Int64)) := ((f_Ar_fill_l_3 (0 : Int64) I L).bind fun q1 => ((f_Ar_fill_l_4 (0 : Int64) q1.1 q1.2).bind fun q3 => ((f_Ar_fill_l_5 (0 : Int64) q3.1 q3.2).bind fun q5 => (some (q5.1, q5.2)))))
set_option maxRecDepth 100000 in
set_option maxHeartbeats 4000000 in
theorem c_Ge_forgetSpeeds {G : xG} {S : List xSh} {Rf : Nat → Nat → Option Nat} (hT : xTH S Rf) {I : Nat → Nat → Int32} {L : Nat → Nat → Int64} {q : ((Nat → Nat → Int32) × (Nat → Nat → Int64))} (hf : f_Ge_forgetSpeeds I L = some q) : CT G 2 m_Ge_forgetSpeeds [.ref (xP G 2)] (S, I, L, Rf) (none, (S, q.1, q.2, Rf)) := by
  refine CT.of (by decide +kernel) (Nat.le_of_ble_eq_true rfl) ?_
  show X G 2 m_Ge_forgetSpeeds 0 [(0, .ref (xP G 2))] [] (S, I, L, Rf) (none, (S, q.1, q.2, Rf))
  replace hf := (f_Ge_forgetSpeeds.eq_1 _ _).symm.trans hf
  refine X_aload_n (pc := 0) (i := 0) 0 dX6_forgetSpeeds_0 rfl rfl ?_
  refine X_getr (pc := 1) (a := 2) (ci := 6) (j := 5) (c := 3) (sh_2 hT) (by decide) k_116 (rf_2_5 hT) (fun _ h => h) dX6_forgetSpeeds_1 ?_
  refine X_lconst (pc := 4) (0 : Int64) dX6_forgetSpeeds_4 (by decide) ?_
  obtain ⟨q1, c2, hf⟩ := bd_some hf
  refine X_invS_v (pc := 5) (c_Ar_fill_l_3 hT c2) ok_Ar_fill_l k_475 k_476 nd_0 (by decide) rfl (Nat.le_of_ble_eq_true rfl) dX6_forgetSpeeds_5 ?_
  refine X_aload_n (pc := 8) (i := 0) 0 dX6_forgetSpeeds_8 rfl rfl ?_
  refine X_getr (pc := 9) (a := 2) (ci := 6) (j := 6) (c := 4) (sh_2 hT) (by decide) k_118 (rf_2_6 hT) (fun _ h => h) dX6_forgetSpeeds_9 ?_
  refine X_lconst (pc := 12) (0 : Int64) dX6_forgetSpeeds_12 (by decide) ?_
  obtain ⟨q3, c4, hf⟩ := bd_some hf
  refine X_invS_v (pc := 13) (c_Ar_fill_l_4 hT c4) ok_Ar_fill_l k_475 k_476 nd_0 (by decide) rfl (Nat.le_of_ble_eq_true rfl) dX6_forgetSpeeds_13 ?_
  refine X_aload_n (pc := 16) (i := 0) 0 dX6_forgetSpeeds_16 rfl rfl ?_
  refine X_getr (pc := 17) (a := 2) (ci := 6) (j := 7) (c := 5) (sh_2 hT) (by decide) k_120 (rf_2_7 hT) (fun _ h => h) dX6_forgetSpeeds_17 ?_
  refine X_lconst (pc := 20) (0 : Int64) dX6_forgetSpeeds_20 (by decide) ?_
  obtain ⟨q5, c6, hf⟩ := bd_some hf
  refine X_invS_v (pc := 21) (c_Ar_fill_l_5 hT c6) ok_Ar_fill_l k_475 k_476 nd_0 (by decide) rfl (Nat.le_of_ble_eq_true rfl) dX6_forgetSpeeds_21 ?_
  cases hf
  exact X_return (pc := 24) rfl dX6_forgetSpeeds_24
theorem u_Ge_forgetSpeeds {S : List xSh} {I : Nat → Nat → Int32} {L : Nat → Nat → Int64} {q : ((Nat → Nat → Int32) × (Nat → Nat → Int64))} (hf : f_Ge_forgetSpeeds I L = some q) : FR S [] [3, 4, 5] I q.1 L q.2 := by
  replace hf := (f_Ge_forgetSpeeds.eq_1 _ _).symm.trans hf
  obtain ⟨q1, c2, hf⟩ := bd_some hf
  obtain ⟨q3, c4, hf⟩ := bd_some hf
  obtain ⟨q5, c6, hf⟩ := bd_some hf
  cases hf
  exact (FR.tr (FR.tr (FR.tr FR.rf (u_Ar_fill_l_3 (q := q1) c2) (by decide) (by decide)) (u_Ar_fill_l_4 (q := q3) c4) (by decide) (by decide)) (u_Ar_fill_l_5 (q := q5) c6) (by decide) (by decide))
theorem dX6_clear_0 : decode cX6_clear 0 = .ok (.aload_n 0, 1) := by decide +kernel
theorem dX6_clear_1 : decode cX6_clear 1 = .ok (.iconst 0, 1) := by decide +kernel
theorem dX6_clear_2 : decode cX6_clear 2 = .ok (.putfield 28, 3) := by decide +kernel
theorem dX6_clear_5 : decode cX6_clear 5 = .ok (.aload_n 0, 1) := by decide +kernel
theorem dX6_clear_6 : decode cX6_clear 6 = .ok (.iconst 0, 1) := by decide +kernel
theorem dX6_clear_7 : decode cX6_clear 7 = .ok (.putfield 32, 3) := by decide +kernel
theorem dX6_clear_10 : decode cX6_clear 10 = .ok (.aload_n 0, 1) := by decide +kernel
theorem dX6_clear_11 : decode cX6_clear 11 = .ok (.iconst (-1), 1) := by decide +kernel
theorem dX6_clear_12 : decode cX6_clear 12 = .ok (.putfield 35, 3) := by decide +kernel
theorem dX6_clear_15 : decode cX6_clear 15 = .ok (.aload_n 0, 1) := by decide +kernel
theorem dX6_clear_16 : decode cX6_clear 16 = .ok (.iconst 0, 1) := by decide +kernel
theorem dX6_clear_17 : decode cX6_clear 17 = .ok (.putfield 38, 3) := by decide +kernel
theorem dX6_clear_20 : decode cX6_clear 20 = .ok (.aload_n 0, 1) := by decide +kernel
theorem dX6_clear_21 : decode cX6_clear 21 = .ok (.iconst 0, 1) := by decide +kernel
theorem dX6_clear_22 : decode cX6_clear 22 = .ok (.putfield 41, 3) := by decide +kernel
theorem dX6_clear_25 : decode cX6_clear 25 = .ok (.aload_n 0, 1) := by decide +kernel
theorem dX6_clear_26 : decode cX6_clear 26 = .ok (.invokevirtual 45, 3) := by decide +kernel
theorem dX6_clear_29 : decode cX6_clear 29 = .ok (.return_, 1) := by decide +kernel
def f_Ge_clear (I : Nat → Nat → Int32) (L : Nat → Nat → Int64) : Option ((Nat → Nat → Int32) × (Nat → Nat → Int64)) := ((f_Ge_forgetSpeeds (uI (uI (uI (uI (uI I 2 0 (0 : Int32)) 2 1 (0 : Int32)) 2 2 (-1 : Int32)) 2 3 (0 : Int32)) 2 4 (0 : Int32)) L).bind fun q1 => (some (q1.1, q1.2)))
set_option maxRecDepth 100000 in
set_option maxHeartbeats 4000000 in
theorem c_Ge_clear {G : xG} {S : List xSh} {Rf : Nat → Nat → Option Nat} (hT : xTH S Rf) {I : Nat → Nat → Int32} {L : Nat → Nat → Int64} {q : ((Nat → Nat → Int32) × (Nat → Nat → Int64))} (hf : f_Ge_clear I L = some q) : CT G 3 m_Ge_clear [.ref (xP G 2)] (S, I, L, Rf) (none, (S, q.1, q.2, Rf)) := by
  refine CT.of (by decide +kernel) (Nat.le_of_ble_eq_true rfl) ?_
  show X G 3 m_Ge_clear 0 [(0, .ref (xP G 2))] [] (S, I, L, Rf) (none, (S, q.1, q.2, Rf))
  replace hf := (f_Ge_clear.eq_1 _ _).symm.trans hf
  refine X_aload_n (pc := 0) (i := 0) 0 dX6_clear_0 rfl rfl ?_
  refine X_iconst (pc := 1) (0 : Int32) dX6_clear_1 (by decide) ?_
  refine X_puti (pc := 2) (a := 2) (ci := 6) (j := 0) 0 rfl false (sh_2 hT) (by decide) k_107 rfl (fun h => by cases h) rfl dX6_clear_2 ?_
  refine X_aload_n (pc := 5) (i := 0) 0 dX6_clear_5 rfl rfl ?_
  refine X_iconst (pc := 6) (0 : Int32) dX6_clear_6 (by decide) ?_
  refine X_puti (pc := 7) (a := 2) (ci := 6) (j := 1) 1 rfl false (sh_2 hT) (by decide) k_109 rfl (fun h => by cases h) rfl dX6_clear_7 ?_
  refine X_aload_n (pc := 10) (i := 0) 0 dX6_clear_10 rfl rfl ?_
  refine X_iconst (pc := 11) (-1 : Int32) dX6_clear_11 (by decide) ?_
  refine X_puti (pc := 12) (a := 2) (ci := 6) (j := 2) 2 rfl false (sh_2 hT) (by decide) k_111 rfl (fun h => by cases h) rfl dX6_clear_12 ?_
  refine X_aload_n (pc := 15) (i := 0) 0 dX6_clear_15 rfl rfl ?_
  refine X_iconst (pc := 16) (0 : Int32) dX6_clear_16 (by decide) ?_
  refine X_puti (pc := 17) (a := 2) (ci := 6) (j := 3) 3 rfl false (sh_2 hT) (by decide) k_113 rfl (fun h => by cases h) rfl dX6_clear_17 ?_
  refine X_aload_n (pc := 20) (i := 0) 0 dX6_clear_20 rfl rfl ?_
  refine X_iconst (pc := 21) (0 : Int32) dX6_clear_21 (by decide) ?_
  refine X_putz (pc := 22) (a := 2) (ci := 6) (j := 4) 4 rfl false (sh_2 hT) (by decide) k_114 rfl (fun h => by cases h) rfl (by decide) dX6_clear_22 ?_
  refine X_aload_n (pc := 25) (i := 0) 0 dX6_clear_25 rfl rfl ?_
  obtain ⟨q1, c2, hf⟩ := bd_some hf
  refine X_invV_v (pc := 26) (c_Ge_forgetSpeeds hT c2) ok_Ge_forgetSpeeds (ci := 6) (sh_2 hT) k_471 k_473 k_1 nd_1 (by decide) rfl (Nat.le_of_ble_eq_true rfl) dX6_clear_26 ?_
  cases hf
  exact X_return (pc := 29) rfl dX6_clear_29
theorem u_Ge_clear {S : List xSh} {I : Nat → Nat → Int32} {L : Nat → Nat → Int64} {q : ((Nat → Nat → Int32) × (Nat → Nat → Int64))} (hf : f_Ge_clear I L = some q) : FR S [1200, 1201, 1202, 1203, 1204] [3, 4, 5] I q.1 L q.2 := by
  replace hf := (f_Ge_clear.eq_1 _ _).symm.trans hf
  obtain ⟨q1, c2, hf⟩ := bd_some hf
  cases hf
  exact (FR.tr (FR.fi (FR.fi (FR.fi (FR.fi (FR.fi FR.rf (by decide)) (by decide)) (by decide)) (by decide)) (by decide)) (u_Ge_forgetSpeeds (q := q1) c2) (by decide) (by decide))
theorem dX5_setBalance_0 : decode cX5_setBalance 0 = .ok (.aload_n 0, 1) := by decide +kernel
theorem dX5_setBalance_1 : decode cX5_setBalance 1 = .ok (.iload_n 1, 1) := by decide +kernel
theorem dX5_setBalance_2 : decode cX5_setBalance 2 = .ok (.putfield 47, 3) := by decide +kernel
theorem dX5_setBalance_5 : decode cX5_setBalance 5 = .ok (.aload_n 0, 1) := by decide +kernel
theorem dX5_setBalance_6 : decode cX5_setBalance 6 = .ok (.iload_n 2, 1) := by decide +kernel
theorem dX5_setBalance_7 : decode cX5_setBalance 7 = .ok (.putfield 50, 3) := by decide +kernel
theorem dX5_setBalance_10 : decode cX5_setBalance 10 = .ok (.aload_n 0, 1) := by decide +kernel
theorem dX5_setBalance_11 : decode cX5_setBalance 11 = .ok (.iload_n 3, 1) := by decide +kernel
theorem dX5_setBalance_12 : decode cX5_setBalance 12 = .ok (.putfield 53, 3) := by decide +kernel
theorem dX5_setBalance_15 : decode cX5_setBalance 15 = .ok (.aload_n 0, 1) := by decide +kernel
theorem dX5_setBalance_16 : decode cX5_setBalance 16 = .ok (.iload 4, 2) := by decide +kernel
theorem dX5_setBalance_18 : decode cX5_setBalance 18 = .ok (.putfield 56, 3) := by decide +kernel
theorem dX5_setBalance_21 : decode cX5_setBalance 21 = .ok (.return_, 1) := by decide +kernel
def f_Es_setBalance (a0 : Int32) (a1 : Int32) (a2 : Int32) (a3 : Int32) (I : Nat → Nat → Int32) (L : Nat → Nat → Int64) : Option ((Nat → Nat → Int32) × (Nat → Nat → Int64)) := (some ((uI (uI (uI (uI I 1 1 a0) 1 2 a1) 1 3 a2) 1 4 a3), L))
set_option maxRecDepth 100000 in
set_option maxHeartbeats 4000000 in
theorem c_Es_setBalance {G : xG} {S : List xSh} {Rf : Nat → Nat → Option Nat} (hT : xTH S Rf) {a0 : Int32} {a1 : Int32} {a2 : Int32} {a3 : Int32} {I : Nat → Nat → Int32} {L : Nat → Nat → Int64} {q : ((Nat → Nat → Int32) × (Nat → Nat → Int64))} (hf : f_Es_setBalance a0 a1 a2 a3 I L = some q) : CT G 1 m_Es_setBalance [.ref (xP G 1), .int a0, .int a1, .int a2, .int a3] (S, I, L, Rf) (none, (S, q.1, q.2, Rf)) := by
  refine CT.of (by decide +kernel) (Nat.le_of_ble_eq_true rfl) ?_
  show X G 1 m_Es_setBalance 0 [(0, .ref (xP G 1)), (1, .int a0), (2, .int a1), (3, .int a2), (4, .int a3)] [] (S, I, L, Rf) (none, (S, q.1, q.2, Rf))
  replace hf := (f_Es_setBalance.eq_1 _ _ _ _ _ _).symm.trans hf
  refine X_aload_n (pc := 0) (i := 0) 0 dX5_setBalance_0 rfl rfl ?_
  refine X_iload_n (pc := 1) (i := 1) 1 dX5_setBalance_1 rfl rfl ?_
  refine X_puti (pc := 2) (a := 1) (ci := 5) (j := 1) 1 rfl false (sh_1 hT) (by decide) k_175 rfl (fun h => by cases h) rfl dX5_setBalance_2 ?_
  refine X_aload_n (pc := 5) (i := 0) 0 dX5_setBalance_5 rfl rfl ?_
  refine X_iload_n (pc := 6) (i := 2) 2 dX5_setBalance_6 rfl rfl ?_
  refine X_puti (pc := 7) (a := 1) (ci := 5) (j := 2) 2 rfl false (sh_1 hT) (by decide) k_176 rfl (fun h => by cases h) rfl dX5_setBalance_7 ?_
  refine X_aload_n (pc := 10) (i := 0) 0 dX5_setBalance_10 rfl rfl ?_
  refine X_iload_n (pc := 11) (i := 3) 3 dX5_setBalance_11 rfl rfl ?_
  refine X_puti (pc := 12) (a := 1) (ci := 5) (j := 3) 3 rfl false (sh_1 hT) (by decide) k_177 rfl (fun h => by cases h) rfl dX5_setBalance_12 ?_
  refine X_aload_n (pc := 15) (i := 0) 0 dX5_setBalance_15 rfl rfl ?_
  refine X_iload (pc := 16) 4 dX5_setBalance_16 rfl ?_
  refine X_puti (pc := 18) (a := 1) (ci := 5) (j := 4) 4 rfl false (sh_1 hT) (by decide) k_178 rfl (fun h => by cases h) rfl dX5_setBalance_18 ?_
  cases hf
  exact X_return (pc := 21) rfl dX5_setBalance_21
theorem u_Es_setBalance {S : List xSh} {a0 : Int32} {a1 : Int32} {a2 : Int32} {a3 : Int32} {I : Nat → Nat → Int32} {L : Nat → Nat → Int64} {q : ((Nat → Nat → Int32) × (Nat → Nat → Int64))} (hf : f_Es_setBalance a0 a1 a2 a3 I L = some q) : FR S [1101, 1102, 1103, 1104] [] I q.1 L q.2 := by
  replace hf := (f_Es_setBalance.eq_1 _ _ _ _ _ _).symm.trans hf
  cases hf
  exact (FR.fi (FR.fi (FR.fi (FR.fi FR.rf (by decide)) (by decide)) (by decide)) (by decide))
theorem dJ7_fill_53178_0 : decode cJ7_fill_53178 0 = .ok (.iconst 0, 1) := by decide +kernel
theorem dJ7_fill_53178_1 : decode cJ7_fill_53178 1 = .ok (.istore_n 2, 1) := by decide +kernel
theorem dJ7_fill_53178_2 : decode cJ7_fill_53178 2 = .ok (.aload_n 0, 1) := by decide +kernel
theorem dJ7_fill_53178_3 : decode cJ7_fill_53178 3 = .ok (.arraylength, 1) := by decide +kernel
theorem dJ7_fill_53178_4 : decode cJ7_fill_53178 4 = .ok (.istore_n 3, 1) := by decide +kernel
theorem dJ7_fill_53178_5 : decode cJ7_fill_53178 5 = .ok (.iload_n 2, 1) := by decide +kernel
theorem dJ7_fill_53178_6 : decode cJ7_fill_53178 6 = .ok (.iload_n 3, 1) := by decide +kernel
theorem dJ7_fill_53178_7 : decode cJ7_fill_53178 7 = .ok (.if_icmp .ge 13, 3) := by decide +kernel
theorem dJ7_fill_53178_10 : decode cJ7_fill_53178 10 = .ok (.aload_n 0, 1) := by decide +kernel
theorem dJ7_fill_53178_11 : decode cJ7_fill_53178 11 = .ok (.iload_n 2, 1) := by decide +kernel
theorem dJ7_fill_53178_12 : decode cJ7_fill_53178 12 = .ok (.iload_n 1, 1) := by decide +kernel
theorem dJ7_fill_53178_13 : decode cJ7_fill_53178 13 = .ok (.iastore, 1) := by decide +kernel
theorem dJ7_fill_53178_14 : decode cJ7_fill_53178 14 = .ok (.iinc 2 1, 3) := by decide +kernel
theorem dJ7_fill_53178_17 : decode cJ7_fill_53178 17 = .ok (.goto (-12), 3) := by decide +kernel
theorem dJ7_fill_53178_20 : decode cJ7_fill_53178 20 = .ok (.return_, 1) := by decide +kernel
def f_Ar_fill_i_8_L5 : Nat → Int32 → Int32 → Int32 → (Nat → Nat → Int32) → (Nat → Nat → Int64) → Option ((Nat → Nat → Int32) × (Nat → Nat → Int64))
  | 0, _, _, _, _, _ => none
  | n + 1, l1, l2, l3, I, L => (if l3 ≤ l2 then (some (I, L)) else (if (0 ≤ l2 ∧ l2 < (9 : Int32)) then (f_Ar_fill_i_8_L5 n l1 (l2 + (1 : Int32)) l3 (uI I 8 (l2.toNatClampNeg) l1) L) else none))
set_option maxRecDepth 100000 in
set_option maxHeartbeats 4000000 in
theorem x_Ar_fill_i_8_L5 {G : xG} {S : List xSh} {Rf : Nat → Nat → Option Nat} (hT : xTH S Rf) : ∀ (n : Nat) {l1 : Int32} {l2 : Int32} {l3 : Int32} {I : Nat → Nat → Int32} {L : Nat → Nat → Int64} {q : ((Nat → Nat → Int32) × (Nat → Nat → Int64))}, f_Ar_fill_i_8_L5 n l1 l2 l3 I L = some q → X G 1 m_Ar_fill_i 5 [(0, .ref (xP G 8)), (1, .int l1), (2, .int l2), (3, .int l3)] [] (S, I, L, Rf) (none, (S, q.1, q.2, Rf)) := by
  intro n
  induction n with
  | zero =>
    intro l1 l2 l3 I L q hf
    exact absurd (show none = some q from hf) (by simp)
  | succ n ih =>
    intro l1 l2 l3 I L q hf
    replace hf := (f_Ar_fill_i_8_L5.eq_2 _ _ _ _ _ _).symm.trans hf
    refine X_iload_n (pc := 5) (i := 2) 2 dJ7_fill_53178_5 rfl rfl ?_
    refine X_iload_n (pc := 6) (i := 3) 3 dJ7_fill_53178_6 rfl rfl ?_
    by_cases c1 : l3 ≤ l2
    · replace hf := (if_pos c1).symm.trans hf
      refine X_icmp_ge_t (pc := 7) 20 dJ7_fill_53178_7 (by decide) c1 ?_
      cases hf
      exact X_return (pc := 20) rfl dJ7_fill_53178_20
    · replace hf := (if_neg c1).symm.trans hf
      refine X_icmp_ge_f (pc := 7) 20 dJ7_fill_53178_7 (by decide) c1 ?_
      refine X_aload_n (pc := 10) (i := 0) 0 dJ7_fill_53178_10 rfl rfl ?_
      refine X_iload_n (pc := 11) (i := 2) 2 dJ7_fill_53178_11 rfl rfl ?_
      refine X_iload_n (pc := 12) (i := 1) 1 dJ7_fill_53178_12 rfl rfl ?_
      obtain ⟨c2, hf⟩ := gd_some hf
      refine X_iastj (pc := 13) (j := (l2.toNatClampNeg)) (sh_8 hT) (vp_in_lit (N := 9) c2 (by decide)) rfl dJ7_fill_53178_13 ?_
      refine X_iinc (pc := 14) (i := 2) (q := 2) (v := (l2 + (1 : Int32))) [(2, .int (l2 + (1 : Int32))), (0, .ref (xP G 8)), (1, .int l1), (3, .int l3)] dJ7_fill_53178_14 rfl rfl (by decide) rfl ?_
      refine X_goto (pc := 17) 5 dJ7_fill_53178_17 (by decide) ?_
      exact X_lvs [1, 2, 0, 3] rfl (ih hf)
theorem u_Ar_fill_i_8_L5 {S : List xSh} : ∀ (n : Nat) {l1 : Int32} {l2 : Int32} {l3 : Int32} {I : Nat → Nat → Int32} {L : Nat → Nat → Int64} {q : ((Nat → Nat → Int32) × (Nat → Nat → Int64))}, f_Ar_fill_i_8_L5 n l1 l2 l3 I L = some q → FR S [8] [] I q.1 L q.2 := by
  intro n
  induction n with
  | zero =>
    intro l1 l2 l3 I L q hf
    exact absurd (show none = some q from hf) (by simp)
  | succ n ih =>
    intro l1 l2 l3 I L q hf
    replace hf := (f_Ar_fill_i_8_L5.eq_2 _ _ _ _ _ _).symm.trans hf
    by_cases c1 : l3 ≤ l2
    · replace hf := (if_pos c1).symm.trans hf
      cases hf
      exact FR.rf
    · replace hf := (if_neg c1).symm.trans hf
      obtain ⟨c2, hf⟩ := gd_some hf
      exact FR.tr (FR.ai FR.rf (by decide)) (ih hf) (by decide) (by decide)
def f_Ar_fill_i_8 (a1 : Int32) (I : Nat → Nat → Int32) (L : Nat → Nat → Int64) : Option ((Nat → Nat → Int32) × (Nat → Nat → Int64)) := (f_Ar_fill_i_8_L5 xF a1 (0 : Int32) (9 : Int32) I L)
set_option maxRecDepth 100000 in
set_option maxHeartbeats 4000000 in
theorem c_Ar_fill_i_8 {G : xG} {S : List xSh} {Rf : Nat → Nat → Option Nat} (hT : xTH S Rf) {a1 : Int32} {I : Nat → Nat → Int32} {L : Nat → Nat → Int64} {q : ((Nat → Nat → Int32) × (Nat → Nat → Int64))} (hf : f_Ar_fill_i_8 a1 I L = some q) : CT G 1 m_Ar_fill_i [.ref (xP G 8), .int a1] (S, I, L, Rf) (none, (S, q.1, q.2, Rf)) := by
  refine CT.of (by decide +kernel) (Nat.le_of_ble_eq_true rfl) ?_
  show X G 1 m_Ar_fill_i 0 [(0, .ref (xP G 8)), (1, .int a1)] [] (S, I, L, Rf) (none, (S, q.1, q.2, Rf))
  replace hf := (f_Ar_fill_i_8.eq_1 _ _ _).symm.trans hf
  refine X_iconst (pc := 0) (0 : Int32) dJ7_fill_53178_0 (by decide) ?_
  refine X_istore_n (pc := 1) (i := 2) [(2, .int (0 : Int32)), (0, .ref (xP G 8)), (1, .int a1)] dJ7_fill_53178_1 rfl (by decide) rfl ?_
  refine X_aload_n (pc := 2) (i := 0) 1 dJ7_fill_53178_2 rfl rfl ?_
  refine X_alen (pc := 3) (9 : Int32) (by decide) (sh_8 hT) (by decide) dJ7_fill_53178_3 ?_
  refine X_istore_n (pc := 4) (i := 3) [(3, .int (9 : Int32)), (2, .int (0 : Int32)), (0, .ref (xP G 8)), (1, .int a1)] dJ7_fill_53178_4 rfl (by decide) rfl ?_
  exact X_lvs [2, 3, 1, 0] rfl (x_Ar_fill_i_8_L5 hT xF hf)
theorem u_Ar_fill_i_8 {S : List xSh} {a1 : Int32} {I : Nat → Nat → Int32} {L : Nat → Nat → Int64} {q : ((Nat → Nat → Int32) × (Nat → Nat → Int64))} (hf : f_Ar_fill_i_8 a1 I L = some q) : FR S [8] [] I q.1 L q.2 := by
  replace hf := (f_Ar_fill_i_8.eq_1 _ _ _).symm.trans hf
  exact FR.tr FR.rf (u_Ar_fill_i_8_L5 xF hf) (by decide) (by decide)
theorem dX5_restart_0 : decode cX5_restart 0 = .ok (.aload_n 0, 1) := by decide +kernel
theorem dX5_restart_1 : decode cX5_restart 1 = .ok (.lconst 0, 1) := by decide +kernel
theorem dX5_restart_2 : decode cX5_restart 2 = .ok (.putfield 59, 3) := by decide +kernel
theorem dX5_restart_5 : decode cX5_restart 5 = .ok (.aload_n 0, 1) := by decide +kernel
theorem dX5_restart_6 : decode cX5_restart 6 = .ok (.iconst 0, 1) := by decide +kernel
theorem dX5_restart_7 : decode cX5_restart 7 = .ok (.putfield 63, 3) := by decide +kernel
theorem dX5_restart_10 : decode cX5_restart 10 = .ok (.aload_n 0, 1) := by decide +kernel
theorem dX5_restart_11 : decode cX5_restart 11 = .ok (.iconst 0, 1) := by decide +kernel
theorem dX5_restart_12 : decode cX5_restart 12 = .ok (.putfield 66, 3) := by decide +kernel
theorem dX5_restart_15 : decode cX5_restart 15 = .ok (.aload_n 0, 1) := by decide +kernel
theorem dX5_restart_16 : decode cX5_restart 16 = .ok (.iconst (-1), 1) := by decide +kernel
theorem dX5_restart_17 : decode cX5_restart 17 = .ok (.putfield 69, 3) := by decide +kernel
theorem dX5_restart_20 : decode cX5_restart 20 = .ok (.aload_n 0, 1) := by decide +kernel
theorem dX5_restart_21 : decode cX5_restart 21 = .ok (.iconst 0, 1) := by decide +kernel
theorem dX5_restart_22 : decode cX5_restart 22 = .ok (.putfield 72, 3) := by decide +kernel
theorem dX5_restart_25 : decode cX5_restart 25 = .ok (.aload_n 0, 1) := by decide +kernel
theorem dX5_restart_26 : decode cX5_restart 26 = .ok (.iconst 0, 1) := by decide +kernel
theorem dX5_restart_27 : decode cX5_restart 27 = .ok (.putfield 75, 3) := by decide +kernel
theorem dX5_restart_30 : decode cX5_restart 30 = .ok (.aload_n 0, 1) := by decide +kernel
theorem dX5_restart_31 : decode cX5_restart 31 = .ok (.iconst 0, 1) := by decide +kernel
theorem dX5_restart_32 : decode cX5_restart 32 = .ok (.putfield 78, 3) := by decide +kernel
theorem dX5_restart_35 : decode cX5_restart 35 = .ok (.aload_n 0, 1) := by decide +kernel
theorem dX5_restart_36 : decode cX5_restart 36 = .ok (.iconst 0, 1) := by decide +kernel
theorem dX5_restart_37 : decode cX5_restart 37 = .ok (.putfield 81, 3) := by decide +kernel
theorem dX5_restart_40 : decode cX5_restart 40 = .ok (.aload_n 0, 1) := by decide +kernel
theorem dX5_restart_41 : decode cX5_restart 41 = .ok (.getfield 25, 3) := by decide +kernel
theorem dX5_restart_44 : decode cX5_restart 44 = .ok (.iconst 0, 1) := by decide +kernel
theorem dX5_restart_45 : decode cX5_restart 45 = .ok (.putfield 84, 3) := by decide +kernel
theorem dX5_restart_48 : decode cX5_restart 48 = .ok (.return_, 1) := by decide +kernel
def f_Es_restart (I : Nat → Nat → Int32) (L : Nat → Nat → Int64) : Option ((Nat → Nat → Int32) × (Nat → Nat → Int64)) := (some ((uI (uI (uI (uI (uI (uI (uI (uI I 1 8 (0 : Int32)) 1 9 (0 : Int32)) 1 10 (-1 : Int32)) 1 11 (0 : Int32)) 1 12 (0 : Int32)) 1 13 (0 : Int32)) 1 14 (0 : Int32)) 9 3 (0 : Int32)), (uL L 1 7 (0 : Int64))))
set_option maxRecDepth 100000 in
set_option maxHeartbeats 4000000 in
theorem c_Es_restart {G : xG} {S : List xSh} {Rf : Nat → Nat → Option Nat} (hT : xTH S Rf) {I : Nat → Nat → Int32} {L : Nat → Nat → Int64} {q : ((Nat → Nat → Int32) × (Nat → Nat → Int64))} (hf : f_Es_restart I L = some q) : CT G 1 m_Es_restart [.ref (xP G 1)] (S, I, L, Rf) (none, (S, q.1, q.2, Rf)) := by
  refine CT.of (by decide +kernel) (Nat.le_of_ble_eq_true rfl) ?_
  show X G 1 m_Es_restart 0 [(0, .ref (xP G 1))] [] (S, I, L, Rf) (none, (S, q.1, q.2, Rf))
  replace hf := (f_Es_restart.eq_1 _ _).symm.trans hf
  refine X_aload_n (pc := 0) (i := 0) 0 dX5_restart_0 rfl rfl ?_
  refine X_lconst (pc := 1) (0 : Int64) dX5_restart_1 (by decide) ?_
  refine X_putl (pc := 2) (a := 1) (ci := 5) (j := 7) 7 rfl false (sh_1 hT) (by decide) k_183 rfl (fun h => by cases h) rfl dX5_restart_2 ?_
  refine X_aload_n (pc := 5) (i := 0) 0 dX5_restart_5 rfl rfl ?_
  refine X_iconst (pc := 6) (0 : Int32) dX5_restart_6 (by decide) ?_
  refine X_puti (pc := 7) (a := 1) (ci := 5) (j := 8) 8 rfl false (sh_1 hT) (by decide) k_184 rfl (fun h => by cases h) rfl dX5_restart_7 ?_
  refine X_aload_n (pc := 10) (i := 0) 0 dX5_restart_10 rfl rfl ?_
  refine X_iconst (pc := 11) (0 : Int32) dX5_restart_11 (by decide) ?_
  refine X_puti (pc := 12) (a := 1) (ci := 5) (j := 9) 9 rfl false (sh_1 hT) (by decide) k_186 rfl (fun h => by cases h) rfl dX5_restart_12 ?_
  refine X_aload_n (pc := 15) (i := 0) 0 dX5_restart_15 rfl rfl ?_
  refine X_iconst (pc := 16) (-1 : Int32) dX5_restart_16 (by decide) ?_
  refine X_puti (pc := 17) (a := 1) (ci := 5) (j := 10) 10 rfl false (sh_1 hT) (by decide) k_188 rfl (fun h => by cases h) rfl dX5_restart_17 ?_
  refine X_aload_n (pc := 20) (i := 0) 0 dX5_restart_20 rfl rfl ?_
  refine X_iconst (pc := 21) (0 : Int32) dX5_restart_21 (by decide) ?_
  refine X_puti (pc := 22) (a := 1) (ci := 5) (j := 11) 11 rfl false (sh_1 hT) (by decide) k_190 rfl (fun h => by cases h) rfl dX5_restart_22 ?_
  refine X_aload_n (pc := 25) (i := 0) 0 dX5_restart_25 rfl rfl ?_
  refine X_iconst (pc := 26) (0 : Int32) dX5_restart_26 (by decide) ?_
  refine X_puti (pc := 27) (a := 1) (ci := 5) (j := 12) 12 rfl false (sh_1 hT) (by decide) k_192 rfl (fun h => by cases h) rfl dX5_restart_27 ?_
  refine X_aload_n (pc := 30) (i := 0) 0 dX5_restart_30 rfl rfl ?_
  refine X_iconst (pc := 31) (0 : Int32) dX5_restart_31 (by decide) ?_
  refine X_puti (pc := 32) (a := 1) (ci := 5) (j := 13) 13 rfl false (sh_1 hT) (by decide) k_194 rfl (fun h => by cases h) rfl dX5_restart_32 ?_
  refine X_aload_n (pc := 35) (i := 0) 0 dX5_restart_35 rfl rfl ?_
  refine X_iconst (pc := 36) (0 : Int32) dX5_restart_36 (by decide) ?_
  refine X_puti (pc := 37) (a := 1) (ci := 5) (j := 14) 14 rfl false (sh_1 hT) (by decide) k_196 rfl (fun h => by cases h) rfl dX5_restart_37 ?_
  refine X_aload_n (pc := 40) (i := 0) 0 dX5_restart_40 rfl rfl ?_
  refine X_getr (pc := 41) (a := 1) (ci := 5) (j := 15) (c := 9) (sh_1 hT) (by decide) k_198 (rf_1_15 hT) (fun _ h => h) dX5_restart_41 ?_
  refine X_iconst (pc := 44) (0 : Int32) dX5_restart_44 (by decide) ?_
  refine X_puti (pc := 45) (a := 9) (ci := 7) (j := 3) 3 rfl false (sh_9 hT) (by decide) k_163 rfl (fun h => by cases h) rfl dX5_restart_45 ?_
  cases hf
  exact X_return (pc := 48) rfl dX5_restart_48
theorem u_Es_restart {S : List xSh} {I : Nat → Nat → Int32} {L : Nat → Nat → Int64} {q : ((Nat → Nat → Int32) × (Nat → Nat → Int64))} (hf : f_Es_restart I L = some q) : FR S [1108, 1109, 1110, 1111, 1112, 1113, 1114, 1903] [1107] I q.1 L q.2 := by
  replace hf := (f_Es_restart.eq_1 _ _).symm.trans hf
  cases hf
  exact (FR.fi (FR.fi (FR.fi (FR.fi (FR.fi (FR.fi (FR.fi (FR.fi (FR.fl FR.rf (by decide)) (by decide)) (by decide)) (by decide)) (by decide)) (by decide)) (by decide)) (by decide)) (by decide))
theorem dX5_clear_0 : decode cX5_clear 0 = .ok (.aload_n 0, 1) := by decide +kernel
theorem dX5_clear_1 : decode cX5_clear 1 = .ok (.iconst 1, 1) := by decide +kernel
theorem dX5_clear_2 : decode cX5_clear 2 = .ok (.iconst 0, 1) := by decide +kernel
theorem dX5_clear_3 : decode cX5_clear 3 = .ok (.iconst 0, 1) := by decide +kernel
theorem dX5_clear_4 : decode cX5_clear 4 = .ok (.ldc 29, 2) := by decide +kernel
theorem dX5_clear_6 : decode cX5_clear 6 = .ok (.invokevirtual 30, 3) := by decide +kernel
theorem dX5_clear_9 : decode cX5_clear 9 = .ok (.aload_n 0, 1) := by decide +kernel
theorem dX5_clear_10 : decode cX5_clear 10 = .ok (.iconst (-1), 1) := by decide +kernel
theorem dX5_clear_11 : decode cX5_clear 11 = .ok (.putfield 34, 3) := by decide +kernel
theorem dX5_clear_14 : decode cX5_clear 14 = .ok (.aload_n 0, 1) := by decide +kernel
theorem dX5_clear_15 : decode cX5_clear 15 = .ok (.getfield 16, 3) := by decide +kernel
theorem dX5_clear_18 : decode cX5_clear 18 = .ok (.iconst 0, 1) := by decide +kernel
theorem dX5_clear_19 : decode cX5_clear 19 = .ok (.invokestatic 38, 3) := by decide +kernel
theorem dX5_clear_22 : decode cX5_clear 22 = .ok (.aload_n 0, 1) := by decide +kernel
theorem dX5_clear_23 : decode cX5_clear 23 = .ok (.invokevirtual 44, 3) := by decide +kernel
theorem dX5_clear_26 : decode cX5_clear 26 = .ok (.return_, 1) := by decide +kernel
def f_Es_clear (I : Nat → Nat → Int32) (L : Nat → Nat → Int64) : Option ((Nat → Nat → Int32) × (Nat → Nat → Int64)) := ((f_Es_setBalance (1 : Int32) (0 : Int32) (0 : Int32) (10000000 : Int32) I L).bind fun q1 => ((f_Ar_fill_i_8 (0 : Int32) (uI q1.1 1 5 (-1 : Int32)) q1.2).bind fun q3 => ((f_Es_restart q3.1 q3.2).bind fun q5 => (some (q5.1, q5.2)))))
set_option maxRecDepth 100000 in
set_option maxHeartbeats 4000000 in
theorem c_Es_clear {G : xG} {S : List xSh} {Rf : Nat → Nat → Option Nat} (hT : xTH S Rf) {I : Nat → Nat → Int32} {L : Nat → Nat → Int64} {q : ((Nat → Nat → Int32) × (Nat → Nat → Int64))} (hf : f_Es_clear I L = some q) : CT G 2 m_Es_clear [.ref (xP G 1)] (S, I, L, Rf) (none, (S, q.1, q.2, Rf)) := by
  refine CT.of (by decide +kernel) (Nat.le_of_ble_eq_true rfl) ?_
  show X G 2 m_Es_clear 0 [(0, .ref (xP G 1))] [] (S, I, L, Rf) (none, (S, q.1, q.2, Rf))
  replace hf := (f_Es_clear.eq_1 _ _).symm.trans hf
  refine X_aload_n (pc := 0) (i := 0) 0 dX5_clear_0 rfl rfl ?_
  refine X_iconst (pc := 1) (1 : Int32) dX5_clear_1 (by decide) ?_
  refine X_iconst (pc := 2) (0 : Int32) dX5_clear_2 (by decide) ?_
  refine X_iconst (pc := 3) (0 : Int32) dX5_clear_3 (by decide) ?_
  refine X_ldc (pc := 4) (10000000 : Int32) k_482 dX5_clear_4 ?_
  obtain ⟨q1, c2, hf⟩ := bd_some hf
  refine X_invV_v (pc := 6) (c_Es_setBalance hT c2) ok_Es_setBalance (ci := 5) (sh_1 hT) k_483 k_484 k_485 nd_2 (by decide) rfl (Nat.le_of_ble_eq_true rfl) dX5_clear_6 ?_
  refine X_aload_n (pc := 9) (i := 0) 0 dX5_clear_9 rfl rfl ?_
  refine X_iconst (pc := 10) (-1 : Int32) dX5_clear_10 (by decide) ?_
  refine X_puti (pc := 11) (a := 1) (ci := 5) (j := 5) 5 rfl false (sh_1 hT) (by decide) k_179 rfl (fun h => by cases h) rfl dX5_clear_11 ?_
  refine X_aload_n (pc := 14) (i := 0) 0 dX5_clear_14 rfl rfl ?_
  refine X_getr (pc := 15) (a := 1) (ci := 5) (j := 6) (c := 8) (sh_1 hT) (by decide) k_181 (rf_1_6 hT) (fun _ h => h) dX5_clear_15 ?_
  refine X_iconst (pc := 18) (0 : Int32) dX5_clear_18 (by decide) ?_
  obtain ⟨q3, c4, hf⟩ := bd_some hf
  refine X_invS_v (pc := 19) (c_Ar_fill_i_8 hT c4) ok_Ar_fill_i k_487 k_488 nd_3 (by decide) rfl (Nat.le_of_ble_eq_true rfl) dX5_clear_19 ?_
  refine X_aload_n (pc := 22) (i := 0) 0 dX5_clear_22 rfl rfl ?_
  obtain ⟨q5, c6, hf⟩ := bd_some hf
  refine X_invV_v (pc := 23) (c_Es_restart hT c6) ok_Es_restart (ci := 5) (sh_1 hT) k_490 k_491 k_492 nd_1 (by decide) rfl (Nat.le_of_ble_eq_true rfl) dX5_clear_23 ?_
  cases hf
  exact X_return (pc := 26) rfl dX5_clear_26
theorem u_Es_clear {S : List xSh} {I : Nat → Nat → Int32} {L : Nat → Nat → Int64} {q : ((Nat → Nat → Int32) × (Nat → Nat → Int64))} (hf : f_Es_clear I L = some q) : FR S [8, 1101, 1102, 1103, 1104, 1105, 1108, 1109, 1110, 1111, 1112, 1113, 1114, 1903] [1107] I q.1 L q.2 := by
  replace hf := (f_Es_clear.eq_1 _ _).symm.trans hf
  obtain ⟨q1, c2, hf⟩ := bd_some hf
  obtain ⟨q3, c4, hf⟩ := bd_some hf
  obtain ⟨q5, c6, hf⟩ := bd_some hf
  cases hf
  exact (FR.tr (FR.tr (FR.fi (FR.tr FR.rf (u_Es_setBalance (q := q1) c2) (by decide) (by decide)) (by decide)) (u_Ar_fill_i_8 (q := q3) c4) (by decide) (by decide)) (u_Es_restart (q := q5) c6) (by decide) (by decide))
theorem dX11_clearMovement_0 : decode cX11_clearMovement 0 = .ok (.aload_n 0, 1) := by decide +kernel
theorem dX11_clearMovement_1 : decode cX11_clearMovement 1 = .ok (.getfield 20, 3) := by decide +kernel
theorem dX11_clearMovement_4 : decode cX11_clearMovement 4 = .ok (.invokevirtual 373, 3) := by decide +kernel
theorem dX11_clearMovement_7 : decode cX11_clearMovement 7 = .ok (.aload_n 0, 1) := by decide +kernel
theorem dX11_clearMovement_8 : decode cX11_clearMovement 8 = .ok (.getfield 10, 3) := by decide +kernel
theorem dX11_clearMovement_11 : decode cX11_clearMovement 11 = .ok (.invokevirtual 376, 3) := by decide +kernel
theorem dX11_clearMovement_14 : decode cX11_clearMovement 14 = .ok (.aload_n 0, 1) := by decide +kernel
theorem dX11_clearMovement_15 : decode cX11_clearMovement 15 = .ok (.iconst 0, 1) := by decide +kernel
theorem dX11_clearMovement_16 : decode cX11_clearMovement 16 = .ok (.putfield 137, 3) := by decide +kernel
theorem dX11_clearMovement_19 : decode cX11_clearMovement 19 = .ok (.aload_n 0, 1) := by decide +kernel
theorem dX11_clearMovement_20 : decode cX11_clearMovement 20 = .ok (.iconst 0, 1) := by decide +kernel
theorem dX11_clearMovement_21 : decode cX11_clearMovement 21 = .ok (.putfield 154, 3) := by decide +kernel
theorem dX11_clearMovement_24 : decode cX11_clearMovement 24 = .ok (.aload_n 0, 1) := by decide +kernel
theorem dX11_clearMovement_25 : decode cX11_clearMovement 25 = .ok (.getfield 56, 3) := by decide +kernel
theorem dX11_clearMovement_28 : decode cX11_clearMovement 28 = .ok (.iconst 0, 1) := by decide +kernel
theorem dX11_clearMovement_29 : decode cX11_clearMovement 29 = .ok (.putfield 95, 3) := by decide +kernel
theorem dX11_clearMovement_32 : decode cX11_clearMovement 32 = .ok (.aload_n 0, 1) := by decide +kernel
theorem dX11_clearMovement_33 : decode cX11_clearMovement 33 = .ok (.getfield 60, 3) := by decide +kernel
theorem dX11_clearMovement_36 : decode cX11_clearMovement 36 = .ok (.iconst 0, 1) := by decide +kernel
theorem dX11_clearMovement_37 : decode cX11_clearMovement 37 = .ok (.putfield 95, 3) := by decide +kernel
theorem dX11_clearMovement_40 : decode cX11_clearMovement 40 = .ok (.aload_n 0, 1) := by decide +kernel
theorem dX11_clearMovement_41 : decode cX11_clearMovement 41 = .ok (.iconst 0, 1) := by decide +kernel
theorem dX11_clearMovement_42 : decode cX11_clearMovement 42 = .ok (.putfield 99, 3) := by decide +kernel
theorem dX11_clearMovement_45 : decode cX11_clearMovement 45 = .ok (.return_, 1) := by decide +kernel
def f_H_clearMovement (I : Nat → Nat → Int32) (L : Nat → Nat → Int64) : Option ((Nat → Nat → Int32) × (Nat → Nat → Int64)) := ((f_Ge_clear I L).bind fun q1 => ((f_Es_clear q1.1 q1.2).bind fun q3 => (some ((uI (uI (uI (uI (uI q3.1 0 6 (0 : Int32)) 0 7 (0 : Int32)) 13 3 (0 : Int32)) 15 3 (0 : Int32)) 0 8 (0 : Int32)), q3.2))))
set_option maxRecDepth 100000 in
set_option maxHeartbeats 4000000 in
theorem c_H_clearMovement {G : xG} {S : List xSh} {Rf : Nat → Nat → Option Nat} (hT : xTH S Rf) {I : Nat → Nat → Int32} {L : Nat → Nat → Int64} {q : ((Nat → Nat → Int32) × (Nat → Nat → Int64))} (hf : f_H_clearMovement I L = some q) : CT G 4 m_H_clearMovement [.ref (xP G 0)] (S, I, L, Rf) (none, (S, q.1, q.2, Rf)) := by
  refine CT.of (by decide +kernel) (Nat.le_of_ble_eq_true rfl) ?_
  show X G 4 m_H_clearMovement 0 [(0, .ref (xP G 0))] [] (S, I, L, Rf) (none, (S, q.1, q.2, Rf))
  replace hf := (f_H_clearMovement.eq_1 _ _).symm.trans hf
  refine X_aload_n (pc := 0) (i := 0) 0 dX11_clearMovement_0 rfl rfl ?_
  refine X_getr (pc := 1) (a := 0) (ci := 10) (j := 1) (c := 2) (sh_0 hT) (by decide) k_495 (rf_0_1 hT) (fun _ h => h) dX11_clearMovement_1 ?_
  obtain ⟨q1, c2, hf⟩ := bd_some hf
  refine X_invV_v (pc := 4) (c_Ge_clear hT c2) ok_Ge_clear (ci := 6) (sh_2 hT) k_467 k_468 k_469 nd_1 (by decide) rfl (Nat.le_of_ble_eq_true rfl) dX11_clearMovement_4 ?_
  refine X_aload_n (pc := 7) (i := 0) 0 dX11_clearMovement_7 rfl rfl ?_
  refine X_getr (pc := 8) (a := 0) (ci := 10) (j := 0) (c := 1) (sh_0 hT) (by decide) k_494 (rf_0_0 hT) (fun _ h => h) dX11_clearMovement_8 ?_
  obtain ⟨q3, c4, hf⟩ := bd_some hf
  refine X_invV_v (pc := 11) (c_Es_clear hT c4) ok_Es_clear (ci := 5) (sh_1 hT) k_478 k_479 k_480 nd_1 (by decide) rfl (Nat.le_of_ble_eq_true rfl) dX11_clearMovement_11 ?_
  refine X_aload_n (pc := 14) (i := 0) 0 dX11_clearMovement_14 rfl rfl ?_
  refine X_iconst (pc := 15) (0 : Int32) dX11_clearMovement_15 (by decide) ?_
  refine X_puti (pc := 16) (a := 0) (ci := 10) (j := 9) 6 rfl false (sh_0 hT) (by decide) k_503 rfl (fun h => by cases h) rfl dX11_clearMovement_16 ?_
  refine X_aload_n (pc := 19) (i := 0) 0 dX11_clearMovement_19 rfl rfl ?_
  refine X_iconst (pc := 20) (0 : Int32) dX11_clearMovement_20 (by decide) ?_
  refine X_puti (pc := 21) (a := 0) (ci := 10) (j := 10) 7 rfl false (sh_0 hT) (by decide) k_504 rfl (fun h => by cases h) rfl dX11_clearMovement_21 ?_
  refine X_aload_n (pc := 24) (i := 0) 0 dX11_clearMovement_24 rfl rfl ?_
  refine X_getr (pc := 25) (a := 0) (ci := 10) (j := 7) (c := 13) (sh_0 hT) (by decide) k_501 (rf_0_4 hT) (fun _ h => h) dX11_clearMovement_25 ?_
  refine X_iconst (pc := 28) (0 : Int32) dX11_clearMovement_28 (by decide) ?_
  refine X_puti (pc := 29) (a := 13) (ci := 7) (j := 3) 3 rfl false (sh_13 hT) (by decide) k_162 rfl (fun h => by cases h) rfl dX11_clearMovement_29 ?_
  refine X_aload_n (pc := 32) (i := 0) 0 dX11_clearMovement_32 rfl rfl ?_
  refine X_getr (pc := 33) (a := 0) (ci := 10) (j := 8) (c := 15) (sh_0 hT) (by decide) k_502 (rf_0_5 hT) (fun _ h => h) dX11_clearMovement_33 ?_
  refine X_iconst (pc := 36) (0 : Int32) dX11_clearMovement_36 (by decide) ?_
  refine X_puti (pc := 37) (a := 15) (ci := 7) (j := 3) 3 rfl false (sh_15 hT) (by decide) k_162 rfl (fun h => by cases h) rfl dX11_clearMovement_37 ?_
  refine X_aload_n (pc := 40) (i := 0) 0 dX11_clearMovement_40 rfl rfl ?_
  refine X_iconst (pc := 41) (0 : Int32) dX11_clearMovement_41 (by decide) ?_
  refine X_putz (pc := 42) (a := 0) (ci := 10) (j := 11) 8 rfl false (sh_0 hT) (by decide) k_505 rfl (fun h => by cases h) rfl (by decide) dX11_clearMovement_42 ?_
  cases hf
  exact X_return (pc := 45) rfl dX11_clearMovement_45
theorem u_H_clearMovement {S : List xSh} {I : Nat → Nat → Int32} {L : Nat → Nat → Int64} {q : ((Nat → Nat → Int32) × (Nat → Nat → Int64))} (hf : f_H_clearMovement I L = some q) : FR S [8, 1006, 1007, 1008, 1101, 1102, 1103, 1104, 1105, 1108, 1109, 1110, 1111, 1112, 1113, 1114, 1200, 1201, 1202, 1203, 1204, 1903, 2303, 2503] [3, 4, 5, 1107] I q.1 L q.2 := by
  replace hf := (f_H_clearMovement.eq_1 _ _).symm.trans hf
  obtain ⟨q1, c2, hf⟩ := bd_some hf
  obtain ⟨q3, c4, hf⟩ := bd_some hf
  cases hf
  exact (FR.fi (FR.fi (FR.fi (FR.fi (FR.fi (FR.tr (FR.tr FR.rf (u_Ge_clear (q := q1) c2) (by decide) (by decide)) (u_Es_clear (q := q3) c4) (by decide) (by decide)) (by decide)) (by decide)) (by decide)) (by decide)) (by decide))
theorem dX11_build_0 : decode cX11_build 0 = .ok (.aload_n 0, 1) := by decide +kernel
theorem dX11_build_1 : decode cX11_build 1 = .ok (.getfield 60, 3) := by decide +kernel
theorem dX11_build_4 : decode cX11_build 4 = .ok (.getfield 95, 3) := by decide +kernel
theorem dX11_build_7 : decode cX11_build 7 = .ok (.istore_n 1, 1) := by decide +kernel
theorem dX11_build_8 : decode cX11_build 8 = .ok (.aload_n 0, 1) := by decide +kernel
theorem dX11_build_9 : decode cX11_build 9 = .ok (.invokevirtual 92, 3) := by decide +kernel
theorem dX11_build_12 : decode cX11_build 12 = .ok (.iload_n 1, 1) := by decide +kernel
theorem dX11_build_13 : decode cX11_build 13 = .ok (.ireturn, 1) := by decide +kernel
def f_H_build (I : Nat → Nat → Int32) (L : Nat → Nat → Int64) : Option (Int32 × (Nat → Nat → Int32) × (Nat → Nat → Int64)) := (bnd (I 15 3) fun x1 => ((f_H_clearMovement I L).bind fun q2 => (some (x1, q2.1, q2.2))))
set_option maxRecDepth 100000 in
set_option maxHeartbeats 4000000 in
theorem c_H_build {G : xG} {S : List xSh} {Rf : Nat → Nat → Option Nat} (hT : xTH S Rf) {I : Nat → Nat → Int32} {L : Nat → Nat → Int64} {q : (Int32 × (Nat → Nat → Int32) × (Nat → Nat → Int64))} (hf : f_H_build I L = some q) : CT G 5 m_H_build [.ref (xP G 0)] (S, I, L, Rf) (some (.int q.1), (S, q.2.1, q.2.2, Rf)) := by
  refine CT.of (by decide +kernel) (Nat.le_of_ble_eq_true rfl) ?_
  show X G 5 m_H_build 0 [(0, .ref (xP G 0))] [] (S, I, L, Rf) (some (.int q.1), (S, q.2.1, q.2.2, Rf))
  replace hf := (f_H_build.eq_1 _ _).symm.trans hf
  refine X_aload_n (pc := 0) (i := 0) 0 dX11_build_0 rfl rfl ?_
  refine X_getr (pc := 1) (a := 0) (ci := 10) (j := 8) (c := 15) (sh_0 hT) (by decide) k_502 (rf_0_5 hT) (fun _ h => h) dX11_build_1 ?_
  refine X_get (pc := 4) (a := 15) (ci := 7) (j := 3) (.int (I 15 3)) (sh_15 hT) (by decide) k_162 rfl dX11_build_4 ?_
  obtain ⟨x1, ex1, hf⟩ := bnd_e hf
  refine X_tope ex1 ?_
  refine X_istore_n (pc := 7) (i := 1) [(1, .int x1), (0, .ref (xP G 0))] dX11_build_7 rfl (by decide) rfl ?_
  refine X_aload_n (pc := 8) (i := 0) 1 dX11_build_8 rfl rfl ?_
  obtain ⟨q2, c3, hf⟩ := bd_some hf
  refine X_invV_v (pc := 9) (c_H_clearMovement hT c3) ok_H_clearMovement (ci := 10) (sh_0 hT) k_463 k_465 k_0 nd_1 (by decide) rfl (Nat.le_of_ble_eq_true rfl) dX11_build_9 ?_
  refine X_iload_n (pc := 12) (i := 1) 0 dX11_build_12 rfl rfl ?_
  cases hf
  exact X_ireturn (pc := 13) rfl dX11_build_13
theorem u_H_build {S : List xSh} {I : Nat → Nat → Int32} {L : Nat → Nat → Int64} {q : (Int32 × (Nat → Nat → Int32) × (Nat → Nat → Int64))} (hf : f_H_build I L = some q) : FR S [8, 1006, 1007, 1008, 1101, 1102, 1103, 1104, 1105, 1108, 1109, 1110, 1111, 1112, 1113, 1114, 1200, 1201, 1202, 1203, 1204, 1903, 2303, 2503] [3, 4, 5, 1107] I q.2.1 L q.2.2 := by
  replace hf := (f_H_build.eq_1 _ _).symm.trans hf
  obtain ⟨x1, ex1, hf⟩ := bnd_e hf
  obtain ⟨q2, c3, hf⟩ := bd_some hf
  cases hf
  exact (FR.tr FR.rf (u_H_clearMovement (q := q2) c3) (by decide) (by decide))
theorem dX6_addArbor_0 : decode cX6_addArbor 0 = .ok (.aload_n 0, 1) := by decide +kernel
theorem dX6_addArbor_1 : decode cX6_addArbor 1 = .ok (.getfield 28, 3) := by decide +kernel
theorem dX6_addArbor_4 : decode cX6_addArbor 4 = .ok (.bipush 24, 2) := by decide +kernel
theorem dX6_addArbor_6 : decode cX6_addArbor 6 = .ok (.if_icmp .ge 17, 3) := by decide +kernel
theorem dX6_addArbor_9 : decode cX6_addArbor 9 = .ok (.aload_n 0, 1) := by decide +kernel
theorem dX6_addArbor_10 : decode cX6_addArbor 10 = .ok (.dup, 1) := by decide +kernel
theorem dX6_addArbor_11 : decode cX6_addArbor 11 = .ok (.getfield 28, 3) := by decide +kernel
theorem dX6_addArbor_14 : decode cX6_addArbor 14 = .ok (.dup_x1, 1) := by decide +kernel
theorem dX6_addArbor_15 : decode cX6_addArbor 15 = .ok (.iconst 1, 1) := by decide +kernel
theorem dX6_addArbor_16 : decode cX6_addArbor 16 = .ok (.iadd, 1) := by decide +kernel
theorem dX6_addArbor_17 : decode cX6_addArbor 17 = .ok (.putfield 28, 3) := by decide +kernel
theorem dX6_addArbor_20 : decode cX6_addArbor 20 = .ok (.goto 5, 3) := by decide +kernel
theorem dX6_addArbor_23 : decode cX6_addArbor 23 = .ok (.bipush (-3), 2) := by decide +kernel
theorem dX6_addArbor_25 : decode cX6_addArbor 25 = .ok (.ireturn, 1) := by decide +kernel
def f_Ge_addArbor (I : Nat → Nat → Int32) (L : Nat → Nat → Int64) : Option (Int32 × (Nat → Nat → Int32) × (Nat → Nat → Int64)) := (if (24 : Int32) ≤ (I 2 0) then (some ((-3 : Int32), I, L)) else (bnd ((I 2 0) + (1 : Int32)) fun x2 => (some ((I 2 0), (uI I 2 0 x2), L))))
set_option maxRecDepth 100000 in
set_option maxHeartbeats 4000000 in
theorem c_Ge_addArbor {G : xG} {S : List xSh} {Rf : Nat → Nat → Option Nat} (hT : xTH S Rf) {I : Nat → Nat → Int32} {L : Nat → Nat → Int64} {q : (Int32 × (Nat → Nat → Int32) × (Nat → Nat → Int64))} (hf : f_Ge_addArbor I L = some q) : CT G 1 m_Ge_addArbor [.ref (xP G 2)] (S, I, L, Rf) (some (.int q.1), (S, q.2.1, q.2.2, Rf)) := by
  refine CT.of (by decide +kernel) (Nat.le_of_ble_eq_true rfl) ?_
  show X G 1 m_Ge_addArbor 0 [(0, .ref (xP G 2))] [] (S, I, L, Rf) (some (.int q.1), (S, q.2.1, q.2.2, Rf))
  replace hf := (f_Ge_addArbor.eq_1 _ _).symm.trans hf
  refine X_aload_n (pc := 0) (i := 0) 0 dX6_addArbor_0 rfl rfl ?_
  refine X_get (pc := 1) (a := 2) (ci := 6) (j := 0) (.int (I 2 0)) (sh_2 hT) (by decide) k_107 rfl dX6_addArbor_1 ?_
  refine X_bipush (pc := 4) (24 : Int32) dX6_addArbor_4 (by decide) ?_
  by_cases c1 : (24 : Int32) ≤ (I 2 0)
  · replace hf := (if_pos c1).symm.trans hf
    refine X_icmp_ge_t (pc := 6) 23 dX6_addArbor_6 (by decide) c1 ?_
    refine X_bipush (pc := 23) (-3 : Int32) dX6_addArbor_23 (by decide) ?_
    cases hf
    exact X_ireturn (pc := 25) rfl dX6_addArbor_25
  · replace hf := (if_neg c1).symm.trans hf
    refine X_icmp_ge_f (pc := 6) 23 dX6_addArbor_6 (by decide) c1 ?_
    refine X_aload_n (pc := 9) (i := 0) 0 dX6_addArbor_9 rfl rfl ?_
    refine X_dup (pc := 10) dX6_addArbor_10 rfl ?_
    refine X_get (pc := 11) (a := 2) (ci := 6) (j := 0) (.int (I 2 0)) (sh_2 hT) (by decide) k_107 rfl dX6_addArbor_11 ?_
    refine X_dup_x1 (pc := 14) dX6_addArbor_14 rfl rfl ?_
    refine X_iconst (pc := 15) (1 : Int32) dX6_addArbor_15 (by decide) ?_
    refine X_iadd (pc := 16) dX6_addArbor_16 ?_
    obtain ⟨x2, ex2, hf⟩ := bnd_e hf
    refine X_tope ex2 ?_
    refine X_puti (pc := 17) (a := 2) (ci := 6) (j := 0) 0 rfl false (sh_2 hT) (by decide) k_107 rfl (fun h => by cases h) rfl dX6_addArbor_17 ?_
    refine X_goto (pc := 20) 25 dX6_addArbor_20 (by decide) ?_
    cases hf
    exact X_ireturn (pc := 25) rfl dX6_addArbor_25
theorem u_Ge_addArbor {S : List xSh} {I : Nat → Nat → Int32} {L : Nat → Nat → Int64} {q : (Int32 × (Nat → Nat → Int32) × (Nat → Nat → Int64))} (hf : f_Ge_addArbor I L = some q) : FR S [1200] [] I q.2.1 L q.2.2 := by
  replace hf := (f_Ge_addArbor.eq_1 _ _).symm.trans hf
  by_cases c1 : (24 : Int32) ≤ (I 2 0)
  · replace hf := (if_pos c1).symm.trans hf
    cases hf
    exact FR.rf
  · replace hf := (if_neg c1).symm.trans hf
    obtain ⟨x2, ex2, hf⟩ := bnd_e hf
    cases hf
    exact (FR.fi FR.rf (by decide))
theorem dX11_arbor_0 : decode cX11_arbor 0 = .ok (.aload_n 0, 1) := by decide +kernel
theorem dX11_arbor_1 : decode cX11_arbor 1 = .ok (.getfield 99, 3) := by decide +kernel
theorem dX11_arbor_4 : decode cX11_arbor 4 = .ok (.ifCond .eq 8, 3) := by decide +kernel
theorem dX11_arbor_7 : decode cX11_arbor 7 = .ok (.bipush (-2), 2) := by decide +kernel
theorem dX11_arbor_9 : decode cX11_arbor 9 = .ok (.goto 10, 3) := by decide +kernel
theorem dX11_arbor_12 : decode cX11_arbor 12 = .ok (.aload_n 0, 1) := by decide +kernel
theorem dX11_arbor_13 : decode cX11_arbor 13 = .ok (.getfield 20, 3) := by decide +kernel
theorem dX11_arbor_16 : decode cX11_arbor 16 = .ok (.invokevirtual 103, 3) := by decide +kernel
theorem dX11_arbor_19 : decode cX11_arbor 19 = .ok (.ireturn, 1) := by decide +kernel
def f_H_arbor (I : Nat → Nat → Int32) (L : Nat → Nat → Int64) : Option (Int32 × (Nat → Nat → Int32) × (Nat → Nat → Int64)) := (if (I 0 8) = (0 : Int32) then ((f_Ge_addArbor I L).bind fun q2 => (some (q2.1, q2.2.1, q2.2.2))) else (some ((-2 : Int32), I, L)))
set_option maxRecDepth 100000 in
set_option maxHeartbeats 4000000 in
theorem c_H_arbor {G : xG} {S : List xSh} {Rf : Nat → Nat → Option Nat} (hT : xTH S Rf) {I : Nat → Nat → Int32} {L : Nat → Nat → Int64} {q : (Int32 × (Nat → Nat → Int32) × (Nat → Nat → Int64))} (hf : f_H_arbor I L = some q) : CT G 2 m_H_arbor [.ref (xP G 0)] (S, I, L, Rf) (some (.int q.1), (S, q.2.1, q.2.2, Rf)) := by
  refine CT.of (by decide +kernel) (Nat.le_of_ble_eq_true rfl) ?_
  show X G 2 m_H_arbor 0 [(0, .ref (xP G 0))] [] (S, I, L, Rf) (some (.int q.1), (S, q.2.1, q.2.2, Rf))
  replace hf := (f_H_arbor.eq_1 _ _).symm.trans hf
  refine X_aload_n (pc := 0) (i := 0) 0 dX11_arbor_0 rfl rfl ?_
  refine X_get (pc := 1) (a := 0) (ci := 10) (j := 11) (.int (I 0 8)) (sh_0 hT) (by decide) k_505 rfl dX11_arbor_1 ?_
  by_cases c1 : (I 0 8) = (0 : Int32)
  · replace hf := (if_pos c1).symm.trans hf
    refine X_if_eq_t (pc := 4) 12 dX11_arbor_4 (by decide) c1 ?_
    refine X_aload_n (pc := 12) (i := 0) 0 dX11_arbor_12 rfl rfl ?_
    refine X_getr (pc := 13) (a := 0) (ci := 10) (j := 1) (c := 2) (sh_0 hT) (by decide) k_495 (rf_0_1 hT) (fun _ h => h) dX11_arbor_13 ?_
    obtain ⟨q2, c3, hf⟩ := bd_some hf
    refine X_invV_i (pc := 16) (c_Ge_addArbor hT c3) ok_Ge_addArbor (ci := 6) (sh_2 hT) k_551 k_552 k_553 nd_4 (by decide) rfl (Nat.le_of_ble_eq_true rfl) dX11_arbor_16 ?_
    cases hf
    exact X_ireturn (pc := 19) rfl dX11_arbor_19
  · replace hf := (if_neg c1).symm.trans hf
    refine X_if_eq_f (pc := 4) 12 dX11_arbor_4 (by decide) c1 ?_
    refine X_bipush (pc := 7) (-2 : Int32) dX11_arbor_7 (by decide) ?_
    refine X_goto (pc := 9) 19 dX11_arbor_9 (by decide) ?_
    cases hf
    exact X_ireturn (pc := 19) rfl dX11_arbor_19
theorem u_H_arbor {S : List xSh} {I : Nat → Nat → Int32} {L : Nat → Nat → Int64} {q : (Int32 × (Nat → Nat → Int32) × (Nat → Nat → Int64))} (hf : f_H_arbor I L = some q) : FR S [1200] [] I q.2.1 L q.2.2 := by
  replace hf := (f_H_arbor.eq_1 _ _).symm.trans hf
  by_cases c1 : (I 0 8) = (0 : Int32)
  · replace hf := (if_pos c1).symm.trans hf
    obtain ⟨q2, c3, hf⟩ := bd_some hf
    cases hf
    exact (FR.tr FR.rf (u_Ge_addArbor (q := q2) c3) (by decide) (by decide))
  · replace hf := (if_neg c1).symm.trans hf
    cases hf
    exact FR.rf
theorem dX6_hasArbor_0 : decode cX6_hasArbor 0 = .ok (.iload_n 1, 1) := by decide +kernel
theorem dX6_hasArbor_1 : decode cX6_hasArbor 1 = .ok (.ifCond .lt 15, 3) := by decide +kernel
theorem dX6_hasArbor_4 : decode cX6_hasArbor 4 = .ok (.iload_n 1, 1) := by decide +kernel
theorem dX6_hasArbor_5 : decode cX6_hasArbor 5 = .ok (.aload_n 0, 1) := by decide +kernel
theorem dX6_hasArbor_6 : decode cX6_hasArbor 6 = .ok (.getfield 28, 3) := by decide +kernel
theorem dX6_hasArbor_9 : decode cX6_hasArbor 9 = .ok (.if_icmp .ge 7, 3) := by decide +kernel
theorem dX6_hasArbor_12 : decode cX6_hasArbor 12 = .ok (.iconst 1, 1) := by decide +kernel
theorem dX6_hasArbor_13 : decode cX6_hasArbor 13 = .ok (.goto 4, 3) := by decide +kernel
theorem dX6_hasArbor_16 : decode cX6_hasArbor 16 = .ok (.iconst 0, 1) := by decide +kernel
theorem dX6_hasArbor_17 : decode cX6_hasArbor 17 = .ok (.ireturn, 1) := by decide +kernel
def f_Ge_hasArbor (a0 : Int32) (I : Nat → Nat → Int32) (L : Nat → Nat → Int64) : Int32 := (if a0 < (0 : Int32) then (0 : Int32) else (if (I 2 0) ≤ a0 then (0 : Int32) else (1 : Int32)))
set_option maxRecDepth 100000 in
set_option maxHeartbeats 4000000 in
theorem c_Ge_hasArbor {G : xG} {S : List xSh} {Rf : Nat → Nat → Option Nat} (hT : xTH S Rf) {a0 : Int32} {I : Nat → Nat → Int32} {L : Nat → Nat → Int64} {q : Int32} (hf : f_Ge_hasArbor a0 I L = q) : CT G 1 m_Ge_hasArbor [.ref (xP G 2), .int a0] (S, I, L, Rf) (some (.int q), (S, I, L, Rf)) := by
  refine CT.of (by decide +kernel) (Nat.le_of_ble_eq_true rfl) ?_
  show X G 1 m_Ge_hasArbor 0 [(0, .ref (xP G 2)), (1, .int a0)] [] (S, I, L, Rf) (some (.int q), (S, I, L, Rf))
  replace hf := (f_Ge_hasArbor.eq_1 _ _ _).symm.trans hf
  refine X_iload_n (pc := 0) (i := 1) 1 dX6_hasArbor_0 rfl rfl ?_
  by_cases c1 : a0 < (0 : Int32)
  · replace hf := (if_pos c1).symm.trans hf
    refine X_if_lt_t (pc := 1) 16 dX6_hasArbor_1 (by decide) c1 ?_
    refine X_iconst (pc := 16) (0 : Int32) dX6_hasArbor_16 (by decide) ?_
    subst hf
    exact X_zreturn (pc := 17) rfl (nar_b (by decide)) dX6_hasArbor_17
  · replace hf := (if_neg c1).symm.trans hf
    refine X_if_lt_f (pc := 1) 16 dX6_hasArbor_1 (by decide) c1 ?_
    refine X_iload_n (pc := 4) (i := 1) 1 dX6_hasArbor_4 rfl rfl ?_
    refine X_aload_n (pc := 5) (i := 0) 0 dX6_hasArbor_5 rfl rfl ?_
    refine X_get (pc := 6) (a := 2) (ci := 6) (j := 0) (.int (I 2 0)) (sh_2 hT) (by decide) k_107 rfl dX6_hasArbor_6 ?_
    by_cases c2 : (I 2 0) ≤ a0
    · replace hf := (if_pos c2).symm.trans hf
      refine X_icmp_ge_t (pc := 9) 16 dX6_hasArbor_9 (by decide) c2 ?_
      refine X_iconst (pc := 16) (0 : Int32) dX6_hasArbor_16 (by decide) ?_
      subst hf
      exact X_zreturn (pc := 17) rfl (nar_b (by decide)) dX6_hasArbor_17
    · replace hf := (if_neg c2).symm.trans hf
      refine X_icmp_ge_f (pc := 9) 16 dX6_hasArbor_9 (by decide) c2 ?_
      refine X_iconst (pc := 12) (1 : Int32) dX6_hasArbor_12 (by decide) ?_
      refine X_goto (pc := 13) 17 dX6_hasArbor_13 (by decide) ?_
      subst hf
      exact X_zreturn (pc := 17) rfl (nar_b (by decide)) dX6_hasArbor_17
theorem dX11_isWithin_0 : decode cX11_isWithin 0 = .ok (.iload_n 0, 1) := by decide +kernel
theorem dX11_isWithin_1 : decode cX11_isWithin 1 = .ok (.iload_n 1, 1) := by decide +kernel
theorem dX11_isWithin_2 : decode cX11_isWithin 2 = .ok (.if_icmp .lt 12, 3) := by decide +kernel
theorem dX11_isWithin_5 : decode cX11_isWithin 5 = .ok (.iload_n 0, 1) := by decide +kernel
theorem dX11_isWithin_6 : decode cX11_isWithin 6 = .ok (.iload_n 2, 1) := by decide +kernel
theorem dX11_isWithin_7 : decode cX11_isWithin 7 = .ok (.if_icmp .gt 7, 3) := by decide +kernel
theorem dX11_isWithin_10 : decode cX11_isWithin 10 = .ok (.iconst 1, 1) := by decide +kernel
theorem dX11_isWithin_11 : decode cX11_isWithin 11 = .ok (.goto 4, 3) := by decide +kernel
theorem dX11_isWithin_14 : decode cX11_isWithin 14 = .ok (.iconst 0, 1) := by decide +kernel
theorem dX11_isWithin_15 : decode cX11_isWithin 15 = .ok (.ireturn, 1) := by decide +kernel
def f_H_isWithin (a0 : Int32) (a1 : Int32) (a2 : Int32) : Int32 := (if a0 < a1 then (0 : Int32) else (if a2 < a0 then (0 : Int32) else (1 : Int32)))
set_option maxRecDepth 100000 in
set_option maxHeartbeats 4000000 in
theorem c_H_isWithin {G : xG} {S : List xSh} {Rf : Nat → Nat → Option Nat} (hT : xTH S Rf) {a0 : Int32} {a1 : Int32} {a2 : Int32} {I : Nat → Nat → Int32} {L : Nat → Nat → Int64} {q : Int32} (hf : f_H_isWithin a0 a1 a2 = q) : CT G 1 m_H_isWithin [.int a0, .int a1, .int a2] (S, I, L, Rf) (some (.int q), (S, I, L, Rf)) := by
  refine CT.of (by decide +kernel) (Nat.le_of_ble_eq_true rfl) ?_
  show X G 1 m_H_isWithin 0 [(0, .int a0), (1, .int a1), (2, .int a2)] [] (S, I, L, Rf) (some (.int q), (S, I, L, Rf))
  replace hf := (f_H_isWithin.eq_1 _ _ _).symm.trans hf
  refine X_iload_n (pc := 0) (i := 0) 0 dX11_isWithin_0 rfl rfl ?_
  refine X_iload_n (pc := 1) (i := 1) 1 dX11_isWithin_1 rfl rfl ?_
  by_cases c1 : a0 < a1
  · replace hf := (if_pos c1).symm.trans hf
    refine X_icmp_lt_t (pc := 2) 14 dX11_isWithin_2 (by decide) c1 ?_
    refine X_iconst (pc := 14) (0 : Int32) dX11_isWithin_14 (by decide) ?_
    subst hf
    exact X_zreturn (pc := 15) rfl (nar_b (by decide)) dX11_isWithin_15
  · replace hf := (if_neg c1).symm.trans hf
    refine X_icmp_lt_f (pc := 2) 14 dX11_isWithin_2 (by decide) c1 ?_
    refine X_iload_n (pc := 5) (i := 0) 0 dX11_isWithin_5 rfl rfl ?_
    refine X_iload_n (pc := 6) (i := 2) 2 dX11_isWithin_6 rfl rfl ?_
    by_cases c2 : a2 < a0
    · replace hf := (if_pos c2).symm.trans hf
      refine X_icmp_gt_t (pc := 7) 14 dX11_isWithin_7 (by decide) c2 ?_
      refine X_iconst (pc := 14) (0 : Int32) dX11_isWithin_14 (by decide) ?_
      subst hf
      exact X_zreturn (pc := 15) rfl (nar_b (by decide)) dX11_isWithin_15
    · replace hf := (if_neg c2).symm.trans hf
      refine X_icmp_gt_f (pc := 7) 14 dX11_isWithin_7 (by decide) c2 ?_
      refine X_iconst (pc := 10) (1 : Int32) dX11_isWithin_10 (by decide) ?_
      refine X_goto (pc := 11) 15 dX11_isWithin_11 (by decide) ?_
      subst hf
      exact X_zreturn (pc := 15) rfl (nar_b (by decide)) dX11_isWithin_15
theorem dX6_setPlace_0 : decode cX6_setPlace 0 = .ok (.aload_n 0, 1) := by decide +kernel
theorem dX6_setPlace_1 : decode cX6_setPlace 1 = .ok (.getfield 21, 3) := by decide +kernel
theorem dX6_setPlace_4 : decode cX6_setPlace 4 = .ok (.iload_n 1, 1) := by decide +kernel
theorem dX6_setPlace_5 : decode cX6_setPlace 5 = .ok (.iload_n 2, 1) := by decide +kernel
theorem dX6_setPlace_6 : decode cX6_setPlace 6 = .ok (.iastore, 1) := by decide +kernel
theorem dX6_setPlace_7 : decode cX6_setPlace 7 = .ok (.aload_n 0, 1) := by decide +kernel
theorem dX6_setPlace_8 : decode cX6_setPlace 8 = .ok (.getfield 25, 3) := by decide +kernel
theorem dX6_setPlace_11 : decode cX6_setPlace 11 = .ok (.iload_n 1, 1) := by decide +kernel
theorem dX6_setPlace_12 : decode cX6_setPlace 12 = .ok (.iload_n 3, 1) := by decide +kernel
theorem dX6_setPlace_13 : decode cX6_setPlace 13 = .ok (.iastore, 1) := by decide +kernel
theorem dX6_setPlace_14 : decode cX6_setPlace 14 = .ok (.return_, 1) := by decide +kernel
def f_Ge_setPlace (a0 : Int32) (a1 : Int32) (a2 : Int32) (I : Nat → Nat → Int32) (L : Nat → Nat → Int64) : Option ((Nat → Nat → Int32) × (Nat → Nat → Int64)) := (if (0 ≤ a0 ∧ a0 < (120 : Int32)) then (if (0 ≤ a0 ∧ a0 < (120 : Int32)) then (some ((uI (uI I 6 (a0.toNatClampNeg) a1) 7 (a0.toNatClampNeg) a2), L)) else none) else none)
set_option maxRecDepth 100000 in
set_option maxHeartbeats 4000000 in
theorem c_Ge_setPlace {G : xG} {S : List xSh} {Rf : Nat → Nat → Option Nat} (hT : xTH S Rf) {a0 : Int32} {a1 : Int32} {a2 : Int32} {I : Nat → Nat → Int32} {L : Nat → Nat → Int64} {q : ((Nat → Nat → Int32) × (Nat → Nat → Int64))} (hf : f_Ge_setPlace a0 a1 a2 I L = some q) : CT G 1 m_Ge_setPlace [.ref (xP G 2), .int a0, .int a1, .int a2] (S, I, L, Rf) (none, (S, q.1, q.2, Rf)) := by
  refine CT.of (by decide +kernel) (Nat.le_of_ble_eq_true rfl) ?_
  show X G 1 m_Ge_setPlace 0 [(0, .ref (xP G 2)), (1, .int a0), (2, .int a1), (3, .int a2)] [] (S, I, L, Rf) (none, (S, q.1, q.2, Rf))
  replace hf := (f_Ge_setPlace.eq_1 _ _ _ _ _).symm.trans hf
  refine X_aload_n (pc := 0) (i := 0) 0 dX6_setPlace_0 rfl rfl ?_
  refine X_getr (pc := 1) (a := 2) (ci := 6) (j := 8) (c := 6) (sh_2 hT) (by decide) k_121 (rf_2_8 hT) (fun _ h => h) dX6_setPlace_1 ?_
  refine X_iload_n (pc := 4) (i := 1) 1 dX6_setPlace_4 rfl rfl ?_
  refine X_iload_n (pc := 5) (i := 2) 2 dX6_setPlace_5 rfl rfl ?_
  obtain ⟨c1, hf⟩ := gd_some hf
  refine X_iastj (pc := 6) (j := (a0.toNatClampNeg)) (sh_6 hT) (vp_in_lit (N := 120) c1 (by decide)) rfl dX6_setPlace_6 ?_
  refine X_aload_n (pc := 7) (i := 0) 0 dX6_setPlace_7 rfl rfl ?_
  refine X_getr (pc := 8) (a := 2) (ci := 6) (j := 9) (c := 7) (sh_2 hT) (by decide) k_122 (rf_2_9 hT) (fun _ h => h) dX6_setPlace_8 ?_
  refine X_iload_n (pc := 11) (i := 1) 1 dX6_setPlace_11 rfl rfl ?_
  refine X_iload_n (pc := 12) (i := 3) 3 dX6_setPlace_12 rfl rfl ?_
  obtain ⟨c2, hf⟩ := gd_some hf
  refine X_iastj (pc := 13) (j := (a0.toNatClampNeg)) (sh_7 hT) (vp_in_lit (N := 120) c2 (by decide)) rfl dX6_setPlace_13 ?_
  cases hf
  exact X_return (pc := 14) rfl dX6_setPlace_14
theorem u_Ge_setPlace {S : List xSh} {a0 : Int32} {a1 : Int32} {a2 : Int32} {I : Nat → Nat → Int32} {L : Nat → Nat → Int64} {q : ((Nat → Nat → Int32) × (Nat → Nat → Int64))} (hf : f_Ge_setPlace a0 a1 a2 I L = some q) : FR S [6, 7] [] I q.1 L q.2 := by
  replace hf := (f_Ge_setPlace.eq_1 _ _ _ _ _).symm.trans hf
  obtain ⟨c1, hf⟩ := gd_some hf
  obtain ⟨c2, hf⟩ := gd_some hf
  cases hf
  exact (FR.ai (FR.ai FR.rf (by decide)) (by decide))
theorem dX6_countUnknown_0 : decode cX6_countUnknown 0 = .ok (.iconst 0, 1) := by decide +kernel
theorem dX6_countUnknown_1 : decode cX6_countUnknown 1 = .ok (.istore_n 2, 1) := by decide +kernel
theorem dX6_countUnknown_2 : decode cX6_countUnknown 2 = .ok (.iconst 0, 1) := by decide +kernel
theorem dX6_countUnknown_3 : decode cX6_countUnknown 3 = .ok (.istore_n 3, 1) := by decide +kernel
theorem dX6_countUnknown_4 : decode cX6_countUnknown 4 = .ok (.iload_n 3, 1) := by decide +kernel
theorem dX6_countUnknown_5 : decode cX6_countUnknown 5 = .ok (.iconst 3, 1) := by decide +kernel
theorem dX6_countUnknown_6 : decode cX6_countUnknown 6 = .ok (.if_icmp .ge 45, 3) := by decide +kernel
theorem dX6_countUnknown_9 : decode cX6_countUnknown 9 = .ok (.aload_n 0, 1) := by decide +kernel
theorem dX6_countUnknown_10 : decode cX6_countUnknown 10 = .ok (.getfield 21, 3) := by decide +kernel
theorem dX6_countUnknown_13 : decode cX6_countUnknown 13 = .ok (.iload_n 1, 1) := by decide +kernel
theorem dX6_countUnknown_14 : decode cX6_countUnknown 14 = .ok (.iconst 3, 1) := by decide +kernel
theorem dX6_countUnknown_15 : decode cX6_countUnknown 15 = .ok (.imul, 1) := by decide +kernel
theorem dX6_countUnknown_16 : decode cX6_countUnknown 16 = .ok (.iload_n 3, 1) := by decide +kernel
theorem dX6_countUnknown_17 : decode cX6_countUnknown 17 = .ok (.iadd, 1) := by decide +kernel
theorem dX6_countUnknown_18 : decode cX6_countUnknown 18 = .ok (.iaload, 1) := by decide +kernel
theorem dX6_countUnknown_19 : decode cX6_countUnknown 19 = .ok (.istore 4, 2) := by decide +kernel
theorem dX6_countUnknown_21 : decode cX6_countUnknown 21 = .ok (.aload_n 0, 1) := by decide +kernel
theorem dX6_countUnknown_22 : decode cX6_countUnknown 22 = .ok (.iload 4, 2) := by decide +kernel
theorem dX6_countUnknown_24 : decode cX6_countUnknown 24 = .ok (.invokevirtual 48, 3) := by decide +kernel
theorem dX6_countUnknown_27 : decode cX6_countUnknown 27 = .ok (.ifCond .eq 18, 3) := by decide +kernel
theorem dX6_countUnknown_30 : decode cX6_countUnknown 30 = .ok (.aload_n 0, 1) := by decide +kernel
theorem dX6_countUnknown_31 : decode cX6_countUnknown 31 = .ok (.getfield 15, 3) := by decide +kernel
theorem dX6_countUnknown_34 : decode cX6_countUnknown 34 = .ok (.iload 4, 2) := by decide +kernel
theorem dX6_countUnknown_36 : decode cX6_countUnknown 36 = .ok (.laload, 1) := by decide +kernel
theorem dX6_countUnknown_37 : decode cX6_countUnknown 37 = .ok (.lconst 0, 1) := by decide +kernel
theorem dX6_countUnknown_38 : decode cX6_countUnknown 38 = .ok (.lcmp, 1) := by decide +kernel
theorem dX6_countUnknown_39 : decode cX6_countUnknown 39 = .ok (.ifCond .ne 6, 3) := by decide +kernel
theorem dX6_countUnknown_42 : decode cX6_countUnknown 42 = .ok (.iinc 2 1, 3) := by decide +kernel
theorem dX6_countUnknown_45 : decode cX6_countUnknown 45 = .ok (.iinc 3 1, 3) := by decide +kernel
theorem dX6_countUnknown_48 : decode cX6_countUnknown 48 = .ok (.goto (-44), 3) := by decide +kernel
theorem dX6_countUnknown_51 : decode cX6_countUnknown 51 = .ok (.iload_n 2, 1) := by decide +kernel
theorem dX6_countUnknown_52 : decode cX6_countUnknown 52 = .ok (.ireturn, 1) := by decide +kernel
def f_Ge_countUnknown_L4 : Nat → Int32 → Int32 → Int32 → (Nat → Nat → Int32) → (Nat → Nat → Int64) → Option Int32
  | 0, _, _, _, _, _ => none
  | n + 1, l1, l2, l3, I, L => (if (3 : Int32) ≤ l3 then (some l2) else (if (0 ≤ ((l1 * (3 : Int32)) + l3) ∧ ((l1 * (3 : Int32)) + l3) < (120 : Int32)) then (bnd (I 6 (((l1 * (3 : Int32)) + l3).toNatClampNeg)) fun x3 => (if (f_Ge_hasArbor x3 I L) = (0 : Int32) then (f_Ge_countUnknown_L4 n l1 l2 (l3 + (1 : Int32)) I L) else (if (0 ≤ x3 ∧ x3 < (24 : Int32)) then (if (L 4 (x3.toNatClampNeg)) = (0 : Int64) then (f_Ge_countUnknown_L4 n l1 (l2 + (1 : Int32)) (l3 + (1 : Int32)) I L) else (f_Ge_countUnknown_L4 n l1 l2 (l3 + (1 : Int32)) I L)) else none))) else none))
set_option maxRecDepth 100000 in
set_option maxHeartbeats 4000000 in
theorem x_Ge_countUnknown_L4 {G : xG} {S : List xSh} {Rf : Nat → Nat → Option Nat} (hT : xTH S Rf) : ∀ (n : Nat) {l1 : Int32} {l2 : Int32} {l3 : Int32} {I : Nat → Nat → Int32} {L : Nat → Nat → Int64} {q : Int32}, f_Ge_countUnknown_L4 n l1 l2 l3 I L = some q → X G 2 m_Ge_countUnknown 4 [(0, .ref (xP G 2)), (1, .int l1), (2, .int l2), (3, .int l3)] [] (S, I, L, Rf) (some (.int q), (S, I, L, Rf)) := by
  intro n
  induction n with
  | zero =>
    intro l1 l2 l3 I L q hf
    exact absurd (show none = some q from hf) (by simp)
  | succ n ih =>
    intro l1 l2 l3 I L q hf
    replace hf := (f_Ge_countUnknown_L4.eq_2 _ _ _ _ _ _).symm.trans hf
    refine X_iload_n (pc := 4) (i := 3) 3 dX6_countUnknown_4 rfl rfl ?_
    refine X_iconst (pc := 5) (3 : Int32) dX6_countUnknown_5 (by decide) ?_
    by_cases c1 : (3 : Int32) ≤ l3
    · replace hf := (if_pos c1).symm.trans hf
      refine X_icmp_ge_t (pc := 6) 51 dX6_countUnknown_6 (by decide) c1 ?_
      refine X_iload_n (pc := 51) (i := 2) 2 dX6_countUnknown_51 rfl rfl ?_
      cases hf
      exact X_ireturn (pc := 52) rfl dX6_countUnknown_52
    · replace hf := (if_neg c1).symm.trans hf
      refine X_icmp_ge_f (pc := 6) 51 dX6_countUnknown_6 (by decide) c1 ?_
      refine X_aload_n (pc := 9) (i := 0) 0 dX6_countUnknown_9 rfl rfl ?_
      refine X_getr (pc := 10) (a := 2) (ci := 6) (j := 8) (c := 6) (sh_2 hT) (by decide) k_121 (rf_2_8 hT) (fun _ h => h) dX6_countUnknown_10 ?_
      refine X_iload_n (pc := 13) (i := 1) 1 dX6_countUnknown_13 rfl rfl ?_
      refine X_iconst (pc := 14) (3 : Int32) dX6_countUnknown_14 (by decide) ?_
      refine X_imul (pc := 15) dX6_countUnknown_15 ?_
      refine X_iload_n (pc := 16) (i := 3) 3 dX6_countUnknown_16 rfl rfl ?_
      refine X_iadd (pc := 17) dX6_countUnknown_17 ?_
      obtain ⟨c2, hf⟩ := gd_some hf
      refine X_ialdj (pc := 18) (j := ((l1 * (3 : Int32)) + l3).toNatClampNeg) (I 6 (((l1 * (3 : Int32)) + l3).toNatClampNeg)) (sh_6 hT) (vp_in_lit (N := 120) c2 (by decide)) rfl rfl dX6_countUnknown_18 ?_
      obtain ⟨x3, ex3, hf⟩ := bnd_e hf
      refine X_tope ex3 ?_
      refine X_istore (pc := 19) [(4, .int x3), (0, .ref (xP G 2)), (1, .int l1), (2, .int l2), (3, .int l3)] dX6_countUnknown_19 (by decide) rfl ?_
      refine X_aload_n (pc := 21) (i := 0) 1 dX6_countUnknown_21 rfl rfl ?_
      refine X_iload (pc := 22) 0 dX6_countUnknown_22 rfl ?_
      refine X_invV_i (pc := 24) (c_Ge_hasArbor hT rfl) ok_Ge_hasArbor (ci := 6) (sh_2 hT) k_578 k_560 k_561 nd_5 (by decide) rfl (Nat.le_of_ble_eq_true rfl) dX6_countUnknown_24 ?_
      by_cases c4 : (f_Ge_hasArbor x3 I L) = (0 : Int32)
      · replace hf := (if_pos c4).symm.trans hf
        refine X_if_eq_t (pc := 27) 45 dX6_countUnknown_27 (by decide) c4 ?_
        refine X_iinc (pc := 45) (i := 3) (q := 4) (v := (l3 + (1 : Int32))) [(3, .int (l3 + (1 : Int32))), (4, .int x3), (0, .ref (xP G 2)), (1, .int l1), (2, .int l2)] dX6_countUnknown_45 rfl rfl (by decide) rfl ?_
        refine X_goto (pc := 48) 4 dX6_countUnknown_48 (by decide) ?_
        exact X_lvs [2, 3, 4, 0] rfl (ih hf)
      · replace hf := (if_neg c4).symm.trans hf
        refine X_if_eq_f (pc := 27) 45 dX6_countUnknown_27 (by decide) c4 ?_
        refine X_aload_n (pc := 30) (i := 0) 1 dX6_countUnknown_30 rfl rfl ?_
        refine X_getr (pc := 31) (a := 2) (ci := 6) (j := 6) (c := 4) (sh_2 hT) (by decide) k_118 (rf_2_6 hT) (fun _ h => h) dX6_countUnknown_31 ?_
        refine X_iload (pc := 34) 0 dX6_countUnknown_34 rfl ?_
        obtain ⟨c5, hf⟩ := gd_some hf
        refine X_laldj (pc := 36) (j := x3.toNatClampNeg) (L 4 (x3.toNatClampNeg)) (sh_4 hT) (vp_in_lit (N := 24) c5 (by decide)) rfl rfl dX6_countUnknown_36 ?_
        refine X_lconst (pc := 37) (0 : Int64) dX6_countUnknown_37 (by decide) ?_
        refine X_lcmp (pc := 38) dX6_countUnknown_38 ?_
        by_cases c6 : (L 4 (x3.toNatClampNeg)) = (0 : Int64)
        · replace hf := (if_pos c6).symm.trans hf
          refine X_if_ne_f (pc := 39) 45 dX6_countUnknown_39 (by decide) ((lg_cmp_eq _ _).mpr c6) ?_
          refine X_iinc (pc := 42) (i := 2) (q := 3) (v := (l2 + (1 : Int32))) [(2, .int (l2 + (1 : Int32))), (4, .int x3), (0, .ref (xP G 2)), (1, .int l1), (3, .int l3)] dX6_countUnknown_42 rfl rfl (by decide) rfl ?_
          refine X_iinc (pc := 45) (i := 3) (q := 4) (v := (l3 + (1 : Int32))) [(3, .int (l3 + (1 : Int32))), (2, .int (l2 + (1 : Int32))), (4, .int x3), (0, .ref (xP G 2)), (1, .int l1)] dX6_countUnknown_45 rfl rfl (by decide) rfl ?_
          refine X_goto (pc := 48) 4 dX6_countUnknown_48 (by decide) ?_
          exact X_lvs [3, 4, 1, 0] rfl (ih hf)
        · replace hf := (if_neg c6).symm.trans hf
          refine X_if_ne_t (pc := 39) 45 dX6_countUnknown_39 (by decide) (fun h => c6 ((lg_cmp_eq _ _).mp h)) ?_
          refine X_iinc (pc := 45) (i := 3) (q := 4) (v := (l3 + (1 : Int32))) [(3, .int (l3 + (1 : Int32))), (4, .int x3), (0, .ref (xP G 2)), (1, .int l1), (2, .int l2)] dX6_countUnknown_45 rfl rfl (by decide) rfl ?_
          refine X_goto (pc := 48) 4 dX6_countUnknown_48 (by decide) ?_
          exact X_lvs [2, 3, 4, 0] rfl (ih hf)
def f_Ge_countUnknown (a0 : Int32) (I : Nat → Nat → Int32) (L : Nat → Nat → Int64) : Option Int32 := (f_Ge_countUnknown_L4 xF a0 (0 : Int32) (0 : Int32) I L)
set_option maxRecDepth 100000 in
set_option maxHeartbeats 4000000 in
theorem c_Ge_countUnknown {G : xG} {S : List xSh} {Rf : Nat → Nat → Option Nat} (hT : xTH S Rf) {a0 : Int32} {I : Nat → Nat → Int32} {L : Nat → Nat → Int64} {q : Int32} (hf : f_Ge_countUnknown a0 I L = some q) : CT G 2 m_Ge_countUnknown [.ref (xP G 2), .int a0] (S, I, L, Rf) (some (.int q), (S, I, L, Rf)) := by
  refine CT.of (by decide +kernel) (Nat.le_of_ble_eq_true rfl) ?_
  show X G 2 m_Ge_countUnknown 0 [(0, .ref (xP G 2)), (1, .int a0)] [] (S, I, L, Rf) (some (.int q), (S, I, L, Rf))
  replace hf := (f_Ge_countUnknown.eq_1 _ _ _).symm.trans hf
  refine X_iconst (pc := 0) (0 : Int32) dX6_countUnknown_0 (by decide) ?_
  refine X_istore_n (pc := 1) (i := 2) [(2, .int (0 : Int32)), (0, .ref (xP G 2)), (1, .int a0)] dX6_countUnknown_1 rfl (by decide) rfl ?_
  refine X_iconst (pc := 2) (0 : Int32) dX6_countUnknown_2 (by decide) ?_
  refine X_istore_n (pc := 3) (i := 3) [(3, .int (0 : Int32)), (2, .int (0 : Int32)), (0, .ref (xP G 2)), (1, .int a0)] dX6_countUnknown_3 rfl (by decide) rfl ?_
  exact X_lvs [2, 3, 1, 0] rfl (x_Ge_countUnknown_L4 hT xF hf)
theorem dX11_commonDivisor_0 : decode cX11_commonDivisor 0 = .ok (.lload_n 0, 1) := by decide +kernel
theorem dX11_commonDivisor_1 : decode cX11_commonDivisor 1 = .ok (.invokestatic 367, 3) := by decide +kernel
theorem dX11_commonDivisor_4 : decode cX11_commonDivisor 4 = .ok (.lstore 4, 2) := by decide +kernel
theorem dX11_commonDivisor_6 : decode cX11_commonDivisor 6 = .ok (.lload_n 2, 1) := by decide +kernel
theorem dX11_commonDivisor_7 : decode cX11_commonDivisor 7 = .ok (.invokestatic 367, 3) := by decide +kernel
theorem dX11_commonDivisor_10 : decode cX11_commonDivisor 10 = .ok (.lstore 6, 2) := by decide +kernel
theorem dX11_commonDivisor_12 : decode cX11_commonDivisor 12 = .ok (.iconst 0, 1) := by decide +kernel
theorem dX11_commonDivisor_13 : decode cX11_commonDivisor 13 = .ok (.istore 8, 2) := by decide +kernel
theorem dX11_commonDivisor_15 : decode cX11_commonDivisor 15 = .ok (.iload 8, 2) := by decide +kernel
theorem dX11_commonDivisor_17 : decode cX11_commonDivisor 17 = .ok (.sipush 200, 3) := by decide +kernel
theorem dX11_commonDivisor_20 : decode cX11_commonDivisor 20 = .ok (.if_icmp .ge 31, 3) := by decide +kernel
theorem dX11_commonDivisor_23 : decode cX11_commonDivisor 23 = .ok (.lload 6, 2) := by decide +kernel
theorem dX11_commonDivisor_25 : decode cX11_commonDivisor 25 = .ok (.lconst 0, 1) := by decide +kernel
theorem dX11_commonDivisor_26 : decode cX11_commonDivisor 26 = .ok (.lcmp, 1) := by decide +kernel
theorem dX11_commonDivisor_27 : decode cX11_commonDivisor 27 = .ok (.ifCond .eq 24, 3) := by decide +kernel
theorem dX11_commonDivisor_30 : decode cX11_commonDivisor 30 = .ok (.lload 4, 2) := by decide +kernel
theorem dX11_commonDivisor_32 : decode cX11_commonDivisor 32 = .ok (.lload 6, 2) := by decide +kernel
theorem dX11_commonDivisor_34 : decode cX11_commonDivisor 34 = .ok (.lrem, 1) := by decide +kernel
theorem dX11_commonDivisor_35 : decode cX11_commonDivisor 35 = .ok (.lstore 9, 2) := by decide +kernel
theorem dX11_commonDivisor_37 : decode cX11_commonDivisor 37 = .ok (.lload 6, 2) := by decide +kernel
theorem dX11_commonDivisor_39 : decode cX11_commonDivisor 39 = .ok (.lstore 4, 2) := by decide +kernel
theorem dX11_commonDivisor_41 : decode cX11_commonDivisor 41 = .ok (.lload 9, 2) := by decide +kernel
theorem dX11_commonDivisor_43 : decode cX11_commonDivisor 43 = .ok (.lstore 6, 2) := by decide +kernel
theorem dX11_commonDivisor_45 : decode cX11_commonDivisor 45 = .ok (.iinc 8 1, 3) := by decide +kernel
theorem dX11_commonDivisor_48 : decode cX11_commonDivisor 48 = .ok (.goto (-33), 3) := by decide +kernel
theorem dX11_commonDivisor_51 : decode cX11_commonDivisor 51 = .ok (.lload 4, 2) := by decide +kernel
theorem dX11_commonDivisor_53 : decode cX11_commonDivisor 53 = .ok (.lreturn, 1) := by decide +kernel
def f_H_commonDivisor_L15 : Nat → Int64 → Int64 → Int32 → Option Int64
  | 0, _, _, _ => none
  | n + 1, l4, l6, l8 => (if (200 : Int32) ≤ l8 then (some l4) else (if l6 = (0 : Int64) then (some l4) else (if ¬ l6 = (0 : Int64) then (bnd (lrem l4 l6) fun x6 => (f_H_commonDivisor_L15 n l6 x6 (l8 + (1 : Int32)))) else none)))
set_option maxRecDepth 100000 in
set_option maxHeartbeats 4000000 in
theorem x_H_commonDivisor_L15 {G : xG} {S : List xSh} {Rf : Nat → Nat → Option Nat} (hT : xTH S Rf) : ∀ (n : Nat) {l4 : Int64} {l6 : Int64} {l8 : Int32} {I : Nat → Nat → Int32} {L : Nat → Nat → Int64} {q : Int64}, f_H_commonDivisor_L15 n l4 l6 l8 = some q → X G 1 m_H_commonDivisor 15 [(4, .long l4), (6, .long l6), (8, .int l8)] [] (S, I, L, Rf) (some (.long q), (S, I, L, Rf)) := by
  intro n
  induction n with
  | zero =>
    intro l4 l6 l8 I L q hf
    exact absurd (show none = some q from hf) (by simp)
  | succ n ih =>
    intro l4 l6 l8 I L q hf
    replace hf := (f_H_commonDivisor_L15.eq_2 _ _ _ _).symm.trans hf
    refine X_iload (pc := 15) 2 dX11_commonDivisor_15 rfl ?_
    refine X_sipush (pc := 17) (200 : Int32) dX11_commonDivisor_17 (by decide) ?_
    by_cases c3 : (200 : Int32) ≤ l8
    · replace hf := (if_pos c3).symm.trans hf
      refine X_icmp_ge_t (pc := 20) 51 dX11_commonDivisor_20 (by decide) c3 ?_
      refine X_lload (pc := 51) 0 dX11_commonDivisor_51 rfl ?_
      cases hf
      exact X_lreturn (pc := 53) rfl dX11_commonDivisor_53
    · replace hf := (if_neg c3).symm.trans hf
      refine X_icmp_ge_f (pc := 20) 51 dX11_commonDivisor_20 (by decide) c3 ?_
      refine X_lload (pc := 23) 1 dX11_commonDivisor_23 rfl ?_
      refine X_lconst (pc := 25) (0 : Int64) dX11_commonDivisor_25 (by decide) ?_
      refine X_lcmp (pc := 26) dX11_commonDivisor_26 ?_
      by_cases c4 : l6 = (0 : Int64)
      · replace hf := (if_pos c4).symm.trans hf
        refine X_if_eq_t (pc := 27) 51 dX11_commonDivisor_27 (by decide) ((lg_cmp_eq _ _).mpr c4) ?_
        refine X_lload (pc := 51) 0 dX11_commonDivisor_51 rfl ?_
        cases hf
        exact X_lreturn (pc := 53) rfl dX11_commonDivisor_53
      · replace hf := (if_neg c4).symm.trans hf
        refine X_if_eq_f (pc := 27) 51 dX11_commonDivisor_27 (by decide) (fun h => c4 ((lg_cmp_eq _ _).mp h)) ?_
        refine X_lload (pc := 30) 0 dX11_commonDivisor_30 rfl ?_
        refine X_lload (pc := 32) 1 dX11_commonDivisor_32 rfl ?_
        obtain ⟨c5, hf⟩ := gd_some hf
        refine X_lrem (pc := 34) dX11_commonDivisor_34 c5 ?_
        obtain ⟨x6, ex6, hf⟩ := bnd_e hf
        refine X_tople ex6 ?_
        refine X_lstore (pc := 35) [(9, .long x6), (4, .long l4), (6, .long l6), (8, .int l8)] dX11_commonDivisor_35 (by decide) rfl ?_
        refine X_lload (pc := 37) 2 dX11_commonDivisor_37 rfl ?_
        refine X_lstore (pc := 39) [(4, .long l6), (9, .long x6), (6, .long l6), (8, .int l8)] dX11_commonDivisor_39 (by decide) rfl ?_
        refine X_lload (pc := 41) 1 dX11_commonDivisor_41 rfl ?_
        refine X_lstore (pc := 43) [(6, .long x6), (4, .long l6), (9, .long x6), (8, .int l8)] dX11_commonDivisor_43 (by decide) rfl ?_
        refine X_iinc (pc := 45) (i := 8) (q := 3) (v := (l8 + (1 : Int32))) [(8, .int (l8 + (1 : Int32))), (6, .long x6), (4, .long l6), (9, .long x6)] dX11_commonDivisor_45 rfl rfl (by decide) rfl ?_
        refine X_goto (pc := 48) 15 dX11_commonDivisor_48 (by decide) ?_
        exact X_lvs [2, 1, 0] rfl (ih hf)
def f_H_commonDivisor (a0 : Int64) (a1 : Int64) : Option Int64 := (bnd (Jabs a0) fun x1 => (bnd (Jabs a1) fun x2 => (f_H_commonDivisor_L15 xF x1 x2 (0 : Int32))))
set_option maxRecDepth 100000 in
set_option maxHeartbeats 4000000 in
theorem c_H_commonDivisor {G : xG} {S : List xSh} {Rf : Nat → Nat → Option Nat} (hT : xTH S Rf) {a0 : Int64} {a1 : Int64} {I : Nat → Nat → Int32} {L : Nat → Nat → Int64} {q : Int64} (hf : f_H_commonDivisor a0 a1 = some q) : CT G 1 m_H_commonDivisor [.long a0, .long a1] (S, I, L, Rf) (some (.long q), (S, I, L, Rf)) := by
  refine CT.of (by decide +kernel) (Nat.le_of_ble_eq_true rfl) ?_
  show X G 1 m_H_commonDivisor 0 [(0, .long a0), (2, .long a1)] [] (S, I, L, Rf) (some (.long q), (S, I, L, Rf))
  replace hf := (f_H_commonDivisor.eq_1 _ _).symm.trans hf
  refine X_lload_n (pc := 0) (i := 0) 0 dX11_commonDivisor_0 rfl rfl ?_
  refine X_Jabs (pc := 1) k_598 (by decide) (Nat.le_of_ble_eq_true rfl) dX11_commonDivisor_1 ?_
  obtain ⟨x1, ex1, hf⟩ := bnd_e hf
  refine X_tople ex1 ?_
  refine X_lstore (pc := 4) [(4, .long x1), (0, .long a0), (2, .long a1)] dX11_commonDivisor_4 (by decide) rfl ?_
  refine X_lload_n (pc := 6) (i := 2) 2 dX11_commonDivisor_6 rfl rfl ?_
  refine X_Jabs (pc := 7) k_598 (by decide) (Nat.le_of_ble_eq_true rfl) dX11_commonDivisor_7 ?_
  obtain ⟨x2, ex2, hf⟩ := bnd_e hf
  refine X_tople ex2 ?_
  refine X_lstore (pc := 10) [(6, .long x2), (4, .long x1), (0, .long a0), (2, .long a1)] dX11_commonDivisor_10 (by decide) rfl ?_
  refine X_iconst (pc := 12) (0 : Int32) dX11_commonDivisor_12 (by decide) ?_
  refine X_istore (pc := 13) [(8, .int (0 : Int32)), (6, .long x2), (4, .long x1), (0, .long a0), (2, .long a1)] dX11_commonDivisor_13 (by decide) rfl ?_
  exact X_lvs [2, 1, 0] rfl (x_H_commonDivisor_L15 hT xF hf)

theorem dX12_tryFrom_0 : decode cX12_tryFrom 0 = .ok (.iload_n 1, 1) := by decide +kernel
theorem dX12_tryFrom_1 : decode cX12_tryFrom 1 = .ok (.iconst 2, 1) := by decide +kernel
theorem dX12_tryFrom_2 : decode cX12_tryFrom 2 = .ok (.aload_n 0, 1) := by decide +kernel
theorem dX12_tryFrom_3 : decode cX12_tryFrom 3 = .ok (.getfield 425, 3) := by decide +kernel
theorem dX12_tryFrom_6 : decode cX12_tryFrom 6 = .ok (.imul, 1) := by decide +kernel
theorem dX12_tryFrom_7 : decode cX12_tryFrom 7 = .ok (.if_icmp .ne 8, 3) := by decide +kernel
theorem dX12_tryFrom_10 : decode cX12_tryFrom 10 = .ok (.aload_n 0, 1) := by decide +kernel
theorem dX12_tryFrom_11 : decode cX12_tryFrom 11 = .ok (.invokevirtual 443, 3) := by decide +kernel
theorem dX12_tryFrom_14 : decode cX12_tryFrom 14 = .ok (.return_, 1) := by decide +kernel
theorem dX12_tryFrom_15 : decode cX12_tryFrom 15 = .ok (.iload_n 1, 1) := by decide +kernel
theorem dX12_tryFrom_16 : decode cX12_tryFrom 16 = .ok (.aload_n 0, 1) := by decide +kernel
theorem dX12_tryFrom_17 : decode cX12_tryFrom 17 = .ok (.getfield 425, 3) := by decide +kernel
theorem dX12_tryFrom_20 : decode cX12_tryFrom 20 = .ok (.if_icmp .lt 7, 3) := by decide +kernel
theorem dX12_tryFrom_23 : decode cX12_tryFrom 23 = .ok (.iconst 1, 1) := by decide +kernel
theorem dX12_tryFrom_24 : decode cX12_tryFrom 24 = .ok (.goto 4, 3) := by decide +kernel
theorem dX12_tryFrom_27 : decode cX12_tryFrom 27 = .ok (.iconst 0, 1) := by decide +kernel
theorem dX12_tryFrom_28 : decode cX12_tryFrom 28 = .ok (.istore_n 2, 1) := by decide +kernel
theorem dX12_tryFrom_29 : decode cX12_tryFrom 29 = .ok (.iload_n 2, 1) := by decide +kernel
theorem dX12_tryFrom_30 : decode cX12_tryFrom 30 = .ok (.ifCond .eq 14, 3) := by decide +kernel
theorem dX12_tryFrom_33 : decode cX12_tryFrom 33 = .ok (.iconst 3, 1) := by decide +kernel
theorem dX12_tryFrom_34 : decode cX12_tryFrom 34 = .ok (.iload_n 1, 1) := by decide +kernel
theorem dX12_tryFrom_35 : decode cX12_tryFrom 35 = .ok (.iadd, 1) := by decide +kernel
theorem dX12_tryFrom_36 : decode cX12_tryFrom 36 = .ok (.aload_n 0, 1) := by decide +kernel
theorem dX12_tryFrom_37 : decode cX12_tryFrom 37 = .ok (.getfield 425, 3) := by decide +kernel
theorem dX12_tryFrom_40 : decode cX12_tryFrom 40 = .ok (.isub, 1) := by decide +kernel
theorem dX12_tryFrom_41 : decode cX12_tryFrom 41 = .ok (.goto 4, 3) := by decide +kernel
theorem dX12_tryFrom_44 : decode cX12_tryFrom 44 = .ok (.iload_n 1, 1) := by decide +kernel
theorem dX12_tryFrom_45 : decode cX12_tryFrom 45 = .ok (.istore_n 3, 1) := by decide +kernel
theorem dX12_tryFrom_46 : decode cX12_tryFrom 46 = .ok (.aload_n 0, 1) := by decide +kernel
theorem dX12_tryFrom_47 : decode cX12_tryFrom 47 = .ok (.getfield 87, 3) := by decide +kernel
theorem dX12_tryFrom_50 : decode cX12_tryFrom 50 = .ok (.iload_n 2, 1) := by decide +kernel
theorem dX12_tryFrom_51 : decode cX12_tryFrom 51 = .ok (.ifCond .eq 7, 3) := by decide +kernel
theorem dX12_tryFrom_54 : decode cX12_tryFrom 54 = .ok (.iconst 2, 1) := by decide +kernel
theorem dX12_tryFrom_55 : decode cX12_tryFrom 55 = .ok (.goto 4, 3) := by decide +kernel
theorem dX12_tryFrom_58 : decode cX12_tryFrom 58 = .ok (.iconst 0, 1) := by decide +kernel
theorem dX12_tryFrom_59 : decode cX12_tryFrom 59 = .ok (.iaload, 1) := by decide +kernel
theorem dX12_tryFrom_60 : decode cX12_tryFrom 60 = .ok (.istore 4, 2) := by decide +kernel
theorem dX12_tryFrom_62 : decode cX12_tryFrom 62 = .ok (.iload_n 3, 1) := by decide +kernel
theorem dX12_tryFrom_63 : decode cX12_tryFrom 63 = .ok (.iconst 3, 1) := by decide +kernel
theorem dX12_tryFrom_64 : decode cX12_tryFrom 64 = .ok (.irem, 1) := by decide +kernel
theorem dX12_tryFrom_65 : decode cX12_tryFrom 65 = .ok (.ifCond .le 19, 3) := by decide +kernel
theorem dX12_tryFrom_68 : decode cX12_tryFrom 68 = .ok (.iload 4, 2) := by decide +kernel
theorem dX12_tryFrom_70 : decode cX12_tryFrom 70 = .ok (.aload_n 0, 1) := by decide +kernel
theorem dX12_tryFrom_71 : decode cX12_tryFrom 71 = .ok (.getfield 93, 3) := by decide +kernel
theorem dX12_tryFrom_74 : decode cX12_tryFrom 74 = .ok (.iload_n 3, 1) := by decide +kernel
theorem dX12_tryFrom_75 : decode cX12_tryFrom 75 = .ok (.iconst 1, 1) := by decide +kernel
theorem dX12_tryFrom_76 : decode cX12_tryFrom 76 = .ok (.isub, 1) := by decide +kernel
theorem dX12_tryFrom_77 : decode cX12_tryFrom 77 = .ok (.iaload, 1) := by decide +kernel
theorem dX12_tryFrom_78 : decode cX12_tryFrom 78 = .ok (.invokestatic 346, 3) := by decide +kernel
theorem dX12_tryFrom_81 : decode cX12_tryFrom 81 = .ok (.goto 5, 3) := by decide +kernel
theorem dX12_tryFrom_84 : decode cX12_tryFrom 84 = .ok (.iload 4, 2) := by decide +kernel
theorem dX12_tryFrom_86 : decode cX12_tryFrom 86 = .ok (.istore 4, 2) := by decide +kernel
theorem dX12_tryFrom_88 : decode cX12_tryFrom 88 = .ok (.iload 4, 2) := by decide +kernel
theorem dX12_tryFrom_90 : decode cX12_tryFrom 90 = .ok (.istore 5, 2) := by decide +kernel
theorem dX12_tryFrom_92 : decode cX12_tryFrom 92 = .ok (.iload 5, 2) := by decide +kernel
theorem dX12_tryFrom_94 : decode cX12_tryFrom 94 = .ok (.aload_n 0, 1) := by decide +kernel
theorem dX12_tryFrom_95 : decode cX12_tryFrom 95 = .ok (.getfield 87, 3) := by decide +kernel
theorem dX12_tryFrom_98 : decode cX12_tryFrom 98 = .ok (.iload_n 2, 1) := by decide +kernel
theorem dX12_tryFrom_99 : decode cX12_tryFrom 99 = .ok (.ifCond .eq 7, 3) := by decide +kernel
theorem dX12_tryFrom_102 : decode cX12_tryFrom 102 = .ok (.iconst 3, 1) := by decide +kernel
theorem dX12_tryFrom_103 : decode cX12_tryFrom 103 = .ok (.goto 4, 3) := by decide +kernel
theorem dX12_tryFrom_106 : decode cX12_tryFrom 106 = .ok (.iconst 1, 1) := by decide +kernel
theorem dX12_tryFrom_107 : decode cX12_tryFrom 107 = .ok (.iaload, 1) := by decide +kernel
theorem dX12_tryFrom_108 : decode cX12_tryFrom 108 = .ok (.if_icmp .gt 24, 3) := by decide +kernel
theorem dX12_tryFrom_111 : decode cX12_tryFrom 111 = .ok (.aload_n 0, 1) := by decide +kernel
theorem dX12_tryFrom_112 : decode cX12_tryFrom 112 = .ok (.getfield 93, 3) := by decide +kernel
theorem dX12_tryFrom_115 : decode cX12_tryFrom 115 = .ok (.iload_n 3, 1) := by decide +kernel
theorem dX12_tryFrom_116 : decode cX12_tryFrom 116 = .ok (.iload 5, 2) := by decide +kernel
theorem dX12_tryFrom_118 : decode cX12_tryFrom 118 = .ok (.iastore, 1) := by decide +kernel
theorem dX12_tryFrom_119 : decode cX12_tryFrom 119 = .ok (.aload_n 0, 1) := by decide +kernel
theorem dX12_tryFrom_120 : decode cX12_tryFrom 120 = .ok (.iload_n 1, 1) := by decide +kernel
theorem dX12_tryFrom_121 : decode cX12_tryFrom 121 = .ok (.iconst 1, 1) := by decide +kernel
theorem dX12_tryFrom_122 : decode cX12_tryFrom 122 = .ok (.iadd, 1) := by decide +kernel
theorem dX12_tryFrom_123 : decode cX12_tryFrom 123 = .ok (.invokevirtual 446, 3) := by decide +kernel
theorem dX12_tryFrom_126 : decode cX12_tryFrom 126 = .ok (.iinc 5 1, 3) := by decide +kernel
theorem dX12_tryFrom_129 : decode cX12_tryFrom 129 = .ok (.goto (-37), 3) := by decide +kernel
theorem dX12_tryFrom_132 : decode cX12_tryFrom 132 = .ok (.return_, 1) := by decide +kernel
def f_Md_tryFrom_L107 (krec : Int32 → (Nat → Nat → Int32) → (Nat → Nat → Int64) → Option ((Nat → Nat → Int32) × (Nat → Nat → Int64))) (k92 : Int32 → Int32 → Int32 → Int32 → (Nat → Nat → Int32) → (Nat → Nat → Int64) → Option ((Nat → Nat → Int32) × (Nat → Nat → Int64))) (l1 : Int32) (l2 : Int32) (l3 : Int32) (l5 : Int32) (s0 : Int32) (s2 : Int32) (I : (Nat → Nat → Int32)) (L : (Nat → Nat → Int64)) : Option ((Nat → Nat → Int32) × (Nat → Nat → Int64)) := (if (0 ≤ s2 ∧ s2 < (4 : Int32)) then (if (I 60 (s2.toNatClampNeg)) < s0 then (some (I, L)) else (if (0 ≤ l3 ∧ l3 < (6 : Int32)) then ((krec (l1 + (1 : Int32)) (uI I 62 (l3.toNatClampNeg) l5) L).bind fun q14 => (k92 l1 l2 l3 (l5 + (1 : Int32)) q14.1 q14.2)) else none)) else none)
set_option maxRecDepth 100000 in
set_option maxHeartbeats 4000000 in
theorem x_Md_tryFrom_L107 {G : xG} {S : List xSh} {Rf : Nat → Nat → Option Nat} (hT : xTM S Rf) {dd d' : Nat} (hdd : 2 ≤ dd) (hd1 : d' + 1 ≤ dd) {krec : Int32 → (Nat → Nat → Int32) → (Nat → Nat → Int64) → Option ((Nat → Nat → Int32) × (Nat → Nat → Int64))} (hrec : ∀ {a0 : Int32} {I : Nat → Nat → Int32} {L : Nat → Nat → Int64} {q : (Nat → Nat → Int32) × (Nat → Nat → Int64)}, krec a0 I L = some q → CT G d' m_Md_tryFrom [.ref (xP G 34), .int a0] (S, I, L, Rf) (none, (S, q.1, q.2, Rf))) {k92 : Int32 → Int32 → Int32 → Int32 → (Nat → Nat → Int32) → (Nat → Nat → Int64) → Option ((Nat → Nat → Int32) × (Nat → Nat → Int64))} (hk92 : ∀ {l1 : Int32} {l2 : Int32} {l3 : Int32} {l5 : Int32} {I : Nat → Nat → Int32} {L : Nat → Nat → Int64} {q : ((Nat → Nat → Int32) × (Nat → Nat → Int64))}, k92 l1 l2 l3 l5 I L = some q → X G dd m_Md_tryFrom 92 [(0, .ref (xP G 34)), (1, .int l1), (2, .int l2), (3, .int l3), (5, .int l5)] [] (S, I, L, Rf) (none, (S, q.1, q.2, Rf))) {l1 : Int32} {l2 : Int32} {l3 : Int32} {l5 : Int32} {s0 : Int32} {s2 : Int32} {I : Nat → Nat → Int32} {L : Nat → Nat → Int64} {q : ((Nat → Nat → Int32) × (Nat → Nat → Int64))} (hf : f_Md_tryFrom_L107 krec k92 l1 l2 l3 l5 s0 s2 I L = some q) : X G dd m_Md_tryFrom 107 [(0, .ref (xP G 34)), (1, .int l1), (2, .int l2), (3, .int l3), (5, .int l5)] [.int s2, .ref (xP G 60), .int s0] (S, I, L, Rf) (none, (S, q.1, q.2, Rf)) := by
  replace hf := (f_Md_tryFrom_L107.eq_1 _ _ _ _ _ _ _ _ _ _).symm.trans hf
  obtain ⟨c11, hf⟩ := gd_some hf
  refine X_ialdj (pc := 107) (j := s2.toNatClampNeg) (I 60 (s2.toNatClampNeg)) (sh_60 hT) (vp_in_lit (N := 4) c11 (by decide)) rfl rfl dX12_tryFrom_107 ?_
  by_cases c12 : (I 60 (s2.toNatClampNeg)) < s0
  · replace hf := (if_pos c12).symm.trans hf
    refine X_icmp_gt_t (pc := 108) 132 dX12_tryFrom_108 (by decide) c12 ?_
    cases hf
    exact X_return (pc := 132) rfl dX12_tryFrom_132
  · replace hf := (if_neg c12).symm.trans hf
    refine X_icmp_gt_f (pc := 108) 132 dX12_tryFrom_108 (by decide) c12 ?_
    refine X_aload_n (pc := 111) (i := 0) 0 dX12_tryFrom_111 rfl rfl ?_
    refine X_getr (pc := 112) (a := 34) (ci := 11) (j := 60) (c := 62) (sh_34 hT) (by decide) k_1288 (rf_34_60 hT) (fun _ h => h) dX12_tryFrom_112 ?_
    refine X_iload_n (pc := 115) (i := 3) 3 dX12_tryFrom_115 rfl rfl ?_
    refine X_iload (pc := 116) 4 dX12_tryFrom_116 rfl ?_
    obtain ⟨c13, hf⟩ := gd_some hf
    refine X_iastj (pc := 118) (j := (l3.toNatClampNeg)) (sh_62 hT) (vp_in_lit (N := 6) c13 (by decide)) rfl dX12_tryFrom_118 ?_
    refine X_aload_n (pc := 119) (i := 0) 0 dX12_tryFrom_119 rfl rfl ?_
    refine X_iload_n (pc := 120) (i := 1) 1 dX12_tryFrom_120 rfl rfl ?_
    refine X_iconst (pc := 121) (1 : Int32) dX12_tryFrom_121 (by decide) ?_
    refine X_iadd (pc := 122) dX12_tryFrom_122 ?_
    obtain ⟨q14, c15, hf⟩ := bd_some hf
    refine X_invV_v (pc := 123) (hrec c15) ok_Md_tryFrom (ci := 11) (sh_34 hT) k_1730 k_1732 k_67 nd_13 (by omega) rfl (Nat.le_of_ble_eq_true rfl) dX12_tryFrom_123 ?_
    refine X_iinc (pc := 126) (i := 5) (q := 4) (v := (l5 + (1 : Int32))) [(5, .int (l5 + (1 : Int32))), (0, .ref (xP G 34)), (1, .int l1), (2, .int l2), (3, .int l3)] dX12_tryFrom_126 rfl rfl (by decide) rfl ?_
    refine X_goto (pc := 129) 92 dX12_tryFrom_129 (by decide) ?_
    exact X_lvs [1, 2, 3, 4, 0] rfl (hk92 hf)
theorem u_Md_tryFrom_L107 {S : List xSh} {krec : Int32 → (Nat → Nat → Int32) → (Nat → Nat → Int64) → Option ((Nat → Nat → Int32) × (Nat → Nat → Int64))} (hrec : ∀ {a0 : Int32} {I : Nat → Nat → Int32} {L : Nat → Nat → Int64} {q : ((Nat → Nat → Int32) × (Nat → Nat → Int64))}, krec a0 I L = some q → FR S [62, 63, 4463] [4465, 4466] I q.1 L q.2) {k92 : Int32 → Int32 → Int32 → Int32 → (Nat → Nat → Int32) → (Nat → Nat → Int64) → Option ((Nat → Nat → Int32) × (Nat → Nat → Int64))} (hk92 : ∀ {l1 : Int32} {l2 : Int32} {l3 : Int32} {l5 : Int32} {I : Nat → Nat → Int32} {L : Nat → Nat → Int64} {q : ((Nat → Nat → Int32) × (Nat → Nat → Int64))}, k92 l1 l2 l3 l5 I L = some q → FR S [62, 63, 4463] [4465, 4466] I q.1 L q.2) {l1 : Int32} {l2 : Int32} {l3 : Int32} {l5 : Int32} {s0 : Int32} {s2 : Int32} {I : Nat → Nat → Int32} {L : Nat → Nat → Int64} {q : ((Nat → Nat → Int32) × (Nat → Nat → Int64))} (hf : f_Md_tryFrom_L107 krec k92 l1 l2 l3 l5 s0 s2 I L = some q) : FR S [62, 63, 4463] [4465, 4466] I q.1 L q.2 := by
  replace hf := (f_Md_tryFrom_L107.eq_1 _ _ _ _ _ _ _ _ _ _).symm.trans hf
  obtain ⟨c11, hf⟩ := gd_some hf
  by_cases c12 : (I 60 (s2.toNatClampNeg)) < s0
  · replace hf := (if_pos c12).symm.trans hf
    cases hf
    exact FR.rf
  · replace hf := (if_neg c12).symm.trans hf
    obtain ⟨c13, hf⟩ := gd_some hf
    obtain ⟨q14, c15, hf⟩ := bd_some hf
    exact FR.tr (FR.tr (FR.ai FR.rf (by decide)) (hrec c15) (by decide) (by decide)) (hk92 hf) (by decide) (by decide)
def f_Md_tryFrom_L92 (krec : Int32 → (Nat → Nat → Int32) → (Nat → Nat → Int64) → Option ((Nat → Nat → Int32) × (Nat → Nat → Int64))) : Nat → Int32 → Int32 → Int32 → Int32 → (Nat → Nat → Int32) → (Nat → Nat → Int64) → Option ((Nat → Nat → Int32) × (Nat → Nat → Int64))
  | 0, _, _, _, _, _, _ => none
  | n + 1, l1, l2, l3, l5, I, L => (if l2 = (0 : Int32) then (f_Md_tryFrom_L107 krec (f_Md_tryFrom_L92 krec n) l1 l2 l3 l5 l5 (1 : Int32) I L) else (f_Md_tryFrom_L107 krec (f_Md_tryFrom_L92 krec n) l1 l2 l3 l5 l5 (3 : Int32) I L))
set_option maxRecDepth 100000 in
set_option maxHeartbeats 4000000 in
theorem x_Md_tryFrom_L92 {G : xG} {S : List xSh} {Rf : Nat → Nat → Option Nat} (hT : xTM S Rf) {dd d' : Nat} (hdd : 2 ≤ dd) (hd1 : d' + 1 ≤ dd) {krec : Int32 → (Nat → Nat → Int32) → (Nat → Nat → Int64) → Option ((Nat → Nat → Int32) × (Nat → Nat → Int64))} (hrec : ∀ {a0 : Int32} {I : Nat → Nat → Int32} {L : Nat → Nat → Int64} {q : (Nat → Nat → Int32) × (Nat → Nat → Int64)}, krec a0 I L = some q → CT G d' m_Md_tryFrom [.ref (xP G 34), .int a0] (S, I, L, Rf) (none, (S, q.1, q.2, Rf))) : ∀ (n : Nat) {l1 : Int32} {l2 : Int32} {l3 : Int32} {l5 : Int32} {I : Nat → Nat → Int32} {L : Nat → Nat → Int64} {q : ((Nat → Nat → Int32) × (Nat → Nat → Int64))}, f_Md_tryFrom_L92 krec n l1 l2 l3 l5 I L = some q → X G dd m_Md_tryFrom 92 [(0, .ref (xP G 34)), (1, .int l1), (2, .int l2), (3, .int l3), (5, .int l5)] [] (S, I, L, Rf) (none, (S, q.1, q.2, Rf)) := by
  intro n
  induction n with
  | zero =>
    intro l1 l2 l3 l5 I L q hf
    exact absurd (show none = some q from hf) (by simp)
  | succ n ih =>
    intro l1 l2 l3 l5 I L q hf
    replace hf := (f_Md_tryFrom_L92.eq_2 _ _ _ _ _ _ _ _).symm.trans hf
    refine X_iload (pc := 92) 4 dX12_tryFrom_92 rfl ?_
    refine X_aload_n (pc := 94) (i := 0) 0 dX12_tryFrom_94 rfl rfl ?_
    refine X_getr (pc := 95) (a := 34) (ci := 11) (j := 53) (c := 60) (sh_34 hT) (by decide) k_1281 (rf_34_53 hT) (fun _ h => h) dX12_tryFrom_95 ?_
    refine X_iload_n (pc := 98) (i := 2) 2 dX12_tryFrom_98 rfl rfl ?_
    by_cases c10 : l2 = (0 : Int32)
    · replace hf := (if_pos c10).symm.trans hf
      refine X_if_eq_t (pc := 99) 106 dX12_tryFrom_99 (by decide) c10 ?_
      refine X_iconst (pc := 106) (1 : Int32) dX12_tryFrom_106 (by decide) ?_
      exact X_lvs [0, 1, 2, 3, 4] rfl (x_Md_tryFrom_L107 hT hdd hd1 hrec ih hf)
    · replace hf := (if_neg c10).symm.trans hf
      refine X_if_eq_f (pc := 99) 106 dX12_tryFrom_99 (by decide) c10 ?_
      refine X_iconst (pc := 102) (3 : Int32) dX12_tryFrom_102 (by decide) ?_
      refine X_goto (pc := 103) 107 dX12_tryFrom_103 (by decide) ?_
      exact X_lvs [0, 1, 2, 3, 4] rfl (x_Md_tryFrom_L107 hT hdd hd1 hrec ih hf)
theorem u_Md_tryFrom_L92 {S : List xSh} {krec : Int32 → (Nat → Nat → Int32) → (Nat → Nat → Int64) → Option ((Nat → Nat → Int32) × (Nat → Nat → Int64))} (hrec : ∀ {a0 : Int32} {I : Nat → Nat → Int32} {L : Nat → Nat → Int64} {q : ((Nat → Nat → Int32) × (Nat → Nat → Int64))}, krec a0 I L = some q → FR S [62, 63, 4463] [4465, 4466] I q.1 L q.2) : ∀ (n : Nat) {l1 : Int32} {l2 : Int32} {l3 : Int32} {l5 : Int32} {I : Nat → Nat → Int32} {L : Nat → Nat → Int64} {q : ((Nat → Nat → Int32) × (Nat → Nat → Int64))}, f_Md_tryFrom_L92 krec n l1 l2 l3 l5 I L = some q → FR S [62, 63, 4463] [4465, 4466] I q.1 L q.2 := by
  intro n
  induction n with
  | zero =>
    intro l1 l2 l3 l5 I L q hf
    exact absurd (show none = some q from hf) (by simp)
  | succ n ih =>
    intro l1 l2 l3 l5 I L q hf
    replace hf := (f_Md_tryFrom_L92.eq_2 _ _ _ _ _ _ _ _).symm.trans hf
    by_cases c10 : l2 = (0 : Int32)
    · replace hf := (if_pos c10).symm.trans hf
      exact FR.tr FR.rf (u_Md_tryFrom_L107 hrec ih hf) (by decide) (by decide)
    · replace hf := (if_neg c10).symm.trans hf
      exact FR.tr FR.rf (u_Md_tryFrom_L107 hrec ih hf) (by decide) (by decide)
def f_Md_tryFrom_L59 (krec : Int32 → (Nat → Nat → Int32) → (Nat → Nat → Int64) → Option ((Nat → Nat → Int32) × (Nat → Nat → Int64))) (l1 : Int32) (l2 : Int32) (l3 : Int32) (s1 : Int32) (I : (Nat → Nat → Int32)) (L : (Nat → Nat → Int64)) : Option ((Nat → Nat → Int32) × (Nat → Nat → Int64)) := (if (0 ≤ s1 ∧ s1 < (4 : Int32)) then (bnd (I 60 (s1.toNatClampNeg)) fun x8 => (if (irem l3 (3 : Int32)) ≤ (0 : Int32) then (f_Md_tryFrom_L92 krec xF l1 l2 l3 x8 I L) else (if (0 ≤ (l3 - (1 : Int32)) ∧ (l3 - (1 : Int32)) < (6 : Int32)) then (bnd (jmax x8 (I 62 ((l3 - (1 : Int32)).toNatClampNeg))) fun x17 => (f_Md_tryFrom_L92 krec xF l1 l2 l3 x17 I L)) else none))) else none)
set_option maxRecDepth 100000 in
set_option maxHeartbeats 4000000 in
theorem x_Md_tryFrom_L59 {G : xG} {S : List xSh} {Rf : Nat → Nat → Option Nat} (hT : xTM S Rf) {dd d' : Nat} (hdd : 2 ≤ dd) (hd1 : d' + 1 ≤ dd) {krec : Int32 → (Nat → Nat → Int32) → (Nat → Nat → Int64) → Option ((Nat → Nat → Int32) × (Nat → Nat → Int64))} (hrec : ∀ {a0 : Int32} {I : Nat → Nat → Int32} {L : Nat → Nat → Int64} {q : (Nat → Nat → Int32) × (Nat → Nat → Int64)}, krec a0 I L = some q → CT G d' m_Md_tryFrom [.ref (xP G 34), .int a0] (S, I, L, Rf) (none, (S, q.1, q.2, Rf))) {l1 : Int32} {l2 : Int32} {l3 : Int32} {s1 : Int32} {I : Nat → Nat → Int32} {L : Nat → Nat → Int64} {q : ((Nat → Nat → Int32) × (Nat → Nat → Int64))} (hf : f_Md_tryFrom_L59 krec l1 l2 l3 s1 I L = some q) : X G dd m_Md_tryFrom 59 [(0, .ref (xP G 34)), (1, .int l1), (2, .int l2), (3, .int l3)] [.int s1, .ref (xP G 60)] (S, I, L, Rf) (none, (S, q.1, q.2, Rf)) := by
  replace hf := (f_Md_tryFrom_L59.eq_1 _ _ _ _ _ _ _).symm.trans hf
  obtain ⟨c7, hf⟩ := gd_some hf
  refine X_ialdj (pc := 59) (j := s1.toNatClampNeg) (I 60 (s1.toNatClampNeg)) (sh_60 hT) (vp_in_lit (N := 4) c7 (by decide)) rfl rfl dX12_tryFrom_59 ?_
  obtain ⟨x8, ex8, hf⟩ := bnd_e hf
  refine X_tope ex8 ?_
  refine X_istore (pc := 60) [(4, .int x8), (0, .ref (xP G 34)), (1, .int l1), (2, .int l2), (3, .int l3)] dX12_tryFrom_60 (by decide) rfl ?_
  refine X_iload_n (pc := 62) (i := 3) 4 dX12_tryFrom_62 rfl rfl ?_
  refine X_iconst (pc := 63) (3 : Int32) dX12_tryFrom_63 (by decide) ?_
  refine X_irem (pc := 64) dX12_tryFrom_64 (by decide) ?_
  by_cases c9 : (irem l3 (3 : Int32)) ≤ (0 : Int32)
  · replace hf := (if_pos c9).symm.trans hf
    refine X_if_le_t (pc := 65) 84 dX12_tryFrom_65 (by decide) c9 ?_
    refine X_iload (pc := 84) 0 dX12_tryFrom_84 rfl ?_
    refine X_istore (pc := 86) [(4, .int x8), (0, .ref (xP G 34)), (1, .int l1), (2, .int l2), (3, .int l3)] dX12_tryFrom_86 (by decide) rfl ?_
    refine X_iload (pc := 88) 0 dX12_tryFrom_88 rfl ?_
    refine X_istore (pc := 90) [(5, .int x8), (4, .int x8), (0, .ref (xP G 34)), (1, .int l1), (2, .int l2), (3, .int l3)] dX12_tryFrom_90 (by decide) rfl ?_
    exact X_lvs [2, 3, 4, 5, 0] rfl (x_Md_tryFrom_L92 hT hdd hd1 hrec xF hf)
  · replace hf := (if_neg c9).symm.trans hf
    refine X_if_le_f (pc := 65) 84 dX12_tryFrom_65 (by decide) c9 ?_
    refine X_iload (pc := 68) 0 dX12_tryFrom_68 rfl ?_
    refine X_aload_n (pc := 70) (i := 0) 1 dX12_tryFrom_70 rfl rfl ?_
    refine X_getr (pc := 71) (a := 34) (ci := 11) (j := 60) (c := 62) (sh_34 hT) (by decide) k_1288 (rf_34_60 hT) (fun _ h => h) dX12_tryFrom_71 ?_
    refine X_iload_n (pc := 74) (i := 3) 4 dX12_tryFrom_74 rfl rfl ?_
    refine X_iconst (pc := 75) (1 : Int32) dX12_tryFrom_75 (by decide) ?_
    refine X_isub (pc := 76) dX12_tryFrom_76 ?_
    obtain ⟨c16, hf⟩ := gd_some hf
    refine X_ialdj (pc := 77) (j := (l3 - (1 : Int32)).toNatClampNeg) (I 62 ((l3 - (1 : Int32)).toNatClampNeg)) (sh_62 hT) (vp_in_lit (N := 6) c16 (by decide)) rfl rfl dX12_tryFrom_77 ?_
    refine X_jmax (pc := 78) k_1594 (by omega) (Nat.le_of_ble_eq_true rfl) dX12_tryFrom_78 ?_
    obtain ⟨x17, ex17, hf⟩ := bnd_e hf
    refine X_tope ex17 ?_
    refine X_goto (pc := 81) 86 dX12_tryFrom_81 (by decide) ?_
    refine X_istore (pc := 86) [(4, .int x17), (0, .ref (xP G 34)), (1, .int l1), (2, .int l2), (3, .int l3)] dX12_tryFrom_86 (by decide) rfl ?_
    refine X_iload (pc := 88) 0 dX12_tryFrom_88 rfl ?_
    refine X_istore (pc := 90) [(5, .int x17), (4, .int x17), (0, .ref (xP G 34)), (1, .int l1), (2, .int l2), (3, .int l3)] dX12_tryFrom_90 (by decide) rfl ?_
    exact X_lvs [2, 3, 4, 5, 0] rfl (x_Md_tryFrom_L92 hT hdd hd1 hrec xF hf)
theorem u_Md_tryFrom_L59 {S : List xSh} {krec : Int32 → (Nat → Nat → Int32) → (Nat → Nat → Int64) → Option ((Nat → Nat → Int32) × (Nat → Nat → Int64))} (hrec : ∀ {a0 : Int32} {I : Nat → Nat → Int32} {L : Nat → Nat → Int64} {q : ((Nat → Nat → Int32) × (Nat → Nat → Int64))}, krec a0 I L = some q → FR S [62, 63, 4463] [4465, 4466] I q.1 L q.2) {l1 : Int32} {l2 : Int32} {l3 : Int32} {s1 : Int32} {I : Nat → Nat → Int32} {L : Nat → Nat → Int64} {q : ((Nat → Nat → Int32) × (Nat → Nat → Int64))} (hf : f_Md_tryFrom_L59 krec l1 l2 l3 s1 I L = some q) : FR S [62, 63, 4463] [4465, 4466] I q.1 L q.2 := by
  replace hf := (f_Md_tryFrom_L59.eq_1 _ _ _ _ _ _ _).symm.trans hf
  obtain ⟨c7, hf⟩ := gd_some hf
  obtain ⟨x8, ex8, hf⟩ := bnd_e hf
  by_cases c9 : (irem l3 (3 : Int32)) ≤ (0 : Int32)
  · replace hf := (if_pos c9).symm.trans hf
    exact FR.tr FR.rf (u_Md_tryFrom_L92 hrec xF hf) (by decide) (by decide)
  · replace hf := (if_neg c9).symm.trans hf
    obtain ⟨c16, hf⟩ := gd_some hf
    obtain ⟨x17, ex17, hf⟩ := bnd_e hf
    exact FR.tr FR.rf (u_Md_tryFrom_L92 hrec xF hf) (by decide) (by decide)
def f_Md_tryFrom_L45 (krec : Int32 → (Nat → Nat → Int32) → (Nat → Nat → Int64) → Option ((Nat → Nat → Int32) × (Nat → Nat → Int64))) (l1 : Int32) (l2 : Int32) (s0 : Int32) (I : (Nat → Nat → Int32)) (L : (Nat → Nat → Int64)) : Option ((Nat → Nat → Int32) × (Nat → Nat → Int64)) := (if l2 = (0 : Int32) then (f_Md_tryFrom_L59 krec l1 l2 s0 (0 : Int32) I L) else (f_Md_tryFrom_L59 krec l1 l2 s0 (2 : Int32) I L))
set_option maxRecDepth 100000 in
set_option maxHeartbeats 4000000 in
theorem x_Md_tryFrom_L45 {G : xG} {S : List xSh} {Rf : Nat → Nat → Option Nat} (hT : xTM S Rf) {dd d' : Nat} (hdd : 2 ≤ dd) (hd1 : d' + 1 ≤ dd) {krec : Int32 → (Nat → Nat → Int32) → (Nat → Nat → Int64) → Option ((Nat → Nat → Int32) × (Nat → Nat → Int64))} (hrec : ∀ {a0 : Int32} {I : Nat → Nat → Int32} {L : Nat → Nat → Int64} {q : (Nat → Nat → Int32) × (Nat → Nat → Int64)}, krec a0 I L = some q → CT G d' m_Md_tryFrom [.ref (xP G 34), .int a0] (S, I, L, Rf) (none, (S, q.1, q.2, Rf))) {l1 : Int32} {l2 : Int32} {s0 : Int32} {I : Nat → Nat → Int32} {L : Nat → Nat → Int64} {q : ((Nat → Nat → Int32) × (Nat → Nat → Int64))} (hf : f_Md_tryFrom_L45 krec l1 l2 s0 I L = some q) : X G dd m_Md_tryFrom 45 [(0, .ref (xP G 34)), (1, .int l1), (2, .int l2)] [.int s0] (S, I, L, Rf) (none, (S, q.1, q.2, Rf)) := by
  replace hf := (f_Md_tryFrom_L45.eq_1 _ _ _ _ _ _).symm.trans hf
  refine X_istore_n (pc := 45) (i := 3) [(3, .int s0), (0, .ref (xP G 34)), (1, .int l1), (2, .int l2)] dX12_tryFrom_45 rfl (by decide) rfl ?_
  refine X_aload_n (pc := 46) (i := 0) 1 dX12_tryFrom_46 rfl rfl ?_
  refine X_getr (pc := 47) (a := 34) (ci := 11) (j := 53) (c := 60) (sh_34 hT) (by decide) k_1281 (rf_34_53 hT) (fun _ h => h) dX12_tryFrom_47 ?_
  refine X_iload_n (pc := 50) (i := 2) 3 dX12_tryFrom_50 rfl rfl ?_
  by_cases c6 : l2 = (0 : Int32)
  · replace hf := (if_pos c6).symm.trans hf
    refine X_if_eq_t (pc := 51) 58 dX12_tryFrom_51 (by decide) c6 ?_
    refine X_iconst (pc := 58) (0 : Int32) dX12_tryFrom_58 (by decide) ?_
    exact X_lvs [1, 2, 3, 0] rfl (x_Md_tryFrom_L59 hT hdd hd1 hrec hf)
  · replace hf := (if_neg c6).symm.trans hf
    refine X_if_eq_f (pc := 51) 58 dX12_tryFrom_51 (by decide) c6 ?_
    refine X_iconst (pc := 54) (2 : Int32) dX12_tryFrom_54 (by decide) ?_
    refine X_goto (pc := 55) 59 dX12_tryFrom_55 (by decide) ?_
    exact X_lvs [1, 2, 3, 0] rfl (x_Md_tryFrom_L59 hT hdd hd1 hrec hf)
theorem u_Md_tryFrom_L45 {S : List xSh} {krec : Int32 → (Nat → Nat → Int32) → (Nat → Nat → Int64) → Option ((Nat → Nat → Int32) × (Nat → Nat → Int64))} (hrec : ∀ {a0 : Int32} {I : Nat → Nat → Int32} {L : Nat → Nat → Int64} {q : ((Nat → Nat → Int32) × (Nat → Nat → Int64))}, krec a0 I L = some q → FR S [62, 63, 4463] [4465, 4466] I q.1 L q.2) {l1 : Int32} {l2 : Int32} {s0 : Int32} {I : Nat → Nat → Int32} {L : Nat → Nat → Int64} {q : ((Nat → Nat → Int32) × (Nat → Nat → Int64))} (hf : f_Md_tryFrom_L45 krec l1 l2 s0 I L = some q) : FR S [62, 63, 4463] [4465, 4466] I q.1 L q.2 := by
  replace hf := (f_Md_tryFrom_L45.eq_1 _ _ _ _ _ _).symm.trans hf
  by_cases c6 : l2 = (0 : Int32)
  · replace hf := (if_pos c6).symm.trans hf
    exact FR.tr FR.rf (u_Md_tryFrom_L59 hrec hf) (by decide) (by decide)
  · replace hf := (if_neg c6).symm.trans hf
    exact FR.tr FR.rf (u_Md_tryFrom_L59 hrec hf) (by decide) (by decide)
def f_Md_tryFrom_L28 (krec : Int32 → (Nat → Nat → Int32) → (Nat → Nat → Int64) → Option ((Nat → Nat → Int32) × (Nat → Nat → Int64))) (l1 : Int32) (s0 : Int32) (I : (Nat → Nat → Int32)) (L : (Nat → Nat → Int64)) : Option ((Nat → Nat → Int32) × (Nat → Nat → Int64)) := (if s0 = (0 : Int32) then (f_Md_tryFrom_L45 krec l1 s0 l1 I L) else (f_Md_tryFrom_L45 krec l1 s0 (((3 : Int32) + l1) - (I 34 59)) I L))
set_option maxRecDepth 100000 in
set_option maxHeartbeats 4000000 in
theorem x_Md_tryFrom_L28 {G : xG} {S : List xSh} {Rf : Nat → Nat → Option Nat} (hT : xTM S Rf) {dd d' : Nat} (hdd : 2 ≤ dd) (hd1 : d' + 1 ≤ dd) {krec : Int32 → (Nat → Nat → Int32) → (Nat → Nat → Int64) → Option ((Nat → Nat → Int32) × (Nat → Nat → Int64))} (hrec : ∀ {a0 : Int32} {I : Nat → Nat → Int32} {L : Nat → Nat → Int64} {q : (Nat → Nat → Int32) × (Nat → Nat → Int64)}, krec a0 I L = some q → CT G d' m_Md_tryFrom [.ref (xP G 34), .int a0] (S, I, L, Rf) (none, (S, q.1, q.2, Rf))) {l1 : Int32} {s0 : Int32} {I : Nat → Nat → Int32} {L : Nat → Nat → Int64} {q : ((Nat → Nat → Int32) × (Nat → Nat → Int64))} (hf : f_Md_tryFrom_L28 krec l1 s0 I L = some q) : X G dd m_Md_tryFrom 28 [(0, .ref (xP G 34)), (1, .int l1)] [.int s0] (S, I, L, Rf) (none, (S, q.1, q.2, Rf)) := by
  replace hf := (f_Md_tryFrom_L28.eq_1 _ _ _ _ _).symm.trans hf
  refine X_istore_n (pc := 28) (i := 2) [(2, .int s0), (0, .ref (xP G 34)), (1, .int l1)] dX12_tryFrom_28 rfl (by decide) rfl ?_
  refine X_iload_n (pc := 29) (i := 2) 0 dX12_tryFrom_29 rfl rfl ?_
  by_cases c5 : s0 = (0 : Int32)
  · replace hf := (if_pos c5).symm.trans hf
    refine X_if_eq_t (pc := 30) 44 dX12_tryFrom_30 (by decide) c5 ?_
    refine X_iload_n (pc := 44) (i := 1) 2 dX12_tryFrom_44 rfl rfl ?_
    exact X_lvs [1, 2, 0] rfl (x_Md_tryFrom_L45 hT hdd hd1 hrec hf)
  · replace hf := (if_neg c5).symm.trans hf
    refine X_if_eq_f (pc := 30) 44 dX12_tryFrom_30 (by decide) c5 ?_
    refine X_iconst (pc := 33) (3 : Int32) dX12_tryFrom_33 (by decide) ?_
    refine X_iload_n (pc := 34) (i := 1) 2 dX12_tryFrom_34 rfl rfl ?_
    refine X_iadd (pc := 35) dX12_tryFrom_35 ?_
    refine X_aload_n (pc := 36) (i := 0) 1 dX12_tryFrom_36 rfl rfl ?_
    refine X_get (pc := 37) (a := 34) (ci := 11) (j := 59) (.int (I 34 59)) (sh_34 hT) (by decide) k_1287 rfl dX12_tryFrom_37 ?_
    refine X_isub (pc := 40) dX12_tryFrom_40 ?_
    refine X_goto (pc := 41) 45 dX12_tryFrom_41 (by decide) ?_
    exact X_lvs [1, 2, 0] rfl (x_Md_tryFrom_L45 hT hdd hd1 hrec hf)
theorem u_Md_tryFrom_L28 {S : List xSh} {krec : Int32 → (Nat → Nat → Int32) → (Nat → Nat → Int64) → Option ((Nat → Nat → Int32) × (Nat → Nat → Int64))} (hrec : ∀ {a0 : Int32} {I : Nat → Nat → Int32} {L : Nat → Nat → Int64} {q : ((Nat → Nat → Int32) × (Nat → Nat → Int64))}, krec a0 I L = some q → FR S [62, 63, 4463] [4465, 4466] I q.1 L q.2) {l1 : Int32} {s0 : Int32} {I : Nat → Nat → Int32} {L : Nat → Nat → Int64} {q : ((Nat → Nat → Int32) × (Nat → Nat → Int64))} (hf : f_Md_tryFrom_L28 krec l1 s0 I L = some q) : FR S [62, 63, 4463] [4465, 4466] I q.1 L q.2 := by
  replace hf := (f_Md_tryFrom_L28.eq_1 _ _ _ _ _).symm.trans hf
  by_cases c5 : s0 = (0 : Int32)
  · replace hf := (if_pos c5).symm.trans hf
    exact FR.tr FR.rf (u_Md_tryFrom_L45 hrec hf) (by decide) (by decide)
  · replace hf := (if_neg c5).symm.trans hf
    exact FR.tr FR.rf (u_Md_tryFrom_L45 hrec hf) (by decide) (by decide)
def f_Md_tryFrom : Nat → Int32 → (Nat → Nat → Int32) → (Nat → Nat → Int64) → Option ((Nat → Nat → Int32) × (Nat → Nat → Int64))
  | 0, _, _, _ => none
  | n + 1, a0, I, L => (if a0 = ((2 : Int32) * (I 34 59)) then ((f_Md_weigh I L).bind fun q2 => (some (q2.1, q2.2))) else (if a0 < (I 34 59) then (f_Md_tryFrom_L28 (f_Md_tryFrom n) a0 (0 : Int32) I L) else (f_Md_tryFrom_L28 (f_Md_tryFrom n) a0 (1 : Int32) I L)))
set_option maxRecDepth 100000 in
set_option maxHeartbeats 4000000 in
theorem c_Md_tryFrom {G : xG} {S : List xSh} {Rf : Nat → Nat → Option Nat} (hT : xTM S Rf) : ∀ (n : Nat) {a0 : Int32} {I : Nat → Nat → Int32} {L : Nat → Nat → Int64} {q : ((Nat → Nat → Int32) × (Nat → Nat → Int64))}, f_Md_tryFrom n a0 I L = some q → CT G (2 + n) m_Md_tryFrom [.ref (xP G 34), .int a0] (S, I, L, Rf) (none, (S, q.1, q.2, Rf)) := by
  intro n
  induction n with
  | zero =>
    intro a0 I L q hf
    exact absurd (show none = some q from hf) (by simp)
  | succ n ih =>
    intro a0 I L q hf
    refine CT.of (by decide +kernel) (Nat.le_of_ble_eq_true rfl) ?_
    show X G (2 + (n + 1)) m_Md_tryFrom 0 [(0, .ref (xP G 34)), (1, .int a0)] [] (S, I, L, Rf) (none, (S, q.1, q.2, Rf))
    replace hf := (f_Md_tryFrom.eq_2 _ _ _ _).symm.trans hf
    refine X_iload_n (pc := 0) (i := 1) 1 dX12_tryFrom_0 rfl rfl ?_
    refine X_iconst (pc := 1) (2 : Int32) dX12_tryFrom_1 (by decide) ?_
    refine X_aload_n (pc := 2) (i := 0) 0 dX12_tryFrom_2 rfl rfl ?_
    refine X_get (pc := 3) (a := 34) (ci := 11) (j := 59) (.int (I 34 59)) (sh_34 hT) (by decide) k_1287 rfl dX12_tryFrom_3 ?_
    refine X_imul (pc := 6) dX12_tryFrom_6 ?_
    by_cases c1 : a0 = ((2 : Int32) * (I 34 59))
    · replace hf := (if_pos c1).symm.trans hf
      refine X_icmp_ne_f (pc := 7) 15 dX12_tryFrom_7 (by decide) c1 ?_
      refine X_aload_n (pc := 10) (i := 0) 0 dX12_tryFrom_10 rfl rfl ?_
      obtain ⟨q2, c3, hf⟩ := bd_some hf
      refine X_invV_v (pc := 11) (c_Md_weigh hT c3) ok_Md_weigh (ci := 11) (sh_34 hT) k_1734 k_1736 k_68 nd_1 (by omega) rfl (Nat.le_of_ble_eq_true rfl) dX12_tryFrom_11 ?_
      cases hf
      exact X_return (pc := 14) rfl dX12_tryFrom_14
    · replace hf := (if_neg c1).symm.trans hf
      refine X_icmp_ne_t (pc := 7) 15 dX12_tryFrom_7 (by decide) c1 ?_
      refine X_iload_n (pc := 15) (i := 1) 1 dX12_tryFrom_15 rfl rfl ?_
      refine X_aload_n (pc := 16) (i := 0) 0 dX12_tryFrom_16 rfl rfl ?_
      refine X_get (pc := 17) (a := 34) (ci := 11) (j := 59) (.int (I 34 59)) (sh_34 hT) (by decide) k_1287 rfl dX12_tryFrom_17 ?_
      by_cases c4 : a0 < (I 34 59)
      · replace hf := (if_pos c4).symm.trans hf
        refine X_icmp_lt_t (pc := 20) 27 dX12_tryFrom_20 (by decide) c4 ?_
        refine X_iconst (pc := 27) (0 : Int32) dX12_tryFrom_27 (by decide) ?_
        exact X_lvs [0, 1] rfl (x_Md_tryFrom_L28 hT (dd := 2 + (n + 1)) (by omega) (by omega) (fun h => ih h) hf)
      · replace hf := (if_neg c4).symm.trans hf
        refine X_icmp_lt_f (pc := 20) 27 dX12_tryFrom_20 (by decide) c4 ?_
        refine X_iconst (pc := 23) (1 : Int32) dX12_tryFrom_23 (by decide) ?_
        refine X_goto (pc := 24) 28 dX12_tryFrom_24 (by decide) ?_
        exact X_lvs [0, 1] rfl (x_Md_tryFrom_L28 hT (dd := 2 + (n + 1)) (by omega) (by omega) (fun h => ih h) hf)
theorem u_Md_tryFrom {S : List xSh} : ∀ (n : Nat) {a0 : Int32} {I : Nat → Nat → Int32} {L : Nat → Nat → Int64} {q : ((Nat → Nat → Int32) × (Nat → Nat → Int64))}, f_Md_tryFrom n a0 I L = some q → FR S [62, 63, 4463] [4465, 4466] I q.1 L q.2 := by
  intro n
  induction n with
  | zero =>
    intro a0 I L q hf
    exact absurd (show none = some q from hf) (by simp)
  | succ n ih =>
    intro a0 I L q hf
    replace hf := (f_Md_tryFrom.eq_2 _ _ _ _).symm.trans hf
    by_cases c1 : a0 = ((2 : Int32) * (I 34 59))
    · replace hf := (if_pos c1).symm.trans hf
      obtain ⟨q2, c3, hf⟩ := bd_some hf
      cases hf
      exact (FR.tr FR.rf (u_Md_weigh (q := q2) c3) (by decide) (by decide))
    · replace hf := (if_neg c1).symm.trans hf
      by_cases c4 : a0 < (I 34 59)
      · replace hf := (if_pos c4).symm.trans hf
        exact FR.tr FR.rf (u_Md_tryFrom_L28 (fun h => ih h) hf) (by decide) (by decide)
      · replace hf := (if_neg c4).symm.trans hf
        exact FR.tr FR.rf (u_Md_tryFrom_L28 (fun h => ih h) hf) (by decide) (by decide)
theorem dX12_search_0 : decode cX12_search 0 = .ok (.iload_n 1, 1) := by decide +kernel
theorem dX12_search_1 : decode cX12_search 1 = .ok (.i2l, 1) := by decide +kernel
theorem dX12_search_2 : decode cX12_search 2 = .ok (.lconst 1, 1) := by decide +kernel
theorem dX12_search_3 : decode cX12_search 3 = .ok (.ldc2_w 389, 3) := by decide +kernel
theorem dX12_search_6 : decode cX12_search 6 = .ok (.invokestatic 140, 3) := by decide +kernel
theorem dX12_search_9 : decode cX12_search 9 = .ok (.ifCond .eq 27, 3) := by decide +kernel
theorem dX12_search_12 : decode cX12_search 12 = .ok (.iload_n 2, 1) := by decide +kernel
theorem dX12_search_13 : decode cX12_search 13 = .ok (.i2l, 1) := by decide +kernel
theorem dX12_search_14 : decode cX12_search 14 = .ok (.lconst 1, 1) := by decide +kernel
theorem dX12_search_15 : decode cX12_search 15 = .ok (.ldc2_w 389, 3) := by decide +kernel
theorem dX12_search_18 : decode cX12_search 18 = .ok (.invokestatic 140, 3) := by decide +kernel
theorem dX12_search_21 : decode cX12_search 21 = .ok (.ifCond .eq 15, 3) := by decide +kernel
theorem dX12_search_24 : decode cX12_search 24 = .ok (.iload_n 3, 1) := by decide +kernel
theorem dX12_search_25 : decode cX12_search 25 = .ok (.i2l, 1) := by decide +kernel
theorem dX12_search_26 : decode cX12_search 26 = .ok (.lconst 1, 1) := by decide +kernel
theorem dX12_search_27 : decode cX12_search 27 = .ok (.ldc2_w 259, 3) := by decide +kernel
theorem dX12_search_30 : decode cX12_search 30 = .ok (.invokestatic 140, 3) := by decide +kernel
theorem dX12_search_33 : decode cX12_search 33 = .ok (.ifCond .ne 5, 3) := by decide +kernel
theorem dX12_search_36 : decode cX12_search 36 = .ok (.iconst (-1), 1) := by decide +kernel
theorem dX12_search_37 : decode cX12_search 37 = .ok (.ireturn, 1) := by decide +kernel
theorem dX12_search_38 : decode cX12_search 38 = .ok (.aload_n 0, 1) := by decide +kernel
theorem dX12_search_39 : decode cX12_search 39 = .ok (.getfield 87, 3) := by decide +kernel
theorem dX12_search_42 : decode cX12_search 42 = .ok (.iconst 1, 1) := by decide +kernel
theorem dX12_search_43 : decode cX12_search 43 = .ok (.iaload, 1) := by decide +kernel
theorem dX12_search_44 : decode cX12_search 44 = .ok (.aload_n 0, 1) := by decide +kernel
theorem dX12_search_45 : decode cX12_search 45 = .ok (.getfield 87, 3) := by decide +kernel
theorem dX12_search_48 : decode cX12_search 48 = .ok (.iconst 0, 1) := by decide +kernel
theorem dX12_search_49 : decode cX12_search 49 = .ok (.iaload, 1) := by decide +kernel
theorem dX12_search_50 : decode cX12_search 50 = .ok (.isub, 1) := by decide +kernel
theorem dX12_search_51 : decode cX12_search 51 = .ok (.iconst 1, 1) := by decide +kernel
theorem dX12_search_52 : decode cX12_search 52 = .ok (.iadd, 1) := by decide +kernel
theorem dX12_search_53 : decode cX12_search 53 = .ok (.i2l, 1) := by decide +kernel
theorem dX12_search_54 : decode cX12_search 54 = .ok (.iload_n 3, 1) := by decide +kernel
theorem dX12_search_55 : decode cX12_search 55 = .ok (.invokestatic 449, 3) := by decide +kernel
theorem dX12_search_58 : decode cX12_search 58 = .ok (.aload_n 0, 1) := by decide +kernel
theorem dX12_search_59 : decode cX12_search 59 = .ok (.getfield 87, 3) := by decide +kernel
theorem dX12_search_62 : decode cX12_search 62 = .ok (.iconst 3, 1) := by decide +kernel
theorem dX12_search_63 : decode cX12_search 63 = .ok (.iaload, 1) := by decide +kernel
theorem dX12_search_64 : decode cX12_search 64 = .ok (.aload_n 0, 1) := by decide +kernel
theorem dX12_search_65 : decode cX12_search 65 = .ok (.getfield 87, 3) := by decide +kernel
theorem dX12_search_68 : decode cX12_search 68 = .ok (.iconst 2, 1) := by decide +kernel
theorem dX12_search_69 : decode cX12_search 69 = .ok (.iaload, 1) := by decide +kernel
theorem dX12_search_70 : decode cX12_search 70 = .ok (.isub, 1) := by decide +kernel
theorem dX12_search_71 : decode cX12_search 71 = .ok (.iconst 1, 1) := by decide +kernel
theorem dX12_search_72 : decode cX12_search 72 = .ok (.iadd, 1) := by decide +kernel
theorem dX12_search_73 : decode cX12_search 73 = .ok (.i2l, 1) := by decide +kernel
theorem dX12_search_74 : decode cX12_search 74 = .ok (.iload_n 3, 1) := by decide +kernel
theorem dX12_search_75 : decode cX12_search 75 = .ok (.invokestatic 449, 3) := by decide +kernel
theorem dX12_search_78 : decode cX12_search 78 = .ok (.lmul, 1) := by decide +kernel
theorem dX12_search_79 : decode cX12_search 79 = .ok (.ldc2_w 453, 3) := by decide +kernel
theorem dX12_search_82 : decode cX12_search 82 = .ok (.lcmp, 1) := by decide +kernel
theorem dX12_search_83 : decode cX12_search 83 = .ok (.ifCond .le 6, 3) := by decide +kernel
theorem dX12_search_86 : decode cX12_search 86 = .ok (.bipush (-3), 2) := by decide +kernel
theorem dX12_search_88 : decode cX12_search 88 = .ok (.ireturn, 1) := by decide +kernel
theorem dX12_search_89 : decode cX12_search 89 = .ok (.aload_n 0, 1) := by decide +kernel
theorem dX12_search_90 : decode cX12_search 90 = .ok (.iload_n 1, 1) := by decide +kernel
theorem dX12_search_91 : decode cX12_search 91 = .ok (.putfield 431, 3) := by decide +kernel
theorem dX12_search_94 : decode cX12_search 94 = .ok (.aload_n 0, 1) := by decide +kernel
theorem dX12_search_95 : decode cX12_search 95 = .ok (.iload_n 2, 1) := by decide +kernel
theorem dX12_search_96 : decode cX12_search 96 = .ok (.putfield 428, 3) := by decide +kernel
theorem dX12_search_99 : decode cX12_search 99 = .ok (.aload_n 0, 1) := by decide +kernel
theorem dX12_search_100 : decode cX12_search 100 = .ok (.iconst 0, 1) := by decide +kernel
theorem dX12_search_101 : decode cX12_search 101 = .ok (.putfield 434, 3) := by decide +kernel
theorem dX12_search_104 : decode cX12_search 104 = .ok (.aload_n 0, 1) := by decide +kernel
theorem dX12_search_105 : decode cX12_search 105 = .ok (.iconst 1, 1) := by decide +kernel
theorem dX12_search_106 : decode cX12_search 106 = .ok (.putfield 425, 3) := by decide +kernel
theorem dX12_search_109 : decode cX12_search 109 = .ok (.aload_n 0, 1) := by decide +kernel
theorem dX12_search_110 : decode cX12_search 110 = .ok (.getfield 425, 3) := by decide +kernel
theorem dX12_search_113 : decode cX12_search 113 = .ok (.iload_n 3, 1) := by decide +kernel
theorem dX12_search_114 : decode cX12_search 114 = .ok (.if_icmp .gt 21, 3) := by decide +kernel
theorem dX12_search_117 : decode cX12_search 117 = .ok (.aload_n 0, 1) := by decide +kernel
theorem dX12_search_118 : decode cX12_search 118 = .ok (.iconst 0, 1) := by decide +kernel
theorem dX12_search_119 : decode cX12_search 119 = .ok (.invokevirtual 446, 3) := by decide +kernel
theorem dX12_search_122 : decode cX12_search 122 = .ok (.aload_n 0, 1) := by decide +kernel
theorem dX12_search_123 : decode cX12_search 123 = .ok (.dup, 1) := by decide +kernel
theorem dX12_search_124 : decode cX12_search 124 = .ok (.getfield 425, 3) := by decide +kernel
theorem dX12_search_127 : decode cX12_search 127 = .ok (.iconst 1, 1) := by decide +kernel
theorem dX12_search_128 : decode cX12_search 128 = .ok (.iadd, 1) := by decide +kernel
theorem dX12_search_129 : decode cX12_search 129 = .ok (.putfield 425, 3) := by decide +kernel
theorem dX12_search_132 : decode cX12_search 132 = .ok (.goto (-23), 3) := by decide +kernel
theorem dX12_search_135 : decode cX12_search 135 = .ok (.aload_n 0, 1) := by decide +kernel
theorem dX12_search_136 : decode cX12_search 136 = .ok (.aload_n 0, 1) := by decide +kernel
theorem dX12_search_137 : decode cX12_search 137 = .ok (.getfield 434, 3) := by decide +kernel
theorem dX12_search_140 : decode cX12_search 140 = .ok (.putfield 455, 3) := by decide +kernel
theorem dX12_search_143 : decode cX12_search 143 = .ok (.aload_n 0, 1) := by decide +kernel
theorem dX12_search_144 : decode cX12_search 144 = .ok (.getfield 96, 3) := by decide +kernel
theorem dX12_search_147 : decode cX12_search 147 = .ok (.iconst 0, 1) := by decide +kernel
theorem dX12_search_148 : decode cX12_search 148 = .ok (.aload_n 0, 1) := by decide +kernel
theorem dX12_search_149 : decode cX12_search 149 = .ok (.getfield 90, 3) := by decide +kernel
theorem dX12_search_152 : decode cX12_search 152 = .ok (.iconst 0, 1) := by decide +kernel
theorem dX12_search_153 : decode cX12_search 153 = .ok (.bipush 6, 2) := by decide +kernel
theorem dX12_search_155 : decode cX12_search 155 = .ok (.invokestatic 458, 3) := by decide +kernel
theorem dX12_search_158 : decode cX12_search 158 = .ok (.aload_n 0, 1) := by decide +kernel
theorem dX12_search_159 : decode cX12_search 159 = .ok (.getfield 440, 3) := by decide +kernel
theorem dX12_search_162 : decode cX12_search 162 = .ok (.aload_n 0, 1) := by decide +kernel
theorem dX12_search_163 : decode cX12_search 163 = .ok (.getfield 437, 3) := by decide +kernel
theorem dX12_search_166 : decode cX12_search 166 = .ok (.iload_n 2, 1) := by decide +kernel
theorem dX12_search_167 : decode cX12_search 167 = .ok (.i2l, 1) := by decide +kernel
theorem dX12_search_168 : decode cX12_search 168 = .ok (.lmul, 1) := by decide +kernel
theorem dX12_search_169 : decode cX12_search 169 = .ok (.invokestatic 293, 3) := by decide +kernel
theorem dX12_search_172 : decode cX12_search 172 = .ok (.lstore 4, 2) := by decide +kernel
theorem dX12_search_174 : decode cX12_search 174 = .ok (.aload_n 0, 1) := by decide +kernel
theorem dX12_search_175 : decode cX12_search 175 = .ok (.aload_n 0, 1) := by decide +kernel
theorem dX12_search_176 : decode cX12_search 176 = .ok (.getfield 440, 3) := by decide +kernel
theorem dX12_search_179 : decode cX12_search 179 = .ok (.lload 4, 2) := by decide +kernel
theorem dX12_search_181 : decode cX12_search 181 = .ok (.ldiv, 1) := by decide +kernel
theorem dX12_search_182 : decode cX12_search 182 = .ok (.putfield 464, 3) := by decide +kernel
theorem dX12_search_185 : decode cX12_search 185 = .ok (.aload_n 0, 1) := by decide +kernel
theorem dX12_search_186 : decode cX12_search 186 = .ok (.aload_n 0, 1) := by decide +kernel
theorem dX12_search_187 : decode cX12_search 187 = .ok (.getfield 437, 3) := by decide +kernel
theorem dX12_search_190 : decode cX12_search 190 = .ok (.iload_n 2, 1) := by decide +kernel
theorem dX12_search_191 : decode cX12_search 191 = .ok (.i2l, 1) := by decide +kernel
theorem dX12_search_192 : decode cX12_search 192 = .ok (.lmul, 1) := by decide +kernel
theorem dX12_search_193 : decode cX12_search 193 = .ok (.lload 4, 2) := by decide +kernel
theorem dX12_search_195 : decode cX12_search 195 = .ok (.ldiv, 1) := by decide +kernel
theorem dX12_search_196 : decode cX12_search 196 = .ok (.putfield 467, 3) := by decide +kernel
theorem dX12_search_199 : decode cX12_search 199 = .ok (.aload_n 0, 1) := by decide +kernel
theorem dX12_search_200 : decode cX12_search 200 = .ok (.iconst 1, 1) := by decide +kernel
theorem dX12_search_201 : decode cX12_search 201 = .ok (.putfield 470, 3) := by decide +kernel
theorem dX12_search_204 : decode cX12_search 204 = .ok (.aload_n 0, 1) := by decide +kernel
theorem dX12_search_205 : decode cX12_search 205 = .ok (.getfield 434, 3) := by decide +kernel
theorem dX12_search_208 : decode cX12_search 208 = .ok (.ireturn, 1) := by decide +kernel
def f_Md_search_L109 : Nat → Int32 → Int32 → (Nat → Nat → Int32) → (Nat → Nat → Int64) → Option (Int32 × (Nat → Nat → Int32) × (Nat → Nat → Int64))
  | 0, _, _, _, _ => none
  | n + 1, l2, l3, I, L => (if l3 < (I 34 59) then (bnd (I 34 63) fun x11 => ((f_Md_common (L 34 65) ((L 34 66) * (Int32.toInt64 l2))).bind fun q12 => (if ¬ q12 = (0 : Int64) then (bnd ((L 34 65) / q12) fun x15 => (if ¬ q12 = (0 : Int64) then (bnd (((L 34 66) * (Int32.toInt64 l2)) / q12) fun x17 => (some ((I 34 63), (uI (uC (uI I 34 54 x11) 63 (Int32.toNatClampNeg (0 : Int32)) 61 (Int32.toNatClampNeg (0 : Int32)) (Int32.toNatClampNeg (6 : Int32))) 34 58 (1 : Int32)), (uL (uL L 34 56 x15) 34 57 x17)))) else none)) else none))) else ((f_Md_tryFrom 10 (0 : Int32) I L).bind fun q18 => (bnd ((q18.1 34 59) + (1 : Int32)) fun x20 => (f_Md_search_L109 n l2 l3 (uI q18.1 34 59 x20) q18.2))))
set_option maxRecDepth 100000 in
set_option maxHeartbeats 4000000 in
theorem x_Md_search_L109 {G : xG} {S : List xSh} {Rf : Nat → Nat → Option Nat} (hT : xTM S Rf) : ∀ (n : Nat) {l2 : Int32} {l3 : Int32} {I : Nat → Nat → Int32} {L : Nat → Nat → Int64} {q : (Int32 × (Nat → Nat → Int32) × (Nat → Nat → Int64))}, f_Md_search_L109 n l2 l3 I L = some q → X G 13 m_Md_search 109 [(0, .ref (xP G 34)), (2, .int l2), (3, .int l3)] [] (S, I, L, Rf) (some (.int q.1), (S, q.2.1, q.2.2, Rf)) := by
  intro n
  induction n with
  | zero =>
    intro l2 l3 I L q hf
    exact absurd (show none = some q from hf) (by simp)
  | succ n ih =>
    intro l2 l3 I L q hf
    replace hf := (f_Md_search_L109.eq_2 _ _ _ _ _).symm.trans hf
    refine X_aload_n (pc := 109) (i := 0) 0 dX12_search_109 rfl rfl ?_
    refine X_get (pc := 110) (a := 34) (ci := 11) (j := 59) (.int (I 34 59)) (sh_34 hT) (by decide) k_1287 rfl dX12_search_110 ?_
    refine X_iload_n (pc := 113) (i := 3) 2 dX12_search_113 rfl rfl ?_
    by_cases c10 : l3 < (I 34 59)
    · replace hf := (if_pos c10).symm.trans hf
      refine X_icmp_gt_t (pc := 114) 135 dX12_search_114 (by decide) c10 ?_
      refine X_aload_n (pc := 135) (i := 0) 0 dX12_search_135 rfl rfl ?_
      refine X_aload_n (pc := 136) (i := 0) 0 dX12_search_136 rfl rfl ?_
      refine X_get (pc := 137) (a := 34) (ci := 11) (j := 63) (.int (I 34 63)) (sh_34 hT) (by decide) k_1291 rfl dX12_search_137 ?_
      obtain ⟨x11, ex11, hf⟩ := bnd_e hf
      refine X_tope ex11 ?_
      refine X_puti (pc := 140) (a := 34) (ci := 11) (j := 54) 54 rfl false (sh_34 hT) (by decide) k_1282 rfl (fun h => by cases h) rfl dX12_search_140 ?_
      refine X_aload_n (pc := 143) (i := 0) 0 dX12_search_143 rfl rfl ?_
      refine X_getr (pc := 144) (a := 34) (ci := 11) (j := 64) (c := 63) (sh_34 hT) (by decide) k_1292 (rf_34_64 hT) (fun _ h => h) dX12_search_144 ?_
      refine X_iconst (pc := 147) (0 : Int32) dX12_search_147 (by decide) ?_
      refine X_aload_n (pc := 148) (i := 0) 0 dX12_search_148 rfl rfl ?_
      refine X_getr (pc := 149) (a := 34) (ci := 11) (j := 55) (c := 61) (sh_34 hT) (by decide) k_1283 (rf_34_55 hT) (fun _ h => h) dX12_search_149 ?_
      refine X_iconst (pc := 152) (0 : Int32) dX12_search_152 (by decide) ?_
      refine X_bipush (pc := 153) (6 : Int32) dX12_search_153 (by decide) ?_
      refine X_copyi (pc := 155) (sh_63 hT) (sh_61 hT) k_1738 k_1037 k_1036 k_86 (by decide) (by decide) (by decide) (by decide) (by decide) (by decide) (Nat.le_of_ble_eq_true rfl) dX12_search_155 ?_
      refine X_aload_n (pc := 158) (i := 0) 0 dX12_search_158 rfl rfl ?_
      refine X_get (pc := 159) (a := 34) (ci := 11) (j := 65) (.long (L 34 65)) (sh_34 hT) (by decide) k_1293 rfl dX12_search_159 ?_
      refine X_aload_n (pc := 162) (i := 0) 0 dX12_search_162 rfl rfl ?_
      refine X_get (pc := 163) (a := 34) (ci := 11) (j := 66) (.long (L 34 66)) (sh_34 hT) (by decide) k_1294 rfl dX12_search_163 ?_
      refine X_iload_n (pc := 166) (i := 2) 1 dX12_search_166 rfl rfl ?_
      refine X_i2l (pc := 167) dX12_search_167 ?_
      refine X_lmul (pc := 168) dX12_search_168 ?_
      obtain ⟨q12, c13, hf⟩ := bd_some hf
      refine X_invS_l (pc := 169) (c_Md_common hT c13) ok_Md_common k_1565 k_1566 nd_9 (by decide) rfl (Nat.le_of_ble_eq_true rfl) dX12_search_169 ?_
      refine X_lstore (pc := 172) [(4, .long q12), (0, .ref (xP G 34)), (2, .int l2), (3, .int l3)] dX12_search_172 (by decide) rfl ?_
      refine X_aload_n (pc := 174) (i := 0) 1 dX12_search_174 rfl rfl ?_
      refine X_aload_n (pc := 175) (i := 0) 1 dX12_search_175 rfl rfl ?_
      refine X_get (pc := 176) (a := 34) (ci := 11) (j := 65) (.long (L 34 65)) (sh_34 hT) (by decide) k_1293 rfl dX12_search_176 ?_
      refine X_lload (pc := 179) 0 dX12_search_179 rfl ?_
      obtain ⟨c14, hf⟩ := gd_some hf
      refine X_ldiv (pc := 181) dX12_search_181 c14 ?_
      obtain ⟨x15, ex15, hf⟩ := bnd_e hf
      refine X_tople ex15 ?_
      refine X_putl (pc := 182) (a := 34) (ci := 11) (j := 56) 56 rfl false (sh_34 hT) (by decide) k_1284 rfl (fun h => by cases h) rfl dX12_search_182 ?_
      refine X_aload_n (pc := 185) (i := 0) 1 dX12_search_185 rfl rfl ?_
      refine X_aload_n (pc := 186) (i := 0) 1 dX12_search_186 rfl rfl ?_
      refine X_get (pc := 187) (a := 34) (ci := 11) (j := 66) (.long (L 34 66)) (sh_34 hT) (by decide) k_1294 rfl dX12_search_187 ?_
      refine X_iload_n (pc := 190) (i := 2) 2 dX12_search_190 rfl rfl ?_
      refine X_i2l (pc := 191) dX12_search_191 ?_
      refine X_lmul (pc := 192) dX12_search_192 ?_
      refine X_lload (pc := 193) 0 dX12_search_193 rfl ?_
      obtain ⟨c16, hf⟩ := gd_some hf
      refine X_ldiv (pc := 195) dX12_search_195 c16 ?_
      obtain ⟨x17, ex17, hf⟩ := bnd_e hf
      refine X_tople ex17 ?_
      refine X_putl (pc := 196) (a := 34) (ci := 11) (j := 57) 57 rfl false (sh_34 hT) (by decide) k_1285 rfl (fun h => by cases h) rfl dX12_search_196 ?_
      refine X_aload_n (pc := 199) (i := 0) 1 dX12_search_199 rfl rfl ?_
      refine X_iconst (pc := 200) (1 : Int32) dX12_search_200 (by decide) ?_
      refine X_putz (pc := 201) (a := 34) (ci := 11) (j := 58) 58 rfl false (sh_34 hT) (by decide) k_1286 rfl (fun h => by cases h) rfl (by decide) dX12_search_201 ?_
      refine X_aload_n (pc := 204) (i := 0) 1 dX12_search_204 rfl rfl ?_
      refine X_get (pc := 205) (a := 34) (ci := 11) (j := 63) (.int (I 34 63)) (sh_34 hT) (by decide) k_1291 rfl dX12_search_205 ?_
      cases hf
      exact X_ireturn (pc := 208) rfl dX12_search_208
    · replace hf := (if_neg c10).symm.trans hf
      refine X_icmp_gt_f (pc := 114) 135 dX12_search_114 (by decide) c10 ?_
      refine X_aload_n (pc := 117) (i := 0) 0 dX12_search_117 rfl rfl ?_
      refine X_iconst (pc := 118) (0 : Int32) dX12_search_118 (by decide) ?_
      obtain ⟨q18, c19, hf⟩ := bd_some hf
      refine X_invV_v (pc := 119) (c_Md_tryFrom hT 10 c19) ok_Md_tryFrom (ci := 11) (sh_34 hT) k_1730 k_1732 k_67 nd_13 (by decide) rfl (Nat.le_of_ble_eq_true rfl) dX12_search_119 ?_
      refine X_aload_n (pc := 122) (i := 0) 0 dX12_search_122 rfl rfl ?_
      refine X_dup (pc := 123) dX12_search_123 rfl ?_
      refine X_get (pc := 124) (a := 34) (ci := 11) (j := 59) (.int (q18.1 34 59)) (sh_34 hT) (by decide) k_1287 rfl dX12_search_124 ?_
      refine X_iconst (pc := 127) (1 : Int32) dX12_search_127 (by decide) ?_
      refine X_iadd (pc := 128) dX12_search_128 ?_
      obtain ⟨x20, ex20, hf⟩ := bnd_e hf
      refine X_tope ex20 ?_
      refine X_puti (pc := 129) (a := 34) (ci := 11) (j := 59) 59 rfl false (sh_34 hT) (by decide) k_1287 rfl (fun h => by cases h) rfl dX12_search_129 ?_
      refine X_goto (pc := 132) 109 dX12_search_132 (by decide) ?_
      exact X_lvs [0, 1, 2] rfl (ih hf)
theorem u_Md_search_L109 {S : List xSh} : ∀ (n : Nat) {l2 : Int32} {l3 : Int32} {I : Nat → Nat → Int32} {L : Nat → Nat → Int64} {q : (Int32 × (Nat → Nat → Int32) × (Nat → Nat → Int64))}, f_Md_search_L109 n l2 l3 I L = some q → FR S [61, 62, 63, 4454, 4458, 4459, 4461, 4462, 4463] [4456, 4457, 4465, 4466] I q.2.1 L q.2.2 := by
  intro n
  induction n with
  | zero =>
    intro l2 l3 I L q hf
    exact absurd (show none = some q from hf) (by simp)
  | succ n ih =>
    intro l2 l3 I L q hf
    replace hf := (f_Md_search_L109.eq_2 _ _ _ _ _).symm.trans hf
    by_cases c10 : l3 < (I 34 59)
    · replace hf := (if_pos c10).symm.trans hf
      obtain ⟨x11, ex11, hf⟩ := bnd_e hf
      obtain ⟨q12, c13, hf⟩ := bd_some hf
      obtain ⟨c14, hf⟩ := gd_some hf
      obtain ⟨x15, ex15, hf⟩ := bnd_e hf
      obtain ⟨c16, hf⟩ := gd_some hf
      obtain ⟨x17, ex17, hf⟩ := bnd_e hf
      cases hf
      exact (FR.fi (FR.fl (FR.fl (FR.ci (FR.fi FR.rf (by decide)) (by decide)) (by decide)) (by decide)) (by decide))
    · replace hf := (if_neg c10).symm.trans hf
      obtain ⟨q18, c19, hf⟩ := bd_some hf
      obtain ⟨x20, ex20, hf⟩ := bnd_e hf
      exact FR.tr (FR.fi (FR.tr FR.rf (u_Md_tryFrom 10 (q := q18) c19) (by decide) (by decide)) (by decide)) (ih hf) (by decide) (by decide)
def f_Md_search (a0 : Int32) (a1 : Int32) (a2 : Int32) (I : Nat → Nat → Int32) (L : Nat → Nat → Int64) : Option (Int32 × (Nat → Nat → Int32) × (Nat → Nat → Int64)) := (bnd (f_Md_within (Int32.toInt64 a0) (1 : Int64) (100000 : Int64)) fun x1 => (if x1 = (0 : Int32) then (some ((-1 : Int32), I, L)) else (bnd (f_Md_within (Int32.toInt64 a1) (1 : Int64) (100000 : Int64)) fun x3 => (if x3 = (0 : Int32) then (some ((-1 : Int32), I, L)) else (bnd (f_Md_within (Int32.toInt64 a2) (1 : Int64) (3 : Int64)) fun x5 => (if x5 = (0 : Int32) then (some ((-1 : Int32), I, L)) else (bnd (f_Md_rowsOf (Int32.toInt64 (((I 60 1) - (I 60 0)) + (1 : Int32))) a2) fun x7 => (bnd (f_Md_rowsOf (Int32.toInt64 (((I 60 3) - (I 60 2)) + (1 : Int32))) a2) fun x8 => (if (x7 * x8) ≤ (200000 : Int64) then (f_Md_search_L109 xF a1 a2 (uI (uI (uI (uI I 34 61 a0) 34 62 a1) 34 63 (0 : Int32)) 34 59 (1 : Int32)) L) else (some ((-3 : Int32), I, L)))))))))))
set_option maxRecDepth 100000 in
set_option maxHeartbeats 4000000 in
theorem c_Md_search {G : xG} {S : List xSh} {Rf : Nat → Nat → Option Nat} (hT : xTM S Rf) {a0 : Int32} {a1 : Int32} {a2 : Int32} {I : Nat → Nat → Int32} {L : Nat → Nat → Int64} {q : (Int32 × (Nat → Nat → Int32) × (Nat → Nat → Int64))} (hf : f_Md_search a0 a1 a2 I L = some q) : CT G 13 m_Md_search [.ref (xP G 34), .int a0, .int a1, .int a2] (S, I, L, Rf) (some (.int q.1), (S, q.2.1, q.2.2, Rf)) := by
  refine CT.of (by decide +kernel) (Nat.le_of_ble_eq_true rfl) ?_
  show X G 13 m_Md_search 0 [(0, .ref (xP G 34)), (1, .int a0), (2, .int a1), (3, .int a2)] [] (S, I, L, Rf) (some (.int q.1), (S, q.2.1, q.2.2, Rf))
  replace hf := (f_Md_search.eq_1 _ _ _ _ _).symm.trans hf
  refine X_iload_n (pc := 0) (i := 1) 1 dX12_search_0 rfl rfl ?_
  refine X_i2l (pc := 1) dX12_search_1 ?_
  refine X_lconst (pc := 2) (1 : Int64) dX12_search_2 (by decide) ?_
  refine X_ldc2 (pc := 3) (100000 : Int64) k_1651 dX12_search_3 ?_
  refine X_invS_i (pc := 6) (c_Md_within hT rfl) ok_Md_within k_1482 k_1483 nd_33 (by decide) rfl (Nat.le_of_ble_eq_true rfl) dX12_search_6 ?_
  obtain ⟨x1, ex1, hf⟩ := bnd_e hf
  refine X_tope ex1 ?_
  by_cases c2 : x1 = (0 : Int32)
  · replace hf := (if_pos c2).symm.trans hf
    refine X_if_eq_t (pc := 9) 36 dX12_search_9 (by decide) c2 ?_
    refine X_iconst (pc := 36) (-1 : Int32) dX12_search_36 (by decide) ?_
    cases hf
    exact X_ireturn (pc := 37) rfl dX12_search_37
  · replace hf := (if_neg c2).symm.trans hf
    refine X_if_eq_f (pc := 9) 36 dX12_search_9 (by decide) c2 ?_
    refine X_iload_n (pc := 12) (i := 2) 2 dX12_search_12 rfl rfl ?_
    refine X_i2l (pc := 13) dX12_search_13 ?_
    refine X_lconst (pc := 14) (1 : Int64) dX12_search_14 (by decide) ?_
    refine X_ldc2 (pc := 15) (100000 : Int64) k_1651 dX12_search_15 ?_
    refine X_invS_i (pc := 18) (c_Md_within hT rfl) ok_Md_within k_1482 k_1483 nd_33 (by decide) rfl (Nat.le_of_ble_eq_true rfl) dX12_search_18 ?_
    obtain ⟨x3, ex3, hf⟩ := bnd_e hf
    refine X_tope ex3 ?_
    by_cases c4 : x3 = (0 : Int32)
    · replace hf := (if_pos c4).symm.trans hf
      refine X_if_eq_t (pc := 21) 36 dX12_search_21 (by decide) c4 ?_
      refine X_iconst (pc := 36) (-1 : Int32) dX12_search_36 (by decide) ?_
      cases hf
      exact X_ireturn (pc := 37) rfl dX12_search_37
    · replace hf := (if_neg c4).symm.trans hf
      refine X_if_eq_f (pc := 21) 36 dX12_search_21 (by decide) c4 ?_
      refine X_iload_n (pc := 24) (i := 3) 3 dX12_search_24 rfl rfl ?_
      refine X_i2l (pc := 25) dX12_search_25 ?_
      refine X_lconst (pc := 26) (1 : Int64) dX12_search_26 (by decide) ?_
      refine X_ldc2 (pc := 27) (3 : Int64) k_1530 dX12_search_27 ?_
      refine X_invS_i (pc := 30) (c_Md_within hT rfl) ok_Md_within k_1482 k_1483 nd_33 (by decide) rfl (Nat.le_of_ble_eq_true rfl) dX12_search_30 ?_
      obtain ⟨x5, ex5, hf⟩ := bnd_e hf
      refine X_tope ex5 ?_
      by_cases c6 : x5 = (0 : Int32)
      · replace hf := (if_pos c6).symm.trans hf
        refine X_if_ne_f (pc := 33) 38 dX12_search_33 (by decide) c6 ?_
        refine X_iconst (pc := 36) (-1 : Int32) dX12_search_36 (by decide) ?_
        cases hf
        exact X_ireturn (pc := 37) rfl dX12_search_37
      · replace hf := (if_neg c6).symm.trans hf
        refine X_if_ne_t (pc := 33) 38 dX12_search_33 (by decide) c6 ?_
        refine X_aload_n (pc := 38) (i := 0) 0 dX12_search_38 rfl rfl ?_
        refine X_getr (pc := 39) (a := 34) (ci := 11) (j := 53) (c := 60) (sh_34 hT) (by decide) k_1281 (rf_34_53 hT) (fun _ h => h) dX12_search_39 ?_
        refine X_iconst (pc := 42) (1 : Int32) dX12_search_42 (by decide) ?_
        refine X_ialdj (pc := 43) (j := 1) (I 60 1) (sh_60 hT) (vp_in_lit (N := 4) (by decide) (by decide)) (by decide) rfl dX12_search_43 ?_
        refine X_aload_n (pc := 44) (i := 0) 0 dX12_search_44 rfl rfl ?_
        refine X_getr (pc := 45) (a := 34) (ci := 11) (j := 53) (c := 60) (sh_34 hT) (by decide) k_1281 (rf_34_53 hT) (fun _ h => h) dX12_search_45 ?_
        refine X_iconst (pc := 48) (0 : Int32) dX12_search_48 (by decide) ?_
        refine X_ialdj (pc := 49) (j := 0) (I 60 0) (sh_60 hT) (vp_in_lit (N := 4) (by decide) (by decide)) (by decide) rfl dX12_search_49 ?_
        refine X_isub (pc := 50) dX12_search_50 ?_
        refine X_iconst (pc := 51) (1 : Int32) dX12_search_51 (by decide) ?_
        refine X_iadd (pc := 52) dX12_search_52 ?_
        refine X_i2l (pc := 53) dX12_search_53 ?_
        refine X_iload_n (pc := 54) (i := 3) 3 dX12_search_54 rfl rfl ?_
        refine X_invS_l (pc := 55) (c_Md_rowsOf hT rfl) ok_Md_rowsOf k_1726 k_1727 nd_38 (by decide) rfl (Nat.le_of_ble_eq_true rfl) dX12_search_55 ?_
        obtain ⟨x7, ex7, hf⟩ := bnd_e hf
        refine X_tople ex7 ?_
        refine X_aload_n (pc := 58) (i := 0) 0 dX12_search_58 rfl rfl ?_
        refine X_getr (pc := 59) (a := 34) (ci := 11) (j := 53) (c := 60) (sh_34 hT) (by decide) k_1281 (rf_34_53 hT) (fun _ h => h) dX12_search_59 ?_
        refine X_iconst (pc := 62) (3 : Int32) dX12_search_62 (by decide) ?_
        refine X_ialdj (pc := 63) (j := 3) (I 60 3) (sh_60 hT) (vp_in_lit (N := 4) (by decide) (by decide)) (by decide) rfl dX12_search_63 ?_
        refine X_aload_n (pc := 64) (i := 0) 0 dX12_search_64 rfl rfl ?_
        refine X_getr (pc := 65) (a := 34) (ci := 11) (j := 53) (c := 60) (sh_34 hT) (by decide) k_1281 (rf_34_53 hT) (fun _ h => h) dX12_search_65 ?_
        refine X_iconst (pc := 68) (2 : Int32) dX12_search_68 (by decide) ?_
        refine X_ialdj (pc := 69) (j := 2) (I 60 2) (sh_60 hT) (vp_in_lit (N := 4) (by decide) (by decide)) (by decide) rfl dX12_search_69 ?_
        refine X_isub (pc := 70) dX12_search_70 ?_
        refine X_iconst (pc := 71) (1 : Int32) dX12_search_71 (by decide) ?_
        refine X_iadd (pc := 72) dX12_search_72 ?_
        refine X_i2l (pc := 73) dX12_search_73 ?_
        refine X_iload_n (pc := 74) (i := 3) 3 dX12_search_74 rfl rfl ?_
        refine X_invS_l (pc := 75) (c_Md_rowsOf hT rfl) ok_Md_rowsOf k_1726 k_1727 nd_38 (by decide) rfl (Nat.le_of_ble_eq_true rfl) dX12_search_75 ?_
        obtain ⟨x8, ex8, hf⟩ := bnd_e hf
        refine X_tople ex8 ?_
        refine X_lmul (pc := 78) dX12_search_78 ?_
        refine X_ldc2 (pc := 79) (200000 : Int64) k_1729 dX12_search_79 ?_
        refine X_lcmp (pc := 82) dX12_search_82 ?_
        by_cases c9 : (x7 * x8) ≤ (200000 : Int64)
        · replace hf := (if_pos c9).symm.trans hf
          refine X_if_le_t (pc := 83) 89 dX12_search_83 (by decide) ((lg_cmp_le _ _).mpr c9) ?_
          refine X_aload_n (pc := 89) (i := 0) 0 dX12_search_89 rfl rfl ?_
          refine X_iload_n (pc := 90) (i := 1) 1 dX12_search_90 rfl rfl ?_
          refine X_puti (pc := 91) (a := 34) (ci := 11) (j := 61) 61 rfl false (sh_34 hT) (by decide) k_1289 rfl (fun h => by cases h) rfl dX12_search_91 ?_
          refine X_aload_n (pc := 94) (i := 0) 0 dX12_search_94 rfl rfl ?_
          refine X_iload_n (pc := 95) (i := 2) 2 dX12_search_95 rfl rfl ?_
          refine X_puti (pc := 96) (a := 34) (ci := 11) (j := 62) 62 rfl false (sh_34 hT) (by decide) k_1290 rfl (fun h => by cases h) rfl dX12_search_96 ?_
          refine X_aload_n (pc := 99) (i := 0) 0 dX12_search_99 rfl rfl ?_
          refine X_iconst (pc := 100) (0 : Int32) dX12_search_100 (by decide) ?_
          refine X_puti (pc := 101) (a := 34) (ci := 11) (j := 63) 63 rfl false (sh_34 hT) (by decide) k_1291 rfl (fun h => by cases h) rfl dX12_search_101 ?_
          refine X_aload_n (pc := 104) (i := 0) 0 dX12_search_104 rfl rfl ?_
          refine X_iconst (pc := 105) (1 : Int32) dX12_search_105 (by decide) ?_
          refine X_puti (pc := 106) (a := 34) (ci := 11) (j := 59) 59 rfl false (sh_34 hT) (by decide) k_1287 rfl (fun h => by cases h) rfl dX12_search_106 ?_
          exact X_lvs [0, 2, 3] rfl (x_Md_search_L109 hT xF hf)
        · replace hf := (if_neg c9).symm.trans hf
          refine X_if_le_f (pc := 83) 89 dX12_search_83 (by decide) (fun h => c9 ((lg_cmp_le _ _).mp h)) ?_
          refine X_bipush (pc := 86) (-3 : Int32) dX12_search_86 (by decide) ?_
          cases hf
          exact X_ireturn (pc := 88) rfl dX12_search_88
theorem u_Md_search {S : List xSh} {a0 : Int32} {a1 : Int32} {a2 : Int32} {I : Nat → Nat → Int32} {L : Nat → Nat → Int64} {q : (Int32 × (Nat → Nat → Int32) × (Nat → Nat → Int64))} (hf : f_Md_search a0 a1 a2 I L = some q) : FR S [61, 62, 63, 4454, 4458, 4459, 4461, 4462, 4463] [4456, 4457, 4465, 4466] I q.2.1 L q.2.2 := by
  replace hf := (f_Md_search.eq_1 _ _ _ _ _).symm.trans hf
  obtain ⟨x1, ex1, hf⟩ := bnd_e hf
  by_cases c2 : x1 = (0 : Int32)
  · replace hf := (if_pos c2).symm.trans hf
    cases hf
    exact FR.rf
  · replace hf := (if_neg c2).symm.trans hf
    obtain ⟨x3, ex3, hf⟩ := bnd_e hf
    by_cases c4 : x3 = (0 : Int32)
    · replace hf := (if_pos c4).symm.trans hf
      cases hf
      exact FR.rf
    · replace hf := (if_neg c4).symm.trans hf
      obtain ⟨x5, ex5, hf⟩ := bnd_e hf
      by_cases c6 : x5 = (0 : Int32)
      · replace hf := (if_pos c6).symm.trans hf
        cases hf
        exact FR.rf
      · replace hf := (if_neg c6).symm.trans hf
        obtain ⟨x7, ex7, hf⟩ := bnd_e hf
        obtain ⟨x8, ex8, hf⟩ := bnd_e hf
        by_cases c9 : (x7 * x8) ≤ (200000 : Int64)
        · replace hf := (if_pos c9).symm.trans hf
          exact FR.tr (FR.fi (FR.fi (FR.fi (FR.fi FR.rf (by decide)) (by decide)) (by decide)) (by decide)) (u_Md_search_L109 xF hf) (by decide) (by decide)
        · replace hf := (if_neg c9).symm.trans hf
          cases hf
          exact FR.rf
theorem dX12_train_0 : decode cX12_train 0 = .ok (.aload_n 0, 1) := by decide +kernel
theorem dX12_train_1 : decode cX12_train 1 = .ok (.getfield 470, 3) := by decide +kernel
theorem dX12_train_4 : decode cX12_train 4 = .ok (.ifCond .eq 42, 3) := by decide +kernel
theorem dX12_train_7 : decode cX12_train 7 = .ok (.iload_n 2, 1) := by decide +kernel
theorem dX12_train_8 : decode cX12_train 8 = .ok (.i2l, 1) := by decide +kernel
theorem dX12_train_9 : decode cX12_train 9 = .ok (.lconst 0, 1) := by decide +kernel
theorem dX12_train_10 : decode cX12_train 10 = .ok (.lconst 1, 1) := by decide +kernel
theorem dX12_train_11 : decode cX12_train 11 = .ok (.invokestatic 140, 3) := by decide +kernel
theorem dX12_train_14 : decode cX12_train 14 = .ok (.ifCond .eq 32, 3) := by decide +kernel
theorem dX12_train_17 : decode cX12_train 17 = .ok (.iload_n 1, 1) := by decide +kernel
theorem dX12_train_18 : decode cX12_train 18 = .ok (.i2l, 1) := by decide +kernel
theorem dX12_train_19 : decode cX12_train 19 = .ok (.lconst 0, 1) := by decide +kernel
theorem dX12_train_20 : decode cX12_train 20 = .ok (.aload_n 0, 1) := by decide +kernel
theorem dX12_train_21 : decode cX12_train 21 = .ok (.getfield 455, 3) := by decide +kernel
theorem dX12_train_24 : decode cX12_train 24 = .ok (.iconst 1, 1) := by decide +kernel
theorem dX12_train_25 : decode cX12_train 25 = .ok (.isub, 1) := by decide +kernel
theorem dX12_train_26 : decode cX12_train 26 = .ok (.i2l, 1) := by decide +kernel
theorem dX12_train_27 : decode cX12_train 27 = .ok (.invokestatic 140, 3) := by decide +kernel
theorem dX12_train_30 : decode cX12_train 30 = .ok (.ifCond .eq 16, 3) := by decide +kernel
theorem dX12_train_33 : decode cX12_train 33 = .ok (.aload_n 0, 1) := by decide +kernel
theorem dX12_train_34 : decode cX12_train 34 = .ok (.getfield 90, 3) := by decide +kernel
theorem dX12_train_37 : decode cX12_train 37 = .ok (.iconst 3, 1) := by decide +kernel
theorem dX12_train_38 : decode cX12_train 38 = .ok (.iload_n 2, 1) := by decide +kernel
theorem dX12_train_39 : decode cX12_train 39 = .ok (.imul, 1) := by decide +kernel
theorem dX12_train_40 : decode cX12_train 40 = .ok (.iload_n 1, 1) := by decide +kernel
theorem dX12_train_41 : decode cX12_train 41 = .ok (.iadd, 1) := by decide +kernel
theorem dX12_train_42 : decode cX12_train 42 = .ok (.iaload, 1) := by decide +kernel
theorem dX12_train_43 : decode cX12_train 43 = .ok (.goto 4, 3) := by decide +kernel
theorem dX12_train_46 : decode cX12_train 46 = .ok (.iconst 0, 1) := by decide +kernel
theorem dX12_train_47 : decode cX12_train 47 = .ok (.ireturn, 1) := by decide +kernel
def f_Md_train (a0 : Int32) (a1 : Int32) (I : Nat → Nat → Int32) (L : Nat → Nat → Int64) : Option Int32 := (if (I 34 58) = (0 : Int32) then (some (0 : Int32)) else (bnd (f_Md_within (Int32.toInt64 a1) (0 : Int64) (1 : Int64)) fun x2 => (if x2 = (0 : Int32) then (some (0 : Int32)) else (bnd (f_Md_within (Int32.toInt64 a0) (0 : Int64) (Int32.toInt64 ((I 34 54) - (1 : Int32)))) fun x4 => (if x4 = (0 : Int32) then (some (0 : Int32)) else (if (0 ≤ (((3 : Int32) * a1) + a0) ∧ (((3 : Int32) * a1) + a0) < (6 : Int32)) then (some (I 61 ((((3 : Int32) * a1) + a0).toNatClampNeg))) else none))))))
set_option maxRecDepth 100000 in
set_option maxHeartbeats 4000000 in
theorem c_Md_train {G : xG} {S : List xSh} {Rf : Nat → Nat → Option Nat} (hT : xTM S Rf) {a0 : Int32} {a1 : Int32} {I : Nat → Nat → Int32} {L : Nat → Nat → Int64} {q : Int32} (hf : f_Md_train a0 a1 I L = some q) : CT G 2 m_Md_train [.ref (xP G 34), .int a0, .int a1] (S, I, L, Rf) (some (.int q), (S, I, L, Rf)) := by
  refine CT.of (by decide +kernel) (Nat.le_of_ble_eq_true rfl) ?_
  show X G 2 m_Md_train 0 [(0, .ref (xP G 34)), (1, .int a0), (2, .int a1)] [] (S, I, L, Rf) (some (.int q), (S, I, L, Rf))
  replace hf := (f_Md_train.eq_1 _ _ _ _).symm.trans hf
  refine X_aload_n (pc := 0) (i := 0) 0 dX12_train_0 rfl rfl ?_
  refine X_get (pc := 1) (a := 34) (ci := 11) (j := 58) (.int (I 34 58)) (sh_34 hT) (by decide) k_1286 rfl dX12_train_1 ?_
  by_cases c1 : (I 34 58) = (0 : Int32)
  · replace hf := (if_pos c1).symm.trans hf
    refine X_if_eq_t (pc := 4) 46 dX12_train_4 (by decide) c1 ?_
    refine X_iconst (pc := 46) (0 : Int32) dX12_train_46 (by decide) ?_
    cases hf
    exact X_ireturn (pc := 47) rfl dX12_train_47
  · replace hf := (if_neg c1).symm.trans hf
    refine X_if_eq_f (pc := 4) 46 dX12_train_4 (by decide) c1 ?_
    refine X_iload_n (pc := 7) (i := 2) 2 dX12_train_7 rfl rfl ?_
    refine X_i2l (pc := 8) dX12_train_8 ?_
    refine X_lconst (pc := 9) (0 : Int64) dX12_train_9 (by decide) ?_
    refine X_lconst (pc := 10) (1 : Int64) dX12_train_10 (by decide) ?_
    refine X_invS_i (pc := 11) (c_Md_within hT rfl) ok_Md_within k_1482 k_1483 nd_33 (by decide) rfl (Nat.le_of_ble_eq_true rfl) dX12_train_11 ?_
    obtain ⟨x2, ex2, hf⟩ := bnd_e hf
    refine X_tope ex2 ?_
    by_cases c3 : x2 = (0 : Int32)
    · replace hf := (if_pos c3).symm.trans hf
      refine X_if_eq_t (pc := 14) 46 dX12_train_14 (by decide) c3 ?_
      refine X_iconst (pc := 46) (0 : Int32) dX12_train_46 (by decide) ?_
      cases hf
      exact X_ireturn (pc := 47) rfl dX12_train_47
    · replace hf := (if_neg c3).symm.trans hf
      refine X_if_eq_f (pc := 14) 46 dX12_train_14 (by decide) c3 ?_
      refine X_iload_n (pc := 17) (i := 1) 1 dX12_train_17 rfl rfl ?_
      refine X_i2l (pc := 18) dX12_train_18 ?_
      refine X_lconst (pc := 19) (0 : Int64) dX12_train_19 (by decide) ?_
      refine X_aload_n (pc := 20) (i := 0) 0 dX12_train_20 rfl rfl ?_
      refine X_get (pc := 21) (a := 34) (ci := 11) (j := 54) (.int (I 34 54)) (sh_34 hT) (by decide) k_1282 rfl dX12_train_21 ?_
      refine X_iconst (pc := 24) (1 : Int32) dX12_train_24 (by decide) ?_
      refine X_isub (pc := 25) dX12_train_25 ?_
      refine X_i2l (pc := 26) dX12_train_26 ?_
      refine X_invS_i (pc := 27) (c_Md_within hT rfl) ok_Md_within k_1482 k_1483 nd_33 (by decide) rfl (Nat.le_of_ble_eq_true rfl) dX12_train_27 ?_
      obtain ⟨x4, ex4, hf⟩ := bnd_e hf
      refine X_tope ex4 ?_
      by_cases c5 : x4 = (0 : Int32)
      · replace hf := (if_pos c5).symm.trans hf
        refine X_if_eq_t (pc := 30) 46 dX12_train_30 (by decide) c5 ?_
        refine X_iconst (pc := 46) (0 : Int32) dX12_train_46 (by decide) ?_
        cases hf
        exact X_ireturn (pc := 47) rfl dX12_train_47
      · replace hf := (if_neg c5).symm.trans hf
        refine X_if_eq_f (pc := 30) 46 dX12_train_30 (by decide) c5 ?_
        refine X_aload_n (pc := 33) (i := 0) 0 dX12_train_33 rfl rfl ?_
        refine X_getr (pc := 34) (a := 34) (ci := 11) (j := 55) (c := 61) (sh_34 hT) (by decide) k_1283 (rf_34_55 hT) (fun _ h => h) dX12_train_34 ?_
        refine X_iconst (pc := 37) (3 : Int32) dX12_train_37 (by decide) ?_
        refine X_iload_n (pc := 38) (i := 2) 2 dX12_train_38 rfl rfl ?_
        refine X_imul (pc := 39) dX12_train_39 ?_
        refine X_iload_n (pc := 40) (i := 1) 1 dX12_train_40 rfl rfl ?_
        refine X_iadd (pc := 41) dX12_train_41 ?_
        obtain ⟨c6, hf⟩ := gd_some hf
        refine X_ialdj (pc := 42) (j := (((3 : Int32) * a1) + a0).toNatClampNeg) (I 61 ((((3 : Int32) * a1) + a0).toNatClampNeg)) (sh_61 hT) (vp_in_lit (N := 6) c6 (by decide)) rfl rfl dX12_train_42 ?_
        refine X_goto (pc := 43) 47 dX12_train_43 (by decide) ?_
        cases hf
        exact X_ireturn (pc := 47) rfl dX12_train_47
theorem dX12_error_0 : decode cX12_error 0 = .ok (.iload_n 1, 1) := by decide +kernel
theorem dX12_error_1 : decode cX12_error 1 = .ok (.i2l, 1) := by decide +kernel
theorem dX12_error_2 : decode cX12_error 2 = .ok (.lconst 0, 1) := by decide +kernel
theorem dX12_error_3 : decode cX12_error 3 = .ok (.lconst 1, 1) := by decide +kernel
theorem dX12_error_4 : decode cX12_error 4 = .ok (.invokestatic 140, 3) := by decide +kernel
theorem dX12_error_7 : decode cX12_error 7 = .ok (.ifCond .ne 9, 3) := by decide +kernel
theorem dX12_error_10 : decode cX12_error 10 = .ok (.ldc2_w 423, 3) := by decide +kernel
theorem dX12_error_13 : decode cX12_error 13 = .ok (.goto 29, 3) := by decide +kernel
theorem dX12_error_16 : decode cX12_error 16 = .ok (.aload_n 0, 1) := by decide +kernel
theorem dX12_error_17 : decode cX12_error 17 = .ok (.getfield 470, 3) := by decide +kernel
theorem dX12_error_20 : decode cX12_error 20 = .ok (.ifCond .ne 7, 3) := by decide +kernel
theorem dX12_error_23 : decode cX12_error 23 = .ok (.lconst 0, 1) := by decide +kernel
theorem dX12_error_24 : decode cX12_error 24 = .ok (.goto 18, 3) := by decide +kernel
theorem dX12_error_27 : decode cX12_error 27 = .ok (.iload_n 1, 1) := by decide +kernel
theorem dX12_error_28 : decode cX12_error 28 = .ok (.ifCond .ne 10, 3) := by decide +kernel
theorem dX12_error_31 : decode cX12_error 31 = .ok (.aload_n 0, 1) := by decide +kernel
theorem dX12_error_32 : decode cX12_error 32 = .ok (.getfield 464, 3) := by decide +kernel
theorem dX12_error_35 : decode cX12_error 35 = .ok (.goto 7, 3) := by decide +kernel
theorem dX12_error_38 : decode cX12_error 38 = .ok (.aload_n 0, 1) := by decide +kernel
theorem dX12_error_39 : decode cX12_error 39 = .ok (.getfield 467, 3) := by decide +kernel
theorem dX12_error_42 : decode cX12_error 42 = .ok (.lreturn, 1) := by decide +kernel
def f_Md_error (a0 : Int32) (I : Nat → Nat → Int32) (L : Nat → Nat → Int64) : Int64 := (bnd (f_Md_within (Int32.toInt64 a0) (0 : Int64) (1 : Int64)) fun x1 => (if x1 = (0 : Int32) then (-9999999 : Int64) else (if (I 34 58) = (0 : Int32) then (0 : Int64) else (if a0 = (0 : Int32) then (L 34 56) else (L 34 57)))))
set_option maxRecDepth 100000 in
set_option maxHeartbeats 4000000 in
theorem c_Md_error {G : xG} {S : List xSh} {Rf : Nat → Nat → Option Nat} (hT : xTM S Rf) {a0 : Int32} {I : Nat → Nat → Int32} {L : Nat → Nat → Int64} {q : Int64} (hf : f_Md_error a0 I L = q) : CT G 2 m_Md_error [.ref (xP G 34), .int a0] (S, I, L, Rf) (some (.long q), (S, I, L, Rf)) := by
  refine CT.of (by decide +kernel) (Nat.le_of_ble_eq_true rfl) ?_
  show X G 2 m_Md_error 0 [(0, .ref (xP G 34)), (1, .int a0)] [] (S, I, L, Rf) (some (.long q), (S, I, L, Rf))
  replace hf := (f_Md_error.eq_1 _ _ _).symm.trans hf
  refine X_iload_n (pc := 0) (i := 1) 1 dX12_error_0 rfl rfl ?_
  refine X_i2l (pc := 1) dX12_error_1 ?_
  refine X_lconst (pc := 2) (0 : Int64) dX12_error_2 (by decide) ?_
  refine X_lconst (pc := 3) (1 : Int64) dX12_error_3 (by decide) ?_
  refine X_invS_i (pc := 4) (c_Md_within hT rfl) ok_Md_within k_1482 k_1483 nd_33 (by decide) rfl (Nat.le_of_ble_eq_true rfl) dX12_error_4 ?_
  obtain ⟨x1, ex1, hf⟩ := bnd_e hf
  refine X_tope ex1 ?_
  by_cases c2 : x1 = (0 : Int32)
  · replace hf := (if_pos c2).symm.trans hf
    refine X_if_ne_f (pc := 7) 16 dX12_error_7 (by decide) c2 ?_
    refine X_ldc2 (pc := 10) (-9999999 : Int64) k_1693 dX12_error_10 ?_
    refine X_goto (pc := 13) 42 dX12_error_13 (by decide) ?_
    subst hf
    exact X_lreturn (pc := 42) rfl dX12_error_42
  · replace hf := (if_neg c2).symm.trans hf
    refine X_if_ne_t (pc := 7) 16 dX12_error_7 (by decide) c2 ?_
    refine X_aload_n (pc := 16) (i := 0) 0 dX12_error_16 rfl rfl ?_
    refine X_get (pc := 17) (a := 34) (ci := 11) (j := 58) (.int (I 34 58)) (sh_34 hT) (by decide) k_1286 rfl dX12_error_17 ?_
    by_cases c3 : (I 34 58) = (0 : Int32)
    · replace hf := (if_pos c3).symm.trans hf
      refine X_if_ne_f (pc := 20) 27 dX12_error_20 (by decide) c3 ?_
      refine X_lconst (pc := 23) (0 : Int64) dX12_error_23 (by decide) ?_
      refine X_goto (pc := 24) 42 dX12_error_24 (by decide) ?_
      subst hf
      exact X_lreturn (pc := 42) rfl dX12_error_42
    · replace hf := (if_neg c3).symm.trans hf
      refine X_if_ne_t (pc := 20) 27 dX12_error_20 (by decide) c3 ?_
      refine X_iload_n (pc := 27) (i := 1) 1 dX12_error_27 rfl rfl ?_
      by_cases c4 : a0 = (0 : Int32)
      · replace hf := (if_pos c4).symm.trans hf
        refine X_if_ne_f (pc := 28) 38 dX12_error_28 (by decide) c4 ?_
        refine X_aload_n (pc := 31) (i := 0) 0 dX12_error_31 rfl rfl ?_
        refine X_get (pc := 32) (a := 34) (ci := 11) (j := 56) (.long (L 34 56)) (sh_34 hT) (by decide) k_1284 rfl dX12_error_32 ?_
        refine X_goto (pc := 35) 42 dX12_error_35 (by decide) ?_
        subst hf
        exact X_lreturn (pc := 42) rfl dX12_error_42
      · replace hf := (if_neg c4).symm.trans hf
        refine X_if_ne_t (pc := 28) 38 dX12_error_28 (by decide) c4 ?_
        refine X_aload_n (pc := 38) (i := 0) 0 dX12_error_38 rfl rfl ?_
        refine X_get (pc := 39) (a := 34) (ci := 11) (j := 57) (.long (L 34 57)) (sh_34 hT) (by decide) k_1285 rfl dX12_error_39 ?_
        subst hf
        exact X_lreturn (pc := 42) rfl dX12_error_42
theorem dX12_chain_0 : decode cX12_chain 0 = .ok (.aload_n 0, 1) := by decide +kernel
theorem dX12_chain_1 : decode cX12_chain 1 = .ok (.getfield 473, 3) := by decide +kernel
theorem dX12_chain_4 : decode cX12_chain 4 = .ok (.istore_n 1, 1) := by decide +kernel
theorem dX12_chain_5 : decode cX12_chain 5 = .ok (.aload_n 0, 1) := by decide +kernel
theorem dX12_chain_6 : decode cX12_chain 6 = .ok (.iconst 0, 1) := by decide +kernel
theorem dX12_chain_7 : decode cX12_chain 7 = .ok (.putfield 473, 3) := by decide +kernel
theorem dX12_chain_10 : decode cX12_chain 10 = .ok (.iload_n 1, 1) := by decide +kernel
theorem dX12_chain_11 : decode cX12_chain 11 = .ok (.ireturn, 1) := by decide +kernel
def f_Md_chain (I : Nat → Nat → Int32) (L : Nat → Nat → Int64) : Option (Int32 × (Nat → Nat → Int32) × (Nat → Nat → Int64)) := (bnd (I 34 67) fun x1 => (some (x1, (uI I 34 67 (0 : Int32)), L)))
set_option maxRecDepth 100000 in
set_option maxHeartbeats 4000000 in
theorem c_Md_chain {G : xG} {S : List xSh} {Rf : Nat → Nat → Option Nat} (hT : xTM S Rf) {I : Nat → Nat → Int32} {L : Nat → Nat → Int64} {q : (Int32 × (Nat → Nat → Int32) × (Nat → Nat → Int64))} (hf : f_Md_chain I L = some q) : CT G 1 m_Md_chain [.ref (xP G 34)] (S, I, L, Rf) (some (.int q.1), (S, q.2.1, q.2.2, Rf)) := by
  refine CT.of (by decide +kernel) (Nat.le_of_ble_eq_true rfl) ?_
  show X G 1 m_Md_chain 0 [(0, .ref (xP G 34))] [] (S, I, L, Rf) (some (.int q.1), (S, q.2.1, q.2.2, Rf))
  replace hf := (f_Md_chain.eq_1 _ _).symm.trans hf
  refine X_aload_n (pc := 0) (i := 0) 0 dX12_chain_0 rfl rfl ?_
  refine X_get (pc := 1) (a := 34) (ci := 11) (j := 67) (.int (I 34 67)) (sh_34 hT) (by decide) k_1295 rfl dX12_chain_1 ?_
  obtain ⟨x1, ex1, hf⟩ := bnd_e hf
  refine X_tope ex1 ?_
  refine X_istore_n (pc := 4) (i := 1) [(1, .int x1), (0, .ref (xP G 34))] dX12_chain_4 rfl (by decide) rfl ?_
  refine X_aload_n (pc := 5) (i := 0) 1 dX12_chain_5 rfl rfl ?_
  refine X_iconst (pc := 6) (0 : Int32) dX12_chain_6 (by decide) ?_
  refine X_puti (pc := 7) (a := 34) (ci := 11) (j := 67) 67 rfl false (sh_34 hT) (by decide) k_1295 rfl (fun h => by cases h) rfl dX12_chain_7 ?_
  refine X_iload_n (pc := 10) (i := 1) 0 dX12_chain_10 rfl rfl ?_
  cases hf
  exact X_ireturn (pc := 11) rfl dX12_chain_11
theorem u_Md_chain {S : List xSh} {I : Nat → Nat → Int32} {L : Nat → Nat → Int64} {q : (Int32 × (Nat → Nat → Int32) × (Nat → Nat → Int64))} (hf : f_Md_chain I L = some q) : FR S [4467] [] I q.2.1 L q.2.2 := by
  replace hf := (f_Md_chain.eq_1 _ _).symm.trans hf
  obtain ⟨x1, ex1, hf⟩ := bnd_e hf
  cases hf
  exact (FR.fi FR.rf (by decide))
theorem dX12_size_0 : decode cX12_size 0 = .ok (.iload_n 1, 1) := by decide +kernel
theorem dX12_size_1 : decode cX12_size 1 = .ok (.iconst 1, 1) := by decide +kernel
theorem dX12_size_2 : decode cX12_size 2 = .ok (.if_icmp .eq 8, 3) := by decide +kernel
theorem dX12_size_5 : decode cX12_size 5 = .ok (.iload_n 1, 1) := by decide +kernel
theorem dX12_size_6 : decode cX12_size 6 = .ok (.iconst (-1), 1) := by decide +kernel
theorem dX12_size_7 : decode cX12_size 7 = .ok (.if_icmp .ne 59, 3) := by decide +kernel
theorem dX12_size_10 : decode cX12_size 10 = .ok (.iload_n 2, 1) := by decide +kernel
theorem dX12_size_11 : decode cX12_size 11 = .ok (.i2l, 1) := by decide +kernel
theorem dX12_size_12 : decode cX12_size 12 = .ok (.lconst 0, 1) := by decide +kernel
theorem dX12_size_13 : decode cX12_size 13 = .ok (.ldc2_w 251, 3) := by decide +kernel
theorem dX12_size_16 : decode cX12_size 16 = .ok (.invokestatic 140, 3) := by decide +kernel
theorem dX12_size_19 : decode cX12_size 19 = .ok (.ifCond .eq 47, 3) := by decide +kernel
theorem dX12_size_22 : decode cX12_size 22 = .ok (.iload_n 3, 1) := by decide +kernel
theorem dX12_size_23 : decode cX12_size 23 = .ok (.i2l, 1) := by decide +kernel
theorem dX12_size_24 : decode cX12_size 24 = .ok (.ldc2_w 476, 3) := by decide +kernel
theorem dX12_size_27 : decode cX12_size 27 = .ok (.ldc2_w 478, 3) := by decide +kernel
theorem dX12_size_30 : decode cX12_size 30 = .ok (.invokestatic 140, 3) := by decide +kernel
theorem dX12_size_33 : decode cX12_size 33 = .ok (.ifCond .eq 33, 3) := by decide +kernel
theorem dX12_size_36 : decode cX12_size 36 = .ok (.iload 4, 2) := by decide +kernel
theorem dX12_size_38 : decode cX12_size 38 = .ok (.i2l, 1) := by decide +kernel
theorem dX12_size_39 : decode cX12_size 39 = .ok (.ldc2_w 476, 3) := by decide +kernel
theorem dX12_size_42 : decode cX12_size 42 = .ok (.ldc2_w 478, 3) := by decide +kernel
theorem dX12_size_45 : decode cX12_size 45 = .ok (.invokestatic 140, 3) := by decide +kernel
theorem dX12_size_48 : decode cX12_size 48 = .ok (.ifCond .eq 18, 3) := by decide +kernel
theorem dX12_size_51 : decode cX12_size 51 = .ok (.iload 4, 2) := by decide +kernel
theorem dX12_size_53 : decode cX12_size 53 = .ok (.iload_n 3, 1) := by decide +kernel
theorem dX12_size_54 : decode cX12_size 54 = .ok (.if_icmp .lt 12, 3) := by decide +kernel
theorem dX12_size_57 : decode cX12_size 57 = .ok (.iload 4, 2) := by decide +kernel
theorem dX12_size_59 : decode cX12_size 59 = .ok (.iload_n 3, 1) := by decide +kernel
theorem dX12_size_60 : decode cX12_size 60 = .ok (.bipush 99, 2) := by decide +kernel
theorem dX12_size_62 : decode cX12_size 62 = .ok (.iadd, 1) := by decide +kernel
theorem dX12_size_63 : decode cX12_size 63 = .ok (.if_icmp .le 5, 3) := by decide +kernel
theorem dX12_size_66 : decode cX12_size 66 = .ok (.iconst (-1), 1) := by decide +kernel
theorem dX12_size_67 : decode cX12_size 67 = .ok (.ireturn, 1) := by decide +kernel
theorem dX12_size_68 : decode cX12_size 68 = .ok (.aload_n 0, 1) := by decide +kernel
theorem dX12_size_69 : decode cX12_size 69 = .ok (.getfield 473, 3) := by decide +kernel
theorem dX12_size_72 : decode cX12_size 72 = .ok (.bipush 8, 2) := by decide +kernel
theorem dX12_size_74 : decode cX12_size 74 = .ok (.if_icmp .ne 6, 3) := by decide +kernel
theorem dX12_size_77 : decode cX12_size 77 = .ok (.bipush (-3), 2) := by decide +kernel
theorem dX12_size_79 : decode cX12_size 79 = .ok (.ireturn, 1) := by decide +kernel
theorem dX12_size_80 : decode cX12_size 80 = .ok (.aload_n 0, 1) := by decide +kernel
theorem dX12_size_81 : decode cX12_size 81 = .ok (.getfield 99, 3) := by decide +kernel
theorem dX12_size_84 : decode cX12_size 84 = .ok (.aload_n 0, 1) := by decide +kernel
theorem dX12_size_85 : decode cX12_size 85 = .ok (.getfield 473, 3) := by decide +kernel
theorem dX12_size_88 : decode cX12_size 88 = .ok (.iload_n 1, 1) := by decide +kernel
theorem dX12_size_89 : decode cX12_size 89 = .ok (.iastore, 1) := by decide +kernel
theorem dX12_size_90 : decode cX12_size 90 = .ok (.aload_n 0, 1) := by decide +kernel
theorem dX12_size_91 : decode cX12_size 91 = .ok (.getfield 102, 3) := by decide +kernel
theorem dX12_size_94 : decode cX12_size 94 = .ok (.aload_n 0, 1) := by decide +kernel
theorem dX12_size_95 : decode cX12_size 95 = .ok (.getfield 473, 3) := by decide +kernel
theorem dX12_size_98 : decode cX12_size 98 = .ok (.iload_n 2, 1) := by decide +kernel
theorem dX12_size_99 : decode cX12_size 99 = .ok (.iastore, 1) := by decide +kernel
theorem dX12_size_100 : decode cX12_size 100 = .ok (.aload_n 0, 1) := by decide +kernel
theorem dX12_size_101 : decode cX12_size 101 = .ok (.getfield 105, 3) := by decide +kernel
theorem dX12_size_104 : decode cX12_size 104 = .ok (.aload_n 0, 1) := by decide +kernel
theorem dX12_size_105 : decode cX12_size 105 = .ok (.getfield 473, 3) := by decide +kernel
theorem dX12_size_108 : decode cX12_size 108 = .ok (.iload_n 3, 1) := by decide +kernel
theorem dX12_size_109 : decode cX12_size 109 = .ok (.iastore, 1) := by decide +kernel
theorem dX12_size_110 : decode cX12_size 110 = .ok (.aload_n 0, 1) := by decide +kernel
theorem dX12_size_111 : decode cX12_size 111 = .ok (.getfield 108, 3) := by decide +kernel
theorem dX12_size_114 : decode cX12_size 114 = .ok (.aload_n 0, 1) := by decide +kernel
theorem dX12_size_115 : decode cX12_size 115 = .ok (.getfield 473, 3) := by decide +kernel
theorem dX12_size_118 : decode cX12_size 118 = .ok (.iload 4, 2) := by decide +kernel
theorem dX12_size_120 : decode cX12_size 120 = .ok (.iastore, 1) := by decide +kernel
theorem dX12_size_121 : decode cX12_size 121 = .ok (.aload_n 0, 1) := by decide +kernel
theorem dX12_size_122 : decode cX12_size 122 = .ok (.dup, 1) := by decide +kernel
theorem dX12_size_123 : decode cX12_size 123 = .ok (.getfield 473, 3) := by decide +kernel
theorem dX12_size_126 : decode cX12_size 126 = .ok (.iconst 1, 1) := by decide +kernel
theorem dX12_size_127 : decode cX12_size 127 = .ok (.iadd, 1) := by decide +kernel
theorem dX12_size_128 : decode cX12_size 128 = .ok (.putfield 473, 3) := by decide +kernel
theorem dX12_size_131 : decode cX12_size 131 = .ok (.aload_n 0, 1) := by decide +kernel
theorem dX12_size_132 : decode cX12_size 132 = .ok (.getfield 473, 3) := by decide +kernel
theorem dX12_size_135 : decode cX12_size 135 = .ok (.iconst 1, 1) := by decide +kernel
theorem dX12_size_136 : decode cX12_size 136 = .ok (.isub, 1) := by decide +kernel
theorem dX12_size_137 : decode cX12_size 137 = .ok (.ireturn, 1) := by decide +kernel
def f_Md_size_L10 (l1 : Int32) (l2 : Int32) (l3 : Int32) (l4 : Int32) (I : (Nat → Nat → Int32)) (L : (Nat → Nat → Int64)) : Option (Int32 × (Nat → Nat → Int32) × (Nat → Nat → Int64)) := (bnd (f_Md_within (Int32.toInt64 l2) (0 : Int64) (1000000 : Int64)) fun x2 => (if x2 = (0 : Int32) then (some ((-1 : Int32), I, L)) else (bnd (f_Md_within (Int32.toInt64 l3) (-10000 : Int64) (10000 : Int64)) fun x4 => (if x4 = (0 : Int32) then (some ((-1 : Int32), I, L)) else (bnd (f_Md_within (Int32.toInt64 l4) (-10000 : Int64) (10000 : Int64)) fun x6 => (if x6 = (0 : Int32) then (some ((-1 : Int32), I, L)) else (if l4 < l3 then (some ((-1 : Int32), I, L)) else (if l4 ≤ (l3 + (99 : Int32)) then (if (I 34 67) = (8 : Int32) then (some ((-3 : Int32), I, L)) else (if (0 ≤ (I 34 67) ∧ (I 34 67) < (8 : Int32)) then (if (0 ≤ (I 34 67) ∧ (I 34 67) < (8 : Int32)) then (if (0 ≤ (I 34 67) ∧ (I 34 67) < (8 : Int32)) then (if (0 ≤ (I 34 67) ∧ (I 34 67) < (8 : Int32)) then (bnd ((I 34 67) + (1 : Int32)) fun x15 => (some ((x15 - (1 : Int32)), (uI (uI (uI (uI (uI I 64 ((I 34 67).toNatClampNeg) l1) 65 ((I 34 67).toNatClampNeg) l2) 66 ((I 34 67).toNatClampNeg) l3) 67 ((I 34 67).toNatClampNeg) l4) 34 67 x15), L))) else none) else none) else none) else none)) else (some ((-1 : Int32), I, L))))))))))
set_option maxRecDepth 100000 in
set_option maxHeartbeats 4000000 in
theorem x_Md_size_L10 {G : xG} {S : List xSh} {Rf : Nat → Nat → Option Nat} (hT : xTM S Rf) {l1 : Int32} {l2 : Int32} {l3 : Int32} {l4 : Int32} {I : Nat → Nat → Int32} {L : Nat → Nat → Int64} {q : (Int32 × (Nat → Nat → Int32) × (Nat → Nat → Int64))} (hf : f_Md_size_L10 l1 l2 l3 l4 I L = some q) : X G 2 m_Md_size 10 [(0, .ref (xP G 34)), (1, .int l1), (2, .int l2), (3, .int l3), (4, .int l4)] [] (S, I, L, Rf) (some (.int q.1), (S, q.2.1, q.2.2, Rf)) := by
  replace hf := (f_Md_size_L10.eq_1 _ _ _ _ _ _).symm.trans hf
  refine X_iload_n (pc := 10) (i := 2) 2 dX12_size_10 rfl rfl ?_
  refine X_i2l (pc := 11) dX12_size_11 ?_
  refine X_lconst (pc := 12) (0 : Int64) dX12_size_12 (by decide) ?_
  refine X_ldc2 (pc := 13) (1000000 : Int64) k_1516 dX12_size_13 ?_
  refine X_invS_i (pc := 16) (c_Md_within hT rfl) ok_Md_within k_1482 k_1483 nd_33 (by decide) rfl (Nat.le_of_ble_eq_true rfl) dX12_size_16 ?_
  obtain ⟨x2, ex2, hf⟩ := bnd_e hf
  refine X_tope ex2 ?_
  by_cases c3 : x2 = (0 : Int32)
  · replace hf := (if_pos c3).symm.trans hf
    refine X_if_eq_t (pc := 19) 66 dX12_size_19 (by decide) c3 ?_
    refine X_iconst (pc := 66) (-1 : Int32) dX12_size_66 (by decide) ?_
    cases hf
    exact X_ireturn (pc := 67) rfl dX12_size_67
  · replace hf := (if_neg c3).symm.trans hf
    refine X_if_eq_f (pc := 19) 66 dX12_size_19 (by decide) c3 ?_
    refine X_iload_n (pc := 22) (i := 3) 3 dX12_size_22 rfl rfl ?_
    refine X_i2l (pc := 23) dX12_size_23 ?_
    refine X_ldc2 (pc := 24) (-10000 : Int64) k_1755 dX12_size_24 ?_
    refine X_ldc2 (pc := 27) (10000 : Int64) k_1756 dX12_size_27 ?_
    refine X_invS_i (pc := 30) (c_Md_within hT rfl) ok_Md_within k_1482 k_1483 nd_33 (by decide) rfl (Nat.le_of_ble_eq_true rfl) dX12_size_30 ?_
    obtain ⟨x4, ex4, hf⟩ := bnd_e hf
    refine X_tope ex4 ?_
    by_cases c5 : x4 = (0 : Int32)
    · replace hf := (if_pos c5).symm.trans hf
      refine X_if_eq_t (pc := 33) 66 dX12_size_33 (by decide) c5 ?_
      refine X_iconst (pc := 66) (-1 : Int32) dX12_size_66 (by decide) ?_
      cases hf
      exact X_ireturn (pc := 67) rfl dX12_size_67
    · replace hf := (if_neg c5).symm.trans hf
      refine X_if_eq_f (pc := 33) 66 dX12_size_33 (by decide) c5 ?_
      refine X_iload (pc := 36) 4 dX12_size_36 rfl ?_
      refine X_i2l (pc := 38) dX12_size_38 ?_
      refine X_ldc2 (pc := 39) (-10000 : Int64) k_1755 dX12_size_39 ?_
      refine X_ldc2 (pc := 42) (10000 : Int64) k_1756 dX12_size_42 ?_
      refine X_invS_i (pc := 45) (c_Md_within hT rfl) ok_Md_within k_1482 k_1483 nd_33 (by decide) rfl (Nat.le_of_ble_eq_true rfl) dX12_size_45 ?_
      obtain ⟨x6, ex6, hf⟩ := bnd_e hf
      refine X_tope ex6 ?_
      by_cases c7 : x6 = (0 : Int32)
      · replace hf := (if_pos c7).symm.trans hf
        refine X_if_eq_t (pc := 48) 66 dX12_size_48 (by decide) c7 ?_
        refine X_iconst (pc := 66) (-1 : Int32) dX12_size_66 (by decide) ?_
        cases hf
        exact X_ireturn (pc := 67) rfl dX12_size_67
      · replace hf := (if_neg c7).symm.trans hf
        refine X_if_eq_f (pc := 48) 66 dX12_size_48 (by decide) c7 ?_
        refine X_iload (pc := 51) 4 dX12_size_51 rfl ?_
        refine X_iload_n (pc := 53) (i := 3) 3 dX12_size_53 rfl rfl ?_
        by_cases c8 : l4 < l3
        · replace hf := (if_pos c8).symm.trans hf
          refine X_icmp_lt_t (pc := 54) 66 dX12_size_54 (by decide) c8 ?_
          refine X_iconst (pc := 66) (-1 : Int32) dX12_size_66 (by decide) ?_
          cases hf
          exact X_ireturn (pc := 67) rfl dX12_size_67
        · replace hf := (if_neg c8).symm.trans hf
          refine X_icmp_lt_f (pc := 54) 66 dX12_size_54 (by decide) c8 ?_
          refine X_iload (pc := 57) 4 dX12_size_57 rfl ?_
          refine X_iload_n (pc := 59) (i := 3) 3 dX12_size_59 rfl rfl ?_
          refine X_bipush (pc := 60) (99 : Int32) dX12_size_60 (by decide) ?_
          refine X_iadd (pc := 62) dX12_size_62 ?_
          by_cases c9 : l4 ≤ (l3 + (99 : Int32))
          · replace hf := (if_pos c9).symm.trans hf
            refine X_icmp_le_t (pc := 63) 68 dX12_size_63 (by decide) c9 ?_
            refine X_aload_n (pc := 68) (i := 0) 0 dX12_size_68 rfl rfl ?_
            refine X_get (pc := 69) (a := 34) (ci := 11) (j := 67) (.int (I 34 67)) (sh_34 hT) (by decide) k_1295 rfl dX12_size_69 ?_
            refine X_bipush (pc := 72) (8 : Int32) dX12_size_72 (by decide) ?_
            by_cases c10 : (I 34 67) = (8 : Int32)
            · replace hf := (if_pos c10).symm.trans hf
              refine X_icmp_ne_f (pc := 74) 80 dX12_size_74 (by decide) c10 ?_
              refine X_bipush (pc := 77) (-3 : Int32) dX12_size_77 (by decide) ?_
              cases hf
              exact X_ireturn (pc := 79) rfl dX12_size_79
            · replace hf := (if_neg c10).symm.trans hf
              refine X_icmp_ne_t (pc := 74) 80 dX12_size_74 (by decide) c10 ?_
              refine X_aload_n (pc := 80) (i := 0) 0 dX12_size_80 rfl rfl ?_
              refine X_getr (pc := 81) (a := 34) (ci := 11) (j := 68) (c := 64) (sh_34 hT) (by decide) k_1296 (rf_34_68 hT) (fun _ h => h) dX12_size_81 ?_
              refine X_aload_n (pc := 84) (i := 0) 0 dX12_size_84 rfl rfl ?_
              refine X_get (pc := 85) (a := 34) (ci := 11) (j := 67) (.int (I 34 67)) (sh_34 hT) (by decide) k_1295 rfl dX12_size_85 ?_
              refine X_iload_n (pc := 88) (i := 1) 1 dX12_size_88 rfl rfl ?_
              obtain ⟨c11, hf⟩ := gd_some hf
              refine X_iastj (pc := 89) (j := ((I 34 67).toNatClampNeg)) (sh_64 hT) (vp_in_lit (N := 8) c11 (by decide)) rfl dX12_size_89 ?_
              refine X_aload_n (pc := 90) (i := 0) 0 dX12_size_90 rfl rfl ?_
              refine X_getr (pc := 91) (a := 34) (ci := 11) (j := 69) (c := 65) (sh_34 hT) (by decide) k_1297 (rf_34_69 hT) (fun _ h => h) dX12_size_91 ?_
              refine X_aload_n (pc := 94) (i := 0) 0 dX12_size_94 rfl rfl ?_
              refine X_get (pc := 95) (a := 34) (ci := 11) (j := 67) (.int (I 34 67)) (sh_34 hT) (by decide) k_1295 rfl dX12_size_95 ?_
              refine X_iload_n (pc := 98) (i := 2) 2 dX12_size_98 rfl rfl ?_
              obtain ⟨c12, hf⟩ := gd_some hf
              refine X_iastj (pc := 99) (j := ((I 34 67).toNatClampNeg)) (sh_65 hT) (vp_in_lit (N := 8) c12 (by decide)) rfl dX12_size_99 ?_
              refine X_aload_n (pc := 100) (i := 0) 0 dX12_size_100 rfl rfl ?_
              refine X_getr (pc := 101) (a := 34) (ci := 11) (j := 70) (c := 66) (sh_34 hT) (by decide) k_1298 (rf_34_70 hT) (fun _ h => h) dX12_size_101 ?_
              refine X_aload_n (pc := 104) (i := 0) 0 dX12_size_104 rfl rfl ?_
              refine X_get (pc := 105) (a := 34) (ci := 11) (j := 67) (.int (I 34 67)) (sh_34 hT) (by decide) k_1295 rfl dX12_size_105 ?_
              refine X_iload_n (pc := 108) (i := 3) 3 dX12_size_108 rfl rfl ?_
              obtain ⟨c13, hf⟩ := gd_some hf
              refine X_iastj (pc := 109) (j := ((I 34 67).toNatClampNeg)) (sh_66 hT) (vp_in_lit (N := 8) c13 (by decide)) rfl dX12_size_109 ?_
              refine X_aload_n (pc := 110) (i := 0) 0 dX12_size_110 rfl rfl ?_
              refine X_getr (pc := 111) (a := 34) (ci := 11) (j := 71) (c := 67) (sh_34 hT) (by decide) k_1299 (rf_34_71 hT) (fun _ h => h) dX12_size_111 ?_
              refine X_aload_n (pc := 114) (i := 0) 0 dX12_size_114 rfl rfl ?_
              refine X_get (pc := 115) (a := 34) (ci := 11) (j := 67) (.int (I 34 67)) (sh_34 hT) (by decide) k_1295 rfl dX12_size_115 ?_
              refine X_iload (pc := 118) 4 dX12_size_118 rfl ?_
              obtain ⟨c14, hf⟩ := gd_some hf
              refine X_iastj (pc := 120) (j := ((I 34 67).toNatClampNeg)) (sh_67 hT) (vp_in_lit (N := 8) c14 (by decide)) rfl dX12_size_120 ?_
              refine X_aload_n (pc := 121) (i := 0) 0 dX12_size_121 rfl rfl ?_
              refine X_dup (pc := 122) dX12_size_122 rfl ?_
              refine X_get (pc := 123) (a := 34) (ci := 11) (j := 67) (.int (I 34 67)) (sh_34 hT) (by decide) k_1295 rfl dX12_size_123 ?_
              refine X_iconst (pc := 126) (1 : Int32) dX12_size_126 (by decide) ?_
              refine X_iadd (pc := 127) dX12_size_127 ?_
              obtain ⟨x15, ex15, hf⟩ := bnd_e hf
              refine X_tope ex15 ?_
              refine X_puti (pc := 128) (a := 34) (ci := 11) (j := 67) 67 rfl false (sh_34 hT) (by decide) k_1295 rfl (fun h => by cases h) rfl dX12_size_128 ?_
              refine X_aload_n (pc := 131) (i := 0) 0 dX12_size_131 rfl rfl ?_
              refine X_get (pc := 132) (a := 34) (ci := 11) (j := 67) (.int x15) (sh_34 hT) (by decide) k_1295 rfl dX12_size_132 ?_
              refine X_iconst (pc := 135) (1 : Int32) dX12_size_135 (by decide) ?_
              refine X_isub (pc := 136) dX12_size_136 ?_
              cases hf
              exact X_ireturn (pc := 137) rfl dX12_size_137
          · replace hf := (if_neg c9).symm.trans hf
            refine X_icmp_le_f (pc := 63) 68 dX12_size_63 (by decide) c9 ?_
            refine X_iconst (pc := 66) (-1 : Int32) dX12_size_66 (by decide) ?_
            cases hf
            exact X_ireturn (pc := 67) rfl dX12_size_67
theorem u_Md_size_L10 {S : List xSh} {l1 : Int32} {l2 : Int32} {l3 : Int32} {l4 : Int32} {I : Nat → Nat → Int32} {L : Nat → Nat → Int64} {q : (Int32 × (Nat → Nat → Int32) × (Nat → Nat → Int64))} (hf : f_Md_size_L10 l1 l2 l3 l4 I L = some q) : FR S [64, 65, 66, 67, 4467] [] I q.2.1 L q.2.2 := by
  replace hf := (f_Md_size_L10.eq_1 _ _ _ _ _ _).symm.trans hf
  obtain ⟨x2, ex2, hf⟩ := bnd_e hf
  by_cases c3 : x2 = (0 : Int32)
  · replace hf := (if_pos c3).symm.trans hf
    cases hf
    exact FR.rf
  · replace hf := (if_neg c3).symm.trans hf
    obtain ⟨x4, ex4, hf⟩ := bnd_e hf
    by_cases c5 : x4 = (0 : Int32)
    · replace hf := (if_pos c5).symm.trans hf
      cases hf
      exact FR.rf
    · replace hf := (if_neg c5).symm.trans hf
      obtain ⟨x6, ex6, hf⟩ := bnd_e hf
      by_cases c7 : x6 = (0 : Int32)
      · replace hf := (if_pos c7).symm.trans hf
        cases hf
        exact FR.rf
      · replace hf := (if_neg c7).symm.trans hf
        by_cases c8 : l4 < l3
        · replace hf := (if_pos c8).symm.trans hf
          cases hf
          exact FR.rf
        · replace hf := (if_neg c8).symm.trans hf
          by_cases c9 : l4 ≤ (l3 + (99 : Int32))
          · replace hf := (if_pos c9).symm.trans hf
            by_cases c10 : (I 34 67) = (8 : Int32)
            · replace hf := (if_pos c10).symm.trans hf
              cases hf
              exact FR.rf
            · replace hf := (if_neg c10).symm.trans hf
              obtain ⟨c11, hf⟩ := gd_some hf
              obtain ⟨c12, hf⟩ := gd_some hf
              obtain ⟨c13, hf⟩ := gd_some hf
              obtain ⟨c14, hf⟩ := gd_some hf
              obtain ⟨x15, ex15, hf⟩ := bnd_e hf
              cases hf
              exact (FR.fi (FR.ai (FR.ai (FR.ai (FR.ai FR.rf (by decide)) (by decide)) (by decide)) (by decide)) (by decide))
          · replace hf := (if_neg c9).symm.trans hf
            cases hf
            exact FR.rf
def f_Md_size (a0 : Int32) (a1 : Int32) (a2 : Int32) (a3 : Int32) (I : Nat → Nat → Int32) (L : Nat → Nat → Int64) : Option (Int32 × (Nat → Nat → Int32) × (Nat → Nat → Int64)) := (if a0 = (1 : Int32) then (f_Md_size_L10 a0 a1 a2 a3 I L) else (if a0 = (-1 : Int32) then (f_Md_size_L10 a0 a1 a2 a3 I L) else (some ((-1 : Int32), I, L))))
set_option maxRecDepth 100000 in
set_option maxHeartbeats 4000000 in
theorem c_Md_size {G : xG} {S : List xSh} {Rf : Nat → Nat → Option Nat} (hT : xTM S Rf) {a0 : Int32} {a1 : Int32} {a2 : Int32} {a3 : Int32} {I : Nat → Nat → Int32} {L : Nat → Nat → Int64} {q : (Int32 × (Nat → Nat → Int32) × (Nat → Nat → Int64))} (hf : f_Md_size a0 a1 a2 a3 I L = some q) : CT G 2 m_Md_size [.ref (xP G 34), .int a0, .int a1, .int a2, .int a3] (S, I, L, Rf) (some (.int q.1), (S, q.2.1, q.2.2, Rf)) := by
  refine CT.of (by decide +kernel) (Nat.le_of_ble_eq_true rfl) ?_
  show X G 2 m_Md_size 0 [(0, .ref (xP G 34)), (1, .int a0), (2, .int a1), (3, .int a2), (4, .int a3)] [] (S, I, L, Rf) (some (.int q.1), (S, q.2.1, q.2.2, Rf))
  replace hf := (f_Md_size.eq_1 _ _ _ _ _ _).symm.trans hf
  refine X_iload_n (pc := 0) (i := 1) 1 dX12_size_0 rfl rfl ?_
  refine X_iconst (pc := 1) (1 : Int32) dX12_size_1 (by decide) ?_
  by_cases c1 : a0 = (1 : Int32)
  · replace hf := (if_pos c1).symm.trans hf
    refine X_icmp_eq_t (pc := 2) 10 dX12_size_2 (by decide) c1 ?_
    exact X_lvs [0, 1, 2, 3, 4] rfl (x_Md_size_L10 hT hf)
  · replace hf := (if_neg c1).symm.trans hf
    refine X_icmp_eq_f (pc := 2) 10 dX12_size_2 (by decide) c1 ?_
    refine X_iload_n (pc := 5) (i := 1) 1 dX12_size_5 rfl rfl ?_
    refine X_iconst (pc := 6) (-1 : Int32) dX12_size_6 (by decide) ?_
    by_cases c16 : a0 = (-1 : Int32)
    · replace hf := (if_pos c16).symm.trans hf
      refine X_icmp_ne_f (pc := 7) 66 dX12_size_7 (by decide) c16 ?_
      exact X_lvs [0, 1, 2, 3, 4] rfl (x_Md_size_L10 hT hf)
    · replace hf := (if_neg c16).symm.trans hf
      refine X_icmp_ne_t (pc := 7) 66 dX12_size_7 (by decide) c16 ?_
      refine X_iconst (pc := 66) (-1 : Int32) dX12_size_66 (by decide) ?_
      cases hf
      exact X_ireturn (pc := 67) rfl dX12_size_67
theorem u_Md_size {S : List xSh} {a0 : Int32} {a1 : Int32} {a2 : Int32} {a3 : Int32} {I : Nat → Nat → Int32} {L : Nat → Nat → Int64} {q : (Int32 × (Nat → Nat → Int32) × (Nat → Nat → Int64))} (hf : f_Md_size a0 a1 a2 a3 I L = some q) : FR S [64, 65, 66, 67, 4467] [] I q.2.1 L q.2.2 := by
  replace hf := (f_Md_size.eq_1 _ _ _ _ _ _).symm.trans hf
  by_cases c1 : a0 = (1 : Int32)
  · replace hf := (if_pos c1).symm.trans hf
    exact FR.tr FR.rf (u_Md_size_L10 hf) (by decide) (by decide)
  · replace hf := (if_neg c1).symm.trans hf
    by_cases c16 : a0 = (-1 : Int32)
    · replace hf := (if_pos c16).symm.trans hf
      exact FR.tr FR.rf (u_Md_size_L10 hf) (by decide) (by decide)
    · replace hf := (if_neg c16).symm.trans hf
      cases hf
      exact FR.rf

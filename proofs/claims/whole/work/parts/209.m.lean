theorem dX11_restartMovement_0 : decode cX11_restartMovement 0 = .ok (.aload_n 0, 1) := by decide +kernel
theorem dX11_restartMovement_1 : decode cX11_restartMovement 1 = .ok (.getfield 10, 3) := by decide +kernel
theorem dX11_restartMovement_4 : decode cX11_restartMovement 4 = .ok (.invokevirtual 377, 3) := by decide +kernel
theorem dX11_restartMovement_7 : decode cX11_restartMovement 7 = .ok (.aload_n 0, 1) := by decide +kernel
theorem dX11_restartMovement_8 : decode cX11_restartMovement 8 = .ok (.getfield 56, 3) := by decide +kernel
theorem dX11_restartMovement_11 : decode cX11_restartMovement 11 = .ok (.iconst 0, 1) := by decide +kernel
theorem dX11_restartMovement_12 : decode cX11_restartMovement 12 = .ok (.putfield 95, 3) := by decide +kernel
theorem dX11_restartMovement_15 : decode cX11_restartMovement 15 = .ok (.iconst 0, 1) := by decide +kernel
theorem dX11_restartMovement_16 : decode cX11_restartMovement 16 = .ok (.istore_n 1, 1) := by decide +kernel
theorem dX11_restartMovement_17 : decode cX11_restartMovement 17 = .ok (.iload_n 1, 1) := by decide +kernel
theorem dX11_restartMovement_18 : decode cX11_restartMovement 18 = .ok (.aload_n 0, 1) := by decide +kernel
theorem dX11_restartMovement_19 : decode cX11_restartMovement 19 = .ok (.getfield 137, 3) := by decide +kernel
theorem dX11_restartMovement_22 : decode cX11_restartMovement 22 = .ok (.if_icmp .ge 23, 3) := by decide +kernel
theorem dX11_restartMovement_25 : decode cX11_restartMovement 25 = .ok (.aload_n 0, 1) := by decide +kernel
theorem dX11_restartMovement_26 : decode cX11_restartMovement 26 = .ok (.iload_n 1, 1) := by decide +kernel
theorem dX11_restartMovement_27 : decode cX11_restartMovement 27 = .ok (.invokevirtual 198, 3) := by decide +kernel
theorem dX11_restartMovement_30 : decode cX11_restartMovement 30 = .ok (.astore_n 2, 1) := by decide +kernel
theorem dX11_restartMovement_31 : decode cX11_restartMovement 31 = .ok (.aload_n 2, 1) := by decide +kernel
theorem dX11_restartMovement_32 : decode cX11_restartMovement 32 = .ok (.ifnull 7, 3) := by decide +kernel
theorem dX11_restartMovement_35 : decode cX11_restartMovement 35 = .ok (.aload_n 2, 1) := by decide +kernel
theorem dX11_restartMovement_36 : decode cX11_restartMovement 36 = .ok (.invokestatic 380, 3) := by decide +kernel
theorem dX11_restartMovement_39 : decode cX11_restartMovement 39 = .ok (.iinc 1 1, 3) := by decide +kernel
theorem dX11_restartMovement_42 : decode cX11_restartMovement 42 = .ok (.goto (-25), 3) := by decide +kernel
theorem dX11_restartMovement_45 : decode cX11_restartMovement 45 = .ok (.iconst 0, 1) := by decide +kernel
theorem dX11_restartMovement_46 : decode cX11_restartMovement 46 = .ok (.istore_n 1, 1) := by decide +kernel
theorem dX11_restartMovement_47 : decode cX11_restartMovement 47 = .ok (.iload_n 1, 1) := by decide +kernel
theorem dX11_restartMovement_48 : decode cX11_restartMovement 48 = .ok (.aload_n 0, 1) := by decide +kernel
theorem dX11_restartMovement_49 : decode cX11_restartMovement 49 = .ok (.getfield 154, 3) := by decide +kernel
theorem dX11_restartMovement_52 : decode cX11_restartMovement 52 = .ok (.if_icmp .ge 23, 3) := by decide +kernel
theorem dX11_restartMovement_55 : decode cX11_restartMovement 55 = .ok (.aload_n 0, 1) := by decide +kernel
theorem dX11_restartMovement_56 : decode cX11_restartMovement 56 = .ok (.iload_n 1, 1) := by decide +kernel
theorem dX11_restartMovement_57 : decode cX11_restartMovement 57 = .ok (.invokevirtual 190, 3) := by decide +kernel
theorem dX11_restartMovement_60 : decode cX11_restartMovement 60 = .ok (.astore_n 2, 1) := by decide +kernel
theorem dX11_restartMovement_61 : decode cX11_restartMovement 61 = .ok (.aload_n 2, 1) := by decide +kernel
theorem dX11_restartMovement_62 : decode cX11_restartMovement 62 = .ok (.ifnull 7, 3) := by decide +kernel
theorem dX11_restartMovement_65 : decode cX11_restartMovement 65 = .ok (.aload_n 2, 1) := by decide +kernel
theorem dX11_restartMovement_66 : decode cX11_restartMovement 66 = .ok (.invokevirtual 384, 3) := by decide +kernel
theorem dX11_restartMovement_69 : decode cX11_restartMovement 69 = .ok (.iinc 1 1, 3) := by decide +kernel
theorem dX11_restartMovement_72 : decode cX11_restartMovement 72 = .ok (.goto (-25), 3) := by decide +kernel
theorem dX11_restartMovement_75 : decode cX11_restartMovement 75 = .ok (.return_, 1) := by decide +kernel
def f_H_restartMovement_L47 (S : List xSh) (Rf : Nat → Nat → Option Nat) : Nat → Int32 → (Nat → Nat → Int32) → (Nat → Nat → Int64) → Option ((Nat → Nat → Int32) × (Nat → Nat → Int64))
  | 0, _, _, _ => none
  | n + 1, l1, I, L => (if (I 0 7) ≤ l1 then (some (I, L)) else ((f_H_chronographAt S Rf l1 I L).bind fun q5 => (oc q5 (f_H_restartMovement_L47 S Rf n (l1 + (1 : Int32)) I L) fun w7 => (if S[w7]? = some (.inl 3) then ((f_Cr_restart w7 I L).bind fun q10 => (f_H_restartMovement_L47 S Rf n (l1 + (1 : Int32)) q10.1 q10.2)) else none))))
set_option maxRecDepth 100000 in
set_option maxHeartbeats 4000000 in
theorem x_H_restartMovement_L47 {G : xG} {S : List xSh} {Rf : Nat → Nat → Option Nat} (hT : xTH S Rf) : ∀ (n : Nat) {l1 : Int32} {I : Nat → Nat → Int32} {L : Nat → Nat → Int64} {q : ((Nat → Nat → Int32) × (Nat → Nat → Int64))}, f_H_restartMovement_L47 S Rf n l1 I L = some q → X G 5 m_H_restartMovement 47 [(0, .ref (xP G 0)), (1, .int l1)] [] (S, I, L, Rf) (none, (S, q.1, q.2, Rf)) := by
  intro n
  induction n with
  | zero =>
    intro l1 I L q hf
    exact absurd (show none = some q from hf) (by simp)
  | succ n ih =>
    intro l1 I L q hf
    replace hf := (f_H_restartMovement_L47.eq_2 _ _ _ _ _ _).symm.trans hf
    refine X_iload_n (pc := 47) (i := 1) 1 dX11_restartMovement_47 rfl rfl ?_
    refine X_aload_n (pc := 48) (i := 0) 0 dX11_restartMovement_48 rfl rfl ?_
    refine X_get (pc := 49) (a := 0) (ci := 10) (j := 10) (.int (I 0 7)) (sh_0 hT) (by decide) k_504 rfl dX11_restartMovement_49 ?_
    by_cases c4 : (I 0 7) ≤ l1
    · replace hf := (if_pos c4).symm.trans hf
      refine X_icmp_ge_t (pc := 52) 75 dX11_restartMovement_52 (by decide) c4 ?_
      cases hf
      exact X_return (pc := 75) rfl dX11_restartMovement_75
    · replace hf := (if_neg c4).symm.trans hf
      refine X_icmp_ge_f (pc := 52) 75 dX11_restartMovement_52 (by decide) c4 ?_
      refine X_aload_n (pc := 55) (i := 0) 0 dX11_restartMovement_55 rfl rfl ?_
      refine X_iload_n (pc := 56) (i := 1) 1 dX11_restartMovement_56 rfl rfl ?_
      obtain ⟨q5, c6, hf⟩ := bd_some hf
      rcases oc_cases hf with ⟨hr8, hf⟩ | ⟨w7, hr8, hf⟩
      · rw [hr8] at c6
        refine X_invV_aN (pc := 57) (c_H_chronographAt hT c6) ok_H_chronographAt (ci := 10) (sh_0 hT) k_856 k_858 k_18 nd_23 (by decide) rfl (Nat.le_of_ble_eq_true rfl) dX11_restartMovement_57 ?_
        refine X_astore_nN (pc := 60) (i := 2) [(2, .null), (0, .ref (xP G 0)), (1, .int l1)] dX11_restartMovement_60 rfl (by decide) rfl ?_
        refine X_aload_nN (pc := 61) (i := 2) 0 dX11_restartMovement_61 rfl rfl ?_
        refine X_ifnull_t (pc := 62) 69 dX11_restartMovement_62 (by decide) ?_
        refine X_iinc (pc := 69) (i := 1) (q := 2) (v := (l1 + (1 : Int32))) [(1, .int (l1 + (1 : Int32))), (2, .null), (0, .ref (xP G 0))] dX11_restartMovement_69 rfl rfl (by decide) rfl ?_
        refine X_goto (pc := 72) 47 dX11_restartMovement_72 (by decide) ?_
        exact X_lvs [2, 0] rfl (ih hf)
      · obtain ⟨hs9, hf⟩ := gd_some hf
        rw [hr8] at c6
        refine X_invV_aS (pc := 57) (c_H_chronographAt hT c6) ok_H_chronographAt (ci := 10) (sh_0 hT) k_856 k_858 k_18 nd_23 (by decide) rfl (Nat.le_of_ble_eq_true rfl) dX11_restartMovement_57 ?_
        refine X_astore_n (pc := 60) (i := 2) [(2, .ref (xP G w7)), (0, .ref (xP G 0)), (1, .int l1)] dX11_restartMovement_60 rfl (by decide) rfl ?_
        refine X_aload_n (pc := 61) (i := 2) 0 dX11_restartMovement_61 rfl rfl ?_
        refine X_ifnull_f (pc := 62) dX11_restartMovement_62 ?_
        refine X_aload_n (pc := 65) (i := 2) 0 dX11_restartMovement_65 rfl rfl ?_
        obtain ⟨q10, c11, hf⟩ := bd_some hf
        refine X_invV_v (pc := 66) (c_Cr_restart hT hs9 c11) ok_Cr_restart (ci := 3) hs9 k_933 k_699 k_700 nd_1 (by decide) rfl (Nat.le_of_ble_eq_true rfl) dX11_restartMovement_66 ?_
        refine X_iinc (pc := 69) (i := 1) (q := 2) (v := (l1 + (1 : Int32))) [(1, .int (l1 + (1 : Int32))), (2, .ref (xP G w7)), (0, .ref (xP G 0))] dX11_restartMovement_69 rfl rfl (by decide) rfl ?_
        refine X_goto (pc := 72) 47 dX11_restartMovement_72 (by decide) ?_
        exact X_lvs [2, 0] rfl (ih hf)
theorem u_H_restartMovement_L47 {S : List xSh} {Rf : Nat → Nat → Option Nat} : ∀ (n : Nat) {l1 : Int32} {I : Nat → Nat → Int32} {L : Nat → Nat → Int64} {q : ((Nat → Nat → Int32) × (Nat → Nat → Int64))}, f_H_restartMovement_L47 S Rf n l1 I L = some q → FR S [1108, 1109, 1110, 1111, 1112, 1113, 1114, 1903, 2303] [1107] I q.1 L q.2 := by
  intro n
  induction n with
  | zero =>
    intro l1 I L q hf
    exact absurd (show none = some q from hf) (by simp)
  | succ n ih =>
    intro l1 I L q hf
    replace hf := (f_H_restartMovement_L47.eq_2 _ _ _ _ _ _).symm.trans hf
    by_cases c4 : (I 0 7) ≤ l1
    · replace hf := (if_pos c4).symm.trans hf
      cases hf
      exact FR.rf
    · replace hf := (if_neg c4).symm.trans hf
      obtain ⟨q5, c6, hf⟩ := bd_some hf
      rcases oc_cases hf with ⟨hr8, hf⟩ | ⟨w7, hr8, hf⟩
      · rw [hr8] at c6
        exact FR.tr FR.rf (ih hf) (by decide) (by decide)
      · obtain ⟨hs9, hf⟩ := gd_some hf
        rw [hr8] at c6
        obtain ⟨q10, c11, hf⟩ := bd_some hf
        exact FR.tr (FR.tr FR.rf (u_Cr_restart hs9 (q := q10) c11) (by decide) (by decide)) (ih hf) (by decide) (by decide)
def f_H_restartMovement_L17 (S : List xSh) (Rf : Nat → Nat → Option Nat) : Nat → Int32 → (Nat → Nat → Int32) → (Nat → Nat → Int64) → Option ((Nat → Nat → Int32) × (Nat → Nat → Int64))
  | 0, _, _, _ => none
  | n + 1, l1, I, L => (if (I 0 6) ≤ l1 then (f_H_restartMovement_L47 S Rf xF (0 : Int32) I L) else ((f_H_workAt S Rf l1 I L).bind fun q12 => (oc q12 (f_H_restartMovement_L17 S Rf n (l1 + (1 : Int32)) I L) fun w14 => (if S[w14]? = some (.inl 4) then ((f_H_renew_D w14 I L).bind fun q17 => (f_H_restartMovement_L17 S Rf n (l1 + (1 : Int32)) q17.1 q17.2)) else (if S[w14]? = some (.inl 1) then ((f_H_renew_C w14 I L).bind fun q20 => (f_H_restartMovement_L17 S Rf n (l1 + (1 : Int32)) q20.1 q20.2)) else (if S[w14]? = some (.inl 8) then ((f_H_renew_S w14 I L).bind fun q23 => (f_H_restartMovement_L17 S Rf n (l1 + (1 : Int32)) q23.1 q23.2)) else none))))))
set_option maxRecDepth 100000 in
set_option maxHeartbeats 4000000 in
theorem x_H_restartMovement_L17 {G : xG} {S : List xSh} {Rf : Nat → Nat → Option Nat} (hT : xTH S Rf) : ∀ (n : Nat) {l1 : Int32} {I : Nat → Nat → Int32} {L : Nat → Nat → Int64} {q : ((Nat → Nat → Int32) × (Nat → Nat → Int64))}, f_H_restartMovement_L17 S Rf n l1 I L = some q → X G 5 m_H_restartMovement 17 [(0, .ref (xP G 0)), (1, .int l1)] [] (S, I, L, Rf) (none, (S, q.1, q.2, Rf)) := by
  intro n
  induction n with
  | zero =>
    intro l1 I L q hf
    exact absurd (show none = some q from hf) (by simp)
  | succ n ih =>
    intro l1 I L q hf
    replace hf := (f_H_restartMovement_L17.eq_2 _ _ _ _ _ _).symm.trans hf
    refine X_iload_n (pc := 17) (i := 1) 1 dX11_restartMovement_17 rfl rfl ?_
    refine X_aload_n (pc := 18) (i := 0) 0 dX11_restartMovement_18 rfl rfl ?_
    refine X_get (pc := 19) (a := 0) (ci := 10) (j := 9) (.int (I 0 6)) (sh_0 hT) (by decide) k_503 rfl dX11_restartMovement_19 ?_
    by_cases c3 : (I 0 6) ≤ l1
    · replace hf := (if_pos c3).symm.trans hf
      refine X_icmp_ge_t (pc := 22) 45 dX11_restartMovement_22 (by decide) c3 ?_
      refine X_iconst (pc := 45) (0 : Int32) dX11_restartMovement_45 (by decide) ?_
      refine X_istore_n (pc := 46) (i := 1) [(1, .int (0 : Int32)), (0, .ref (xP G 0))] dX11_restartMovement_46 rfl (by decide) rfl ?_
      exact X_lvs [1, 0] rfl (x_H_restartMovement_L47 hT xF hf)
    · replace hf := (if_neg c3).symm.trans hf
      refine X_icmp_ge_f (pc := 22) 45 dX11_restartMovement_22 (by decide) c3 ?_
      refine X_aload_n (pc := 25) (i := 0) 0 dX11_restartMovement_25 rfl rfl ?_
      refine X_iload_n (pc := 26) (i := 1) 1 dX11_restartMovement_26 rfl rfl ?_
      obtain ⟨q12, c13, hf⟩ := bd_some hf
      rcases oc_cases hf with ⟨hr15, hf⟩ | ⟨w14, hr15, hf⟩
      · rw [hr15] at c13
        refine X_invV_aN (pc := 27) (c_H_workAt hT c13) ok_H_workAt (ci := 10) (sh_0 hT) k_872 k_874 k_19 nd_24 (by decide) rfl (Nat.le_of_ble_eq_true rfl) dX11_restartMovement_27 ?_
        refine X_astore_nN (pc := 30) (i := 2) [(2, .null), (0, .ref (xP G 0)), (1, .int l1)] dX11_restartMovement_30 rfl (by decide) rfl ?_
        refine X_aload_nN (pc := 31) (i := 2) 0 dX11_restartMovement_31 rfl rfl ?_
        refine X_ifnull_t (pc := 32) 39 dX11_restartMovement_32 (by decide) ?_
        refine X_iinc (pc := 39) (i := 1) (q := 2) (v := (l1 + (1 : Int32))) [(1, .int (l1 + (1 : Int32))), (2, .null), (0, .ref (xP G 0))] dX11_restartMovement_39 rfl rfl (by decide) rfl ?_
        refine X_goto (pc := 42) 17 dX11_restartMovement_42 (by decide) ?_
        exact X_lvs [2, 0] rfl (ih hf)
      · rw [hr15] at c13
        refine X_invV_aS (pc := 27) (c_H_workAt hT c13) ok_H_workAt (ci := 10) (sh_0 hT) k_872 k_874 k_19 nd_24 (by decide) rfl (Nat.le_of_ble_eq_true rfl) dX11_restartMovement_27 ?_
        refine X_astore_n (pc := 30) (i := 2) [(2, .ref (xP G w14)), (0, .ref (xP G 0)), (1, .int l1)] dX11_restartMovement_30 rfl (by decide) rfl ?_
        refine X_aload_n (pc := 31) (i := 2) 0 dX11_restartMovement_31 rfl rfl ?_
        refine X_ifnull_f (pc := 32) dX11_restartMovement_32 ?_
        refine X_aload_n (pc := 35) (i := 2) 0 dX11_restartMovement_35 rfl rfl ?_
        by_cases hs16 : S[w14]? = some (.inl 4)
        · replace hf := (if_pos hs16).symm.trans hf
          obtain ⟨q17, c18, hf⟩ := bd_some hf
          refine X_invS_v (pc := 36) (c_H_renew_D hT hs16 c18) ok_H_renew k_649 k_650 nd_14 (by decide) rfl (Nat.le_of_ble_eq_true rfl) dX11_restartMovement_36 ?_
          refine X_iinc (pc := 39) (i := 1) (q := 2) (v := (l1 + (1 : Int32))) [(1, .int (l1 + (1 : Int32))), (2, .ref (xP G w14)), (0, .ref (xP G 0))] dX11_restartMovement_39 rfl rfl (by decide) rfl ?_
          refine X_goto (pc := 42) 17 dX11_restartMovement_42 (by decide) ?_
          exact X_lvs [2, 0] rfl (ih hf)
        · replace hf := (if_neg hs16).symm.trans hf
          by_cases hs19 : S[w14]? = some (.inl 1)
          · replace hf := (if_pos hs19).symm.trans hf
            obtain ⟨q20, c21, hf⟩ := bd_some hf
            refine X_invS_v (pc := 36) (c_H_renew_C hT hs19 c21) ok_H_renew k_649 k_650 nd_14 (by decide) rfl (Nat.le_of_ble_eq_true rfl) dX11_restartMovement_36 ?_
            refine X_iinc (pc := 39) (i := 1) (q := 2) (v := (l1 + (1 : Int32))) [(1, .int (l1 + (1 : Int32))), (2, .ref (xP G w14)), (0, .ref (xP G 0))] dX11_restartMovement_39 rfl rfl (by decide) rfl ?_
            refine X_goto (pc := 42) 17 dX11_restartMovement_42 (by decide) ?_
            exact X_lvs [2, 0] rfl (ih hf)
          · replace hf := (if_neg hs19).symm.trans hf
            obtain ⟨hs22, hf⟩ := gd_some hf
            obtain ⟨q23, c24, hf⟩ := bd_some hf
            refine X_invS_v (pc := 36) (c_H_renew_S hT hs22 c24) ok_H_renew k_649 k_650 nd_14 (by decide) rfl (Nat.le_of_ble_eq_true rfl) dX11_restartMovement_36 ?_
            refine X_iinc (pc := 39) (i := 1) (q := 2) (v := (l1 + (1 : Int32))) [(1, .int (l1 + (1 : Int32))), (2, .ref (xP G w14)), (0, .ref (xP G 0))] dX11_restartMovement_39 rfl rfl (by decide) rfl ?_
            refine X_goto (pc := 42) 17 dX11_restartMovement_42 (by decide) ?_
            exact X_lvs [2, 0] rfl (ih hf)
theorem u_H_restartMovement_L17 {S : List xSh} {Rf : Nat → Nat → Option Nat} : ∀ (n : Nat) {l1 : Int32} {I : Nat → Nat → Int32} {L : Nat → Nat → Int64} {q : ((Nat → Nat → Int32) × (Nat → Nat → Int64))}, f_H_restartMovement_L17 S Rf n l1 I L = some q → FR S [1108, 1109, 1110, 1111, 1112, 1113, 1114, 1903, 2303] [1107] I q.1 L q.2 := by
  intro n
  induction n with
  | zero =>
    intro l1 I L q hf
    exact absurd (show none = some q from hf) (by simp)
  | succ n ih =>
    intro l1 I L q hf
    replace hf := (f_H_restartMovement_L17.eq_2 _ _ _ _ _ _).symm.trans hf
    by_cases c3 : (I 0 6) ≤ l1
    · replace hf := (if_pos c3).symm.trans hf
      exact FR.tr FR.rf (u_H_restartMovement_L47 xF hf) (by decide) (by decide)
    · replace hf := (if_neg c3).symm.trans hf
      obtain ⟨q12, c13, hf⟩ := bd_some hf
      rcases oc_cases hf with ⟨hr15, hf⟩ | ⟨w14, hr15, hf⟩
      · rw [hr15] at c13
        exact FR.tr FR.rf (ih hf) (by decide) (by decide)
      · rw [hr15] at c13
        by_cases hs16 : S[w14]? = some (.inl 4)
        · replace hf := (if_pos hs16).symm.trans hf
          obtain ⟨q17, c18, hf⟩ := bd_some hf
          exact FR.tr (FR.tr FR.rf (u_H_renew_D hs16 (q := q17) c18) (by decide) (by decide)) (ih hf) (by decide) (by decide)
        · replace hf := (if_neg hs16).symm.trans hf
          by_cases hs19 : S[w14]? = some (.inl 1)
          · replace hf := (if_pos hs19).symm.trans hf
            obtain ⟨q20, c21, hf⟩ := bd_some hf
            exact FR.tr (FR.tr FR.rf (u_H_renew_C hs19 (q := q20) c21) (by decide) (by decide)) (ih hf) (by decide) (by decide)
          · replace hf := (if_neg hs19).symm.trans hf
            obtain ⟨hs22, hf⟩ := gd_some hf
            obtain ⟨q23, c24, hf⟩ := bd_some hf
            exact FR.tr (FR.tr FR.rf (u_H_renew_S hs22 (q := q23) c24) (by decide) (by decide)) (ih hf) (by decide) (by decide)
def f_H_restartMovement (S : List xSh) (Rf : Nat → Nat → Option Nat) (I : Nat → Nat → Int32) (L : Nat → Nat → Int64) : Option ((Nat → Nat → Int32) × (Nat → Nat → Int64)) := ((f_Es_restart I L).bind fun q1 => (f_H_restartMovement_L17 S Rf xF (0 : Int32) (uI q1.1 13 3 (0 : Int32)) q1.2))
set_option maxRecDepth 100000 in
set_option maxHeartbeats 4000000 in
theorem c_H_restartMovement {G : xG} {S : List xSh} {Rf : Nat → Nat → Option Nat} (hT : xTH S Rf) {I : Nat → Nat → Int32} {L : Nat → Nat → Int64} {q : ((Nat → Nat → Int32) × (Nat → Nat → Int64))} (hf : f_H_restartMovement S Rf I L = some q) : CT G 5 m_H_restartMovement [.ref (xP G 0)] (S, I, L, Rf) (none, (S, q.1, q.2, Rf)) := by
  refine CT.of (by decide +kernel) (Nat.le_of_ble_eq_true rfl) ?_
  show X G 5 m_H_restartMovement 0 [(0, .ref (xP G 0))] [] (S, I, L, Rf) (none, (S, q.1, q.2, Rf))
  replace hf := (f_H_restartMovement.eq_1 _ _ _ _).symm.trans hf
  refine X_aload_n (pc := 0) (i := 0) 0 dX11_restartMovement_0 rfl rfl ?_
  refine X_getr (pc := 1) (a := 0) (ci := 10) (j := 0) (c := 1) (sh_0 hT) (by decide) k_494 (rf_0_0 hT) (fun _ h => h) dX11_restartMovement_1 ?_
  obtain ⟨q1, c2, hf⟩ := bd_some hf
  refine X_invV_v (pc := 4) (c_Es_restart hT c2) ok_Es_restart (ci := 5) (sh_1 hT) k_932 k_491 k_492 nd_1 (by decide) rfl (Nat.le_of_ble_eq_true rfl) dX11_restartMovement_4 ?_
  refine X_aload_n (pc := 7) (i := 0) 0 dX11_restartMovement_7 rfl rfl ?_
  refine X_getr (pc := 8) (a := 0) (ci := 10) (j := 7) (c := 13) (sh_0 hT) (by decide) k_501 (rf_0_4 hT) (fun _ h => h) dX11_restartMovement_8 ?_
  refine X_iconst (pc := 11) (0 : Int32) dX11_restartMovement_11 (by decide) ?_
  refine X_puti (pc := 12) (a := 13) (ci := 7) (j := 3) 3 rfl false (sh_13 hT) (by decide) k_162 rfl (fun h => by cases h) rfl dX11_restartMovement_12 ?_
  refine X_iconst (pc := 15) (0 : Int32) dX11_restartMovement_15 (by decide) ?_
  refine X_istore_n (pc := 16) (i := 1) [(1, .int (0 : Int32)), (0, .ref (xP G 0))] dX11_restartMovement_16 rfl (by decide) rfl ?_
  exact X_lvs [1, 0] rfl (x_H_restartMovement_L17 hT xF hf)
theorem u_H_restartMovement {S : List xSh} {Rf : Nat → Nat → Option Nat} {I : Nat → Nat → Int32} {L : Nat → Nat → Int64} {q : ((Nat → Nat → Int32) × (Nat → Nat → Int64))} (hf : f_H_restartMovement S Rf I L = some q) : FR S [1108, 1109, 1110, 1111, 1112, 1113, 1114, 1903, 2303] [1107] I q.1 L q.2 := by
  replace hf := (f_H_restartMovement.eq_1 _ _ _ _).symm.trans hf
  obtain ⟨q1, c2, hf⟩ := bd_some hf
  exact FR.tr (FR.fi (FR.tr FR.rf (u_Es_restart (q := q1) c2) (by decide) (by decide)) (by decide)) (u_H_restartMovement_L17 xF hf) (by decide) (by decide)
theorem dX7_has_0 : decode cX7_has 0 = .ok (.iload_n 1, 1) := by decide +kernel
theorem dX7_has_1 : decode cX7_has 1 = .ok (.ifCond .lt 35, 3) := by decide +kernel
theorem dX7_has_4 : decode cX7_has 4 = .ok (.iload_n 1, 1) := by decide +kernel
theorem dX7_has_5 : decode cX7_has 5 = .ok (.aload_n 0, 1) := by decide +kernel
theorem dX7_has_6 : decode cX7_has 6 = .ok (.getfield 15, 3) := by decide +kernel
theorem dX7_has_9 : decode cX7_has 9 = .ok (.if_icmp .ge 27, 3) := by decide +kernel
theorem dX7_has_12 : decode cX7_has 12 = .ok (.iload_n 1, 1) := by decide +kernel
theorem dX7_has_13 : decode cX7_has 13 = .ok (.aload_n 0, 1) := by decide +kernel
theorem dX7_has_14 : decode cX7_has 14 = .ok (.getfield 22, 3) := by decide +kernel
theorem dX7_has_17 : decode cX7_has 17 = .ok (.if_icmp .ge 19, 3) := by decide +kernel
theorem dX7_has_20 : decode cX7_has 20 = .ok (.iload_n 2, 1) := by decide +kernel
theorem dX7_has_21 : decode cX7_has 21 = .ok (.ifCond .lt 15, 3) := by decide +kernel
theorem dX7_has_24 : decode cX7_has 24 = .ok (.iload_n 2, 1) := by decide +kernel
theorem dX7_has_25 : decode cX7_has 25 = .ok (.aload_n 0, 1) := by decide +kernel
theorem dX7_has_26 : decode cX7_has 26 = .ok (.getfield 9, 3) := by decide +kernel
theorem dX7_has_29 : decode cX7_has 29 = .ok (.if_icmp .ge 7, 3) := by decide +kernel
theorem dX7_has_32 : decode cX7_has 32 = .ok (.iconst 1, 1) := by decide +kernel
theorem dX7_has_33 : decode cX7_has 33 = .ok (.goto 4, 3) := by decide +kernel
theorem dX7_has_36 : decode cX7_has 36 = .ok (.iconst 0, 1) := by decide +kernel
theorem dX7_has_37 : decode cX7_has 37 = .ok (.ireturn, 1) := by decide +kernel
def f_Ro_has_15 (a0 : Int32) (a1 : Int32) (I : Nat → Nat → Int32) (L : Nat → Nat → Int64) : Int32 := (if a0 < (0 : Int32) then (0 : Int32) else (if (I 15 1) ≤ a0 then (0 : Int32) else (if (I 15 3) ≤ a0 then (0 : Int32) else (if a1 < (0 : Int32) then (0 : Int32) else (if (I 15 0) ≤ a1 then (0 : Int32) else (1 : Int32))))))
set_option maxRecDepth 100000 in
set_option maxHeartbeats 4000000 in
theorem c_Ro_has_15 {G : xG} {S : List xSh} {Rf : Nat → Nat → Option Nat} (hT : xTH S Rf) {a0 : Int32} {a1 : Int32} {I : Nat → Nat → Int32} {L : Nat → Nat → Int64} {q : Int32} (hf : f_Ro_has_15 a0 a1 I L = q) : CT G 1 m_Ro_has [.ref (xP G 15), .int a0, .int a1] (S, I, L, Rf) (some (.int q), (S, I, L, Rf)) := by
  refine CT.of (by decide +kernel) (Nat.le_of_ble_eq_true rfl) ?_
  show X G 1 m_Ro_has 0 [(0, .ref (xP G 15)), (1, .int a0), (2, .int a1)] [] (S, I, L, Rf) (some (.int q), (S, I, L, Rf))
  replace hf := (f_Ro_has_15.eq_1 _ _ _ _).symm.trans hf
  refine X_iload_n (pc := 0) (i := 1) 1 dX7_has_0 rfl rfl ?_
  by_cases c1 : a0 < (0 : Int32)
  · replace hf := (if_pos c1).symm.trans hf
    refine X_if_lt_t (pc := 1) 36 dX7_has_1 (by decide) c1 ?_
    refine X_iconst (pc := 36) (0 : Int32) dX7_has_36 (by decide) ?_
    subst hf
    exact X_zreturn (pc := 37) rfl (nar_b (by decide)) dX7_has_37
  · replace hf := (if_neg c1).symm.trans hf
    refine X_if_lt_f (pc := 1) 36 dX7_has_1 (by decide) c1 ?_
    refine X_iload_n (pc := 4) (i := 1) 1 dX7_has_4 rfl rfl ?_
    refine X_aload_n (pc := 5) (i := 0) 0 dX7_has_5 rfl rfl ?_
    refine X_get (pc := 6) (a := 15) (ci := 7) (j := 1) (.int (I 15 1)) (sh_15 hT) (by decide) k_159 rfl dX7_has_6 ?_
    by_cases c2 : (I 15 1) ≤ a0
    · replace hf := (if_pos c2).symm.trans hf
      refine X_icmp_ge_t (pc := 9) 36 dX7_has_9 (by decide) c2 ?_
      refine X_iconst (pc := 36) (0 : Int32) dX7_has_36 (by decide) ?_
      subst hf
      exact X_zreturn (pc := 37) rfl (nar_b (by decide)) dX7_has_37
    · replace hf := (if_neg c2).symm.trans hf
      refine X_icmp_ge_f (pc := 9) 36 dX7_has_9 (by decide) c2 ?_
      refine X_iload_n (pc := 12) (i := 1) 1 dX7_has_12 rfl rfl ?_
      refine X_aload_n (pc := 13) (i := 0) 0 dX7_has_13 rfl rfl ?_
      refine X_get (pc := 14) (a := 15) (ci := 7) (j := 3) (.int (I 15 3)) (sh_15 hT) (by decide) k_161 rfl dX7_has_14 ?_
      by_cases c3 : (I 15 3) ≤ a0
      · replace hf := (if_pos c3).symm.trans hf
        refine X_icmp_ge_t (pc := 17) 36 dX7_has_17 (by decide) c3 ?_
        refine X_iconst (pc := 36) (0 : Int32) dX7_has_36 (by decide) ?_
        subst hf
        exact X_zreturn (pc := 37) rfl (nar_b (by decide)) dX7_has_37
      · replace hf := (if_neg c3).symm.trans hf
        refine X_icmp_ge_f (pc := 17) 36 dX7_has_17 (by decide) c3 ?_
        refine X_iload_n (pc := 20) (i := 2) 2 dX7_has_20 rfl rfl ?_
        by_cases c4 : a1 < (0 : Int32)
        · replace hf := (if_pos c4).symm.trans hf
          refine X_if_lt_t (pc := 21) 36 dX7_has_21 (by decide) c4 ?_
          refine X_iconst (pc := 36) (0 : Int32) dX7_has_36 (by decide) ?_
          subst hf
          exact X_zreturn (pc := 37) rfl (nar_b (by decide)) dX7_has_37
        · replace hf := (if_neg c4).symm.trans hf
          refine X_if_lt_f (pc := 21) 36 dX7_has_21 (by decide) c4 ?_
          refine X_iload_n (pc := 24) (i := 2) 2 dX7_has_24 rfl rfl ?_
          refine X_aload_n (pc := 25) (i := 0) 0 dX7_has_25 rfl rfl ?_
          refine X_get (pc := 26) (a := 15) (ci := 7) (j := 0) (.int (I 15 0)) (sh_15 hT) (by decide) k_158 rfl dX7_has_26 ?_
          by_cases c5 : (I 15 0) ≤ a1
          · replace hf := (if_pos c5).symm.trans hf
            refine X_icmp_ge_t (pc := 29) 36 dX7_has_29 (by decide) c5 ?_
            refine X_iconst (pc := 36) (0 : Int32) dX7_has_36 (by decide) ?_
            subst hf
            exact X_zreturn (pc := 37) rfl (nar_b (by decide)) dX7_has_37
          · replace hf := (if_neg c5).symm.trans hf
            refine X_icmp_ge_f (pc := 29) 36 dX7_has_29 (by decide) c5 ?_
            refine X_iconst (pc := 32) (1 : Int32) dX7_has_32 (by decide) ?_
            refine X_goto (pc := 33) 37 dX7_has_33 (by decide) ?_
            subst hf
            exact X_zreturn (pc := 37) rfl (nar_b (by decide)) dX7_has_37
theorem dX7_at_0 : decode cX7_at 0 = .ok (.aload_n 0, 1) := by decide +kernel
theorem dX7_at_1 : decode cX7_at 1 = .ok (.iload_n 1, 1) := by decide +kernel
theorem dX7_at_2 : decode cX7_at 2 = .ok (.iload_n 2, 1) := by decide +kernel
theorem dX7_at_3 : decode cX7_at 3 = .ok (.invokevirtual 25, 3) := by decide +kernel
theorem dX7_at_6 : decode cX7_at 6 = .ok (.ifCond .eq 19, 3) := by decide +kernel
theorem dX7_at_9 : decode cX7_at 9 = .ok (.aload_n 0, 1) := by decide +kernel
theorem dX7_at_10 : decode cX7_at 10 = .ok (.getfield 18, 3) := by decide +kernel
theorem dX7_at_13 : decode cX7_at 13 = .ok (.iload_n 1, 1) := by decide +kernel
theorem dX7_at_14 : decode cX7_at 14 = .ok (.aload_n 0, 1) := by decide +kernel
theorem dX7_at_15 : decode cX7_at 15 = .ok (.getfield 9, 3) := by decide +kernel
theorem dX7_at_18 : decode cX7_at 18 = .ok (.imul, 1) := by decide +kernel
theorem dX7_at_19 : decode cX7_at 19 = .ok (.iload_n 2, 1) := by decide +kernel
theorem dX7_at_20 : decode cX7_at 20 = .ok (.iadd, 1) := by decide +kernel
theorem dX7_at_21 : decode cX7_at 21 = .ok (.iaload, 1) := by decide +kernel
theorem dX7_at_22 : decode cX7_at 22 = .ok (.goto 4, 3) := by decide +kernel
theorem dX7_at_25 : decode cX7_at 25 = .ok (.iconst (-1), 1) := by decide +kernel
theorem dX7_at_26 : decode cX7_at 26 = .ok (.ireturn, 1) := by decide +kernel
def f_Ro_at_15 (a0 : Int32) (a1 : Int32) (I : Nat → Nat → Int32) (L : Nat → Nat → Int64) : Option Int32 := (if (f_Ro_has_15 a0 a1 I L) = (0 : Int32) then (some (-1 : Int32)) else (if (0 ≤ ((a0 * (I 15 0)) + a1) ∧ ((a0 * (I 15 0)) + a1) < (8000 : Int32)) then (some (I 16 (((a0 * (I 15 0)) + a1).toNatClampNeg))) else none))
set_option maxRecDepth 100000 in
set_option maxHeartbeats 4000000 in
theorem c_Ro_at_15 {G : xG} {S : List xSh} {Rf : Nat → Nat → Option Nat} (hT : xTH S Rf) {a0 : Int32} {a1 : Int32} {I : Nat → Nat → Int32} {L : Nat → Nat → Int64} {q : Int32} (hf : f_Ro_at_15 a0 a1 I L = some q) : CT G 2 m_Ro_at [.ref (xP G 15), .int a0, .int a1] (S, I, L, Rf) (some (.int q), (S, I, L, Rf)) := by
  refine CT.of (by decide +kernel) (Nat.le_of_ble_eq_true rfl) ?_
  show X G 2 m_Ro_at 0 [(0, .ref (xP G 15)), (1, .int a0), (2, .int a1)] [] (S, I, L, Rf) (some (.int q), (S, I, L, Rf))
  replace hf := (f_Ro_at_15.eq_1 _ _ _ _).symm.trans hf
  refine X_aload_n (pc := 0) (i := 0) 0 dX7_at_0 rfl rfl ?_
  refine X_iload_n (pc := 1) (i := 1) 1 dX7_at_1 rfl rfl ?_
  refine X_iload_n (pc := 2) (i := 2) 2 dX7_at_2 rfl rfl ?_
  refine X_invV_i (pc := 3) (c_Ro_has_15 hT rfl) ok_Ro_has (ci := 7) (sh_15 hT) k_942 k_943 k_944 nd_25 (by decide) rfl (Nat.le_of_ble_eq_true rfl) dX7_at_3 ?_
  by_cases c1 : (f_Ro_has_15 a0 a1 I L) = (0 : Int32)
  · replace hf := (if_pos c1).symm.trans hf
    refine X_if_eq_t (pc := 6) 25 dX7_at_6 (by decide) c1 ?_
    refine X_iconst (pc := 25) (-1 : Int32) dX7_at_25 (by decide) ?_
    cases hf
    exact X_ireturn (pc := 26) rfl dX7_at_26
  · replace hf := (if_neg c1).symm.trans hf
    refine X_if_eq_f (pc := 6) 25 dX7_at_6 (by decide) c1 ?_
    refine X_aload_n (pc := 9) (i := 0) 0 dX7_at_9 rfl rfl ?_
    refine X_getr (pc := 10) (a := 15) (ci := 7) (j := 2) (c := 16) (sh_15 hT) (by decide) k_160 (rf_15_2 hT) (fun _ h => h) dX7_at_10 ?_
    refine X_iload_n (pc := 13) (i := 1) 1 dX7_at_13 rfl rfl ?_
    refine X_aload_n (pc := 14) (i := 0) 0 dX7_at_14 rfl rfl ?_
    refine X_get (pc := 15) (a := 15) (ci := 7) (j := 0) (.int (I 15 0)) (sh_15 hT) (by decide) k_158 rfl dX7_at_15 ?_
    refine X_imul (pc := 18) dX7_at_18 ?_
    refine X_iload_n (pc := 19) (i := 2) 2 dX7_at_19 rfl rfl ?_
    refine X_iadd (pc := 20) dX7_at_20 ?_
    obtain ⟨c2, hf⟩ := gd_some hf
    refine X_ialdj (pc := 21) (j := ((a0 * (I 15 0)) + a1).toNatClampNeg) (I 16 (((a0 * (I 15 0)) + a1).toNatClampNeg)) (sh_16 hT) (vp_in_lit (N := 8000) c2 (by decide)) rfl rfl dX7_at_21 ?_
    refine X_goto (pc := 22) 26 dX7_at_22 (by decide) ?_
    cases hf
    exact X_ireturn (pc := 26) rfl dX7_at_26
theorem dX11_pushButton_0 : decode cX11_pushButton 0 = .ok (.aload_n 0, 1) := by decide +kernel
theorem dX11_pushButton_1 : decode cX11_pushButton 1 = .ok (.iload_n 1, 1) := by decide +kernel
theorem dX11_pushButton_2 : decode cX11_pushButton 2 = .ok (.invokevirtual 190, 3) := by decide +kernel
theorem dX11_pushButton_5 : decode cX11_pushButton 5 = .ok (.astore_n 3, 1) := by decide +kernel
theorem dX11_pushButton_6 : decode cX11_pushButton 6 = .ok (.aload_n 3, 1) := by decide +kernel
theorem dX11_pushButton_7 : decode cX11_pushButton 7 = .ok (.ifnonnull 7, 3) := by decide +kernel
theorem dX11_pushButton_10 : decode cX11_pushButton 10 = .ok (.iconst (-1), 1) := by decide +kernel
theorem dX11_pushButton_11 : decode cX11_pushButton 11 = .ok (.goto 8, 3) := by decide +kernel
theorem dX11_pushButton_14 : decode cX11_pushButton 14 = .ok (.aload_n 3, 1) := by decide +kernel
theorem dX11_pushButton_15 : decode cX11_pushButton 15 = .ok (.iload_n 2, 1) := by decide +kernel
theorem dX11_pushButton_16 : decode cX11_pushButton 16 = .ok (.invokevirtual 197, 3) := by decide +kernel
theorem dX11_pushButton_19 : decode cX11_pushButton 19 = .ok (.ireturn, 1) := by decide +kernel
def f_H_pushButton (S : List xSh) (Rf : Nat → Nat → Option Nat) (a0 : Int32) (a1 : Int32) (I : Nat → Nat → Int32) (L : Nat → Nat → Int64) : Option (Int32 × (Nat → Nat → Int32) × (Nat → Nat → Int64)) := ((f_H_chronographAt S Rf a0 I L).bind fun q1 => (oc q1 (some ((-1 : Int32), I, L)) fun w3 => (if S[w3]? = some (.inl 3) then ((f_Cr_push w3 a1 I L).bind fun q6 => (some (q6.1, q6.2.1, q6.2.2))) else none)))
set_option maxRecDepth 100000 in
set_option maxHeartbeats 4000000 in
theorem c_H_pushButton {G : xG} {S : List xSh} {Rf : Nat → Nat → Option Nat} (hT : xTH S Rf) {a0 : Int32} {a1 : Int32} {I : Nat → Nat → Int32} {L : Nat → Nat → Int64} {q : (Int32 × (Nat → Nat → Int32) × (Nat → Nat → Int64))} (hf : f_H_pushButton S Rf a0 a1 I L = some q) : CT G 3 m_H_pushButton [.ref (xP G 0), .int a0, .int a1] (S, I, L, Rf) (some (.int q.1), (S, q.2.1, q.2.2, Rf)) := by
  refine CT.of (by decide +kernel) (Nat.le_of_ble_eq_true rfl) ?_
  show X G 3 m_H_pushButton 0 [(0, .ref (xP G 0)), (1, .int a0), (2, .int a1)] [] (S, I, L, Rf) (some (.int q.1), (S, q.2.1, q.2.2, Rf))
  replace hf := (f_H_pushButton.eq_1 _ _ _ _ _ _).symm.trans hf
  refine X_aload_n (pc := 0) (i := 0) 0 dX11_pushButton_0 rfl rfl ?_
  refine X_iload_n (pc := 1) (i := 1) 1 dX11_pushButton_1 rfl rfl ?_
  obtain ⟨q1, c2, hf⟩ := bd_some hf
  rcases oc_cases hf with ⟨hr4, hf⟩ | ⟨w3, hr4, hf⟩
  · rw [hr4] at c2
    refine X_invV_aN (pc := 2) (c_H_chronographAt hT c2) ok_H_chronographAt (ci := 10) (sh_0 hT) k_856 k_858 k_18 nd_23 (by decide) rfl (Nat.le_of_ble_eq_true rfl) dX11_pushButton_2 ?_
    refine X_astore_nN (pc := 5) (i := 3) [(3, .null), (0, .ref (xP G 0)), (1, .int a0), (2, .int a1)] dX11_pushButton_5 rfl (by decide) rfl ?_
    refine X_aload_nN (pc := 6) (i := 3) 0 dX11_pushButton_6 rfl rfl ?_
    refine X_ifnonnull_f (pc := 7) dX11_pushButton_7 ?_
    refine X_iconst (pc := 10) (-1 : Int32) dX11_pushButton_10 (by decide) ?_
    refine X_goto (pc := 11) 19 dX11_pushButton_11 (by decide) ?_
    cases hf
    exact X_ireturn (pc := 19) rfl dX11_pushButton_19
  · obtain ⟨hs5, hf⟩ := gd_some hf
    rw [hr4] at c2
    refine X_invV_aS (pc := 2) (c_H_chronographAt hT c2) ok_H_chronographAt (ci := 10) (sh_0 hT) k_856 k_858 k_18 nd_23 (by decide) rfl (Nat.le_of_ble_eq_true rfl) dX11_pushButton_2 ?_
    refine X_astore_n (pc := 5) (i := 3) [(3, .ref (xP G w3)), (0, .ref (xP G 0)), (1, .int a0), (2, .int a1)] dX11_pushButton_5 rfl (by decide) rfl ?_
    refine X_aload_n (pc := 6) (i := 3) 0 dX11_pushButton_6 rfl rfl ?_
    refine X_ifnonnull_t (pc := 7) 14 dX11_pushButton_7 (by decide) ?_
    refine X_aload_n (pc := 14) (i := 3) 0 dX11_pushButton_14 rfl rfl ?_
    refine X_iload_n (pc := 15) (i := 2) 3 dX11_pushButton_15 rfl rfl ?_
    obtain ⟨q6, c7, hf⟩ := bd_some hf
    refine X_invV_i (pc := 16) (c_Cr_push hT hs5 c7) ok_Cr_push (ci := 3) hs5 k_864 k_865 k_866 nd_8 (by decide) rfl (Nat.le_of_ble_eq_true rfl) dX11_pushButton_16 ?_
    cases hf
    exact X_ireturn (pc := 19) rfl dX11_pushButton_19
theorem u_H_pushButton {S : List xSh} {Rf : Nat → Nat → Option Nat} {a0 : Int32} {a1 : Int32} {I : Nat → Nat → Int32} {L : Nat → Nat → Int64} {q : (Int32 × (Nat → Nat → Int32) × (Nat → Nat → Int64))} (hf : f_H_pushButton S Rf a0 a1 I L = some q) : FR S [] [] I q.2.1 L q.2.2 := by
  replace hf := (f_H_pushButton.eq_1 _ _ _ _ _ _).symm.trans hf
  obtain ⟨q1, c2, hf⟩ := bd_some hf
  rcases oc_cases hf with ⟨hr4, hf⟩ | ⟨w3, hr4, hf⟩
  · rw [hr4] at c2
    cases hf
    exact FR.rf
  · obtain ⟨hs5, hf⟩ := gd_some hf
    rw [hr4] at c2
    obtain ⟨q6, c7, hf⟩ := bd_some hf
    cases hf
    exact (FR.tr FR.rf (u_Cr_push hs5 (q := q6) c7) (by decide) (by decide))
theorem dX11_repeat_0 : decode cX11_repeat 0 = .ok (.aload_n 0, 1) := by decide +kernel
theorem dX11_repeat_1 : decode cX11_repeat 1 = .ok (.getfield 60, 3) := by decide +kernel
theorem dX11_repeat_4 : decode cX11_repeat 4 = .ok (.iload_n 1, 1) := by decide +kernel
theorem dX11_repeat_5 : decode cX11_repeat 5 = .ok (.iconst 1, 1) := by decide +kernel
theorem dX11_repeat_6 : decode cX11_repeat 6 = .ok (.invokevirtual 267, 3) := by decide +kernel
theorem dX11_repeat_9 : decode cX11_repeat 9 = .ok (.istore_n 2, 1) := by decide +kernel
theorem dX11_repeat_10 : decode cX11_repeat 10 = .ok (.aload_n 0, 1) := by decide +kernel
theorem dX11_repeat_11 : decode cX11_repeat 11 = .ok (.getfield 60, 3) := by decide +kernel
theorem dX11_repeat_14 : decode cX11_repeat 14 = .ok (.iload_n 1, 1) := by decide +kernel
theorem dX11_repeat_15 : decode cX11_repeat 15 = .ok (.iconst 2, 1) := by decide +kernel
theorem dX11_repeat_16 : decode cX11_repeat 16 = .ok (.invokevirtual 267, 3) := by decide +kernel
theorem dX11_repeat_19 : decode cX11_repeat 19 = .ok (.istore_n 3, 1) := by decide +kernel
theorem dX11_repeat_20 : decode cX11_repeat 20 = .ok (.aload_n 0, 1) := by decide +kernel
theorem dX11_repeat_21 : decode cX11_repeat 21 = .ok (.getfield 60, 3) := by decide +kernel
theorem dX11_repeat_24 : decode cX11_repeat 24 = .ok (.iload_n 1, 1) := by decide +kernel
theorem dX11_repeat_25 : decode cX11_repeat 25 = .ok (.iconst 0, 1) := by decide +kernel
theorem dX11_repeat_26 : decode cX11_repeat 26 = .ok (.invokevirtual 267, 3) := by decide +kernel
theorem dX11_repeat_29 : decode cX11_repeat 29 = .ok (.tableswitch 92 0 5 #[39, 45, 54, 63, 70, 86], 39) := by decide +kernel
theorem dX11_repeat_68 : decode cX11_repeat 68 = .ok (.aload_n 0, 1) := by decide +kernel
theorem dX11_repeat_69 : decode cX11_repeat 69 = .ok (.iload_n 2, 1) := by decide +kernel
theorem dX11_repeat_70 : decode cX11_repeat 70 = .ok (.invokevirtual 175, 3) := by decide +kernel
theorem dX11_repeat_73 : decode cX11_repeat 73 = .ok (.ireturn, 1) := by decide +kernel
theorem dX11_repeat_74 : decode cX11_repeat 74 = .ok (.aload_n 0, 1) := by decide +kernel
theorem dX11_repeat_75 : decode cX11_repeat 75 = .ok (.getfield 10, 3) := by decide +kernel
theorem dX11_repeat_78 : decode cX11_repeat 78 = .ok (.iload_n 2, 1) := by decide +kernel
theorem dX11_repeat_79 : decode cX11_repeat 79 = .ok (.invokevirtual 180, 3) := by decide +kernel
theorem dX11_repeat_82 : decode cX11_repeat 82 = .ok (.ireturn, 1) := by decide +kernel
theorem dX11_repeat_83 : decode cX11_repeat 83 = .ok (.aload_n 0, 1) := by decide +kernel
theorem dX11_repeat_84 : decode cX11_repeat 84 = .ok (.getfield 10, 3) := by decide +kernel
theorem dX11_repeat_87 : decode cX11_repeat 87 = .ok (.iload_n 2, 1) := by decide +kernel
theorem dX11_repeat_88 : decode cX11_repeat 88 = .ok (.invokevirtual 187, 3) := by decide +kernel
theorem dX11_repeat_91 : decode cX11_repeat 91 = .ok (.ireturn, 1) := by decide +kernel
theorem dX11_repeat_92 : decode cX11_repeat 92 = .ok (.aload_n 0, 1) := by decide +kernel
theorem dX11_repeat_93 : decode cX11_repeat 93 = .ok (.iload_n 2, 1) := by decide +kernel
theorem dX11_repeat_94 : decode cX11_repeat 94 = .ok (.iload_n 3, 1) := by decide +kernel
theorem dX11_repeat_95 : decode cX11_repeat 95 = .ok (.invokevirtual 398, 3) := by decide +kernel
theorem dX11_repeat_98 : decode cX11_repeat 98 = .ok (.ireturn, 1) := by decide +kernel
theorem dX11_repeat_99 : decode cX11_repeat 99 = .ok (.aload_n 0, 1) := by decide +kernel
theorem dX11_repeat_100 : decode cX11_repeat 100 = .ok (.iload_n 2, 1) := by decide +kernel
theorem dX11_repeat_101 : decode cX11_repeat 101 = .ok (.iload_n 3, 1) := by decide +kernel
theorem dX11_repeat_102 : decode cX11_repeat 102 = .ok (.aload_n 0, 1) := by decide +kernel
theorem dX11_repeat_103 : decode cX11_repeat 103 = .ok (.getfield 60, 3) := by decide +kernel
theorem dX11_repeat_106 : decode cX11_repeat 106 = .ok (.iload_n 1, 1) := by decide +kernel
theorem dX11_repeat_107 : decode cX11_repeat 107 = .ok (.iconst 3, 1) := by decide +kernel
theorem dX11_repeat_108 : decode cX11_repeat 108 = .ok (.invokevirtual 267, 3) := by decide +kernel
theorem dX11_repeat_111 : decode cX11_repeat 111 = .ok (.invokevirtual 210, 3) := by decide +kernel
theorem dX11_repeat_114 : decode cX11_repeat 114 = .ok (.ireturn, 1) := by decide +kernel
theorem dX11_repeat_115 : decode cX11_repeat 115 = .ok (.aload_n 0, 1) := by decide +kernel
theorem dX11_repeat_116 : decode cX11_repeat 116 = .ok (.iload_n 2, 1) := by decide +kernel
theorem dX11_repeat_117 : decode cX11_repeat 117 = .ok (.invokevirtual 214, 3) := by decide +kernel
theorem dX11_repeat_120 : decode cX11_repeat 120 = .ok (.ireturn, 1) := by decide +kernel
theorem dX11_repeat_121 : decode cX11_repeat 121 = .ok (.iconst (-1), 1) := by decide +kernel
theorem dX11_repeat_122 : decode cX11_repeat 122 = .ok (.ireturn, 1) := by decide +kernel
def f_H_repeat (S : List xSh) (Rf : Nat → Nat → Option Nat) (a0 : Int32) (I : Nat → Nat → Int32) (L : Nat → Nat → Int64) : Option (Int32 × (Nat → Nat → Int32) × (Nat → Nat → Int64)) := ((f_Ro_at_15 a0 (1 : Int32) I L).bind fun q1 => ((f_Ro_at_15 a0 (2 : Int32) I L).bind fun q3 => ((f_Ro_at_15 a0 (0 : Int32) I L).bind fun q5 => (if q5 = (0 : Int32) then ((f_H_takeSteps S Rf q1 I L).bind fun q13 => (some (q13.1, q13.2.1, q13.2.2))) else (if q5 = (1 : Int32) then ((f_Es_push q1 I L).bind fun q15 => (some (q15.1, q15.2.1, q15.2.2))) else (if q5 = (2 : Int32) then ((f_Es_windUp q1 I L).bind fun q17 => (some (q17.1, q17.2.1, q17.2.2))) else (if q5 = (3 : Int32) then ((f_H_pushButton S Rf q1 q3 I L).bind fun q19 => (some (q19.1, q19.2.1, q19.2.2))) else (if q5 = (4 : Int32) then ((f_Ro_at_15 a0 (3 : Int32) I L).bind fun q21 => ((f_H_putRight S Rf q1 q3 q21 I L).bind fun q23 => (some (q23.1, q23.2.1, q23.2.2)))) else (if q5 = (5 : Int32) then ((f_H_strikeNow S Rf q1 I L).bind fun q25 => (some (q25.1, q25.2.1, q25.2.2))) else (some ((-1 : Int32), I, L)))))))))))
set_option maxRecDepth 100000 in
set_option maxHeartbeats 4000000 in
theorem c_H_repeat {G : xG} {S : List xSh} {Rf : Nat → Nat → Option Nat} (hT : xTH S Rf) {a0 : Int32} {I : Nat → Nat → Int32} {L : Nat → Nat → Int64} {q : (Int32 × (Nat → Nat → Int32) × (Nat → Nat → Int64))} (hf : f_H_repeat S Rf a0 I L = some q) : CT G 6 m_H_repeat [.ref (xP G 0), .int a0] (S, I, L, Rf) (some (.int q.1), (S, q.2.1, q.2.2, Rf)) := by
  refine CT.of (by decide +kernel) (Nat.le_of_ble_eq_true rfl) ?_
  show X G 6 m_H_repeat 0 [(0, .ref (xP G 0)), (1, .int a0)] [] (S, I, L, Rf) (some (.int q.1), (S, q.2.1, q.2.2, Rf))
  replace hf := (f_H_repeat.eq_1 _ _ _ _ _).symm.trans hf
  refine X_aload_n (pc := 0) (i := 0) 0 dX11_repeat_0 rfl rfl ?_
  refine X_getr (pc := 1) (a := 0) (ci := 10) (j := 8) (c := 15) (sh_0 hT) (by decide) k_502 (rf_0_5 hT) (fun _ h => h) dX11_repeat_1 ?_
  refine X_iload_n (pc := 4) (i := 1) 1 dX11_repeat_4 rfl rfl ?_
  refine X_iconst (pc := 5) (1 : Int32) dX11_repeat_5 (by decide) ?_
  obtain ⟨q1, c2, hf⟩ := bd_some hf
  refine X_invV_i (pc := 6) (c_Ro_at_15 hT c2) ok_Ro_at (ci := 7) (sh_15 hT) k_938 k_939 k_940 nd_21 (by decide) rfl (Nat.le_of_ble_eq_true rfl) dX11_repeat_6 ?_
  refine X_istore_n (pc := 9) (i := 2) [(2, .int q1), (0, .ref (xP G 0)), (1, .int a0)] dX11_repeat_9 rfl (by decide) rfl ?_
  refine X_aload_n (pc := 10) (i := 0) 1 dX11_repeat_10 rfl rfl ?_
  refine X_getr (pc := 11) (a := 0) (ci := 10) (j := 8) (c := 15) (sh_0 hT) (by decide) k_502 (rf_0_5 hT) (fun _ h => h) dX11_repeat_11 ?_
  refine X_iload_n (pc := 14) (i := 1) 2 dX11_repeat_14 rfl rfl ?_
  refine X_iconst (pc := 15) (2 : Int32) dX11_repeat_15 (by decide) ?_
  obtain ⟨q3, c4, hf⟩ := bd_some hf
  refine X_invV_i (pc := 16) (c_Ro_at_15 hT c4) ok_Ro_at (ci := 7) (sh_15 hT) k_938 k_939 k_940 nd_21 (by decide) rfl (Nat.le_of_ble_eq_true rfl) dX11_repeat_16 ?_
  refine X_istore_n (pc := 19) (i := 3) [(3, .int q3), (2, .int q1), (0, .ref (xP G 0)), (1, .int a0)] dX11_repeat_19 rfl (by decide) rfl ?_
  refine X_aload_n (pc := 20) (i := 0) 2 dX11_repeat_20 rfl rfl ?_
  refine X_getr (pc := 21) (a := 0) (ci := 10) (j := 8) (c := 15) (sh_0 hT) (by decide) k_502 (rf_0_5 hT) (fun _ h => h) dX11_repeat_21 ?_
  refine X_iload_n (pc := 24) (i := 1) 3 dX11_repeat_24 rfl rfl ?_
  refine X_iconst (pc := 25) (0 : Int32) dX11_repeat_25 (by decide) ?_
  obtain ⟨q5, c6, hf⟩ := bd_some hf
  refine X_invV_i (pc := 26) (c_Ro_at_15 hT c6) ok_Ro_at (ci := 7) (sh_15 hT) k_938 k_939 k_940 nd_21 (by decide) rfl (Nat.le_of_ble_eq_true rfl) dX11_repeat_26 ?_
  by_cases c7 : q5 = (0 : Int32)
  · replace hf := (if_pos c7).symm.trans hf
    refine X_tabIn (pc := 29) (off := 39) (0) 68 dX11_repeat_29 (by rw [c7]; rfl) (by decide) ?_
    refine X_aload_n (pc := 68) (i := 0) 2 dX11_repeat_68 rfl rfl ?_
    refine X_iload_n (pc := 69) (i := 2) 1 dX11_repeat_69 rfl rfl ?_
    obtain ⟨q13, c14, hf⟩ := bd_some hf
    refine X_invV_i (pc := 70) (c_H_takeSteps hT c14) ok_H_takeSteps (ci := 10) (sh_0 hT) k_735 k_737 k_12 nd_8 (by decide) rfl (Nat.le_of_ble_eq_true rfl) dX11_repeat_70 ?_
    cases hf
    exact X_ireturn (pc := 73) rfl dX11_repeat_73
  · replace hf := (if_neg c7).symm.trans hf
    by_cases c8 : q5 = (1 : Int32)
    · replace hf := (if_pos c8).symm.trans hf
      refine X_tabIn (pc := 29) (off := 45) (1) 74 dX11_repeat_29 (by rw [c8]; rfl) (by decide) ?_
      refine X_aload_n (pc := 74) (i := 0) 2 dX11_repeat_74 rfl rfl ?_
      refine X_getr (pc := 75) (a := 0) (ci := 10) (j := 0) (c := 1) (sh_0 hT) (by decide) k_494 (rf_0_0 hT) (fun _ h => h) dX11_repeat_75 ?_
      refine X_iload_n (pc := 78) (i := 2) 1 dX11_repeat_78 rfl rfl ?_
      obtain ⟨q15, c16, hf⟩ := bd_some hf
      refine X_invV_i (pc := 79) (c_Es_push hT c16) ok_Es_push (ci := 5) (sh_1 hT) k_838 k_839 k_840 nd_8 (by decide) rfl (Nat.le_of_ble_eq_true rfl) dX11_repeat_79 ?_
      cases hf
      exact X_ireturn (pc := 82) rfl dX11_repeat_82
    · replace hf := (if_neg c8).symm.trans hf
      by_cases c9 : q5 = (2 : Int32)
      · replace hf := (if_pos c9).symm.trans hf
        refine X_tabIn (pc := 29) (off := 54) (2) 83 dX11_repeat_29 (by rw [c9]; rfl) (by decide) ?_
        refine X_aload_n (pc := 83) (i := 0) 2 dX11_repeat_83 rfl rfl ?_
        refine X_getr (pc := 84) (a := 0) (ci := 10) (j := 0) (c := 1) (sh_0 hT) (by decide) k_494 (rf_0_0 hT) (fun _ h => h) dX11_repeat_84 ?_
        refine X_iload_n (pc := 87) (i := 2) 1 dX11_repeat_87 rfl rfl ?_
        obtain ⟨q17, c18, hf⟩ := bd_some hf
        refine X_invV_i (pc := 88) (c_Es_windUp hT c18) ok_Es_windUp (ci := 5) (sh_1 hT) k_848 k_849 k_850 nd_8 (by decide) rfl (Nat.le_of_ble_eq_true rfl) dX11_repeat_88 ?_
        cases hf
        exact X_ireturn (pc := 91) rfl dX11_repeat_91
      · replace hf := (if_neg c9).symm.trans hf
        by_cases c10 : q5 = (3 : Int32)
        · replace hf := (if_pos c10).symm.trans hf
          refine X_tabIn (pc := 29) (off := 63) (3) 92 dX11_repeat_29 (by rw [c10]; rfl) (by decide) ?_
          refine X_aload_n (pc := 92) (i := 0) 2 dX11_repeat_92 rfl rfl ?_
          refine X_iload_n (pc := 93) (i := 2) 1 dX11_repeat_93 rfl rfl ?_
          refine X_iload_n (pc := 94) (i := 3) 0 dX11_repeat_94 rfl rfl ?_
          obtain ⟨q19, c20, hf⟩ := bd_some hf
          refine X_invV_i (pc := 95) (c_H_pushButton hT c20) ok_H_pushButton (ci := 10) (sh_0 hT) k_946 k_948 k_25 nd_21 (by decide) rfl (Nat.le_of_ble_eq_true rfl) dX11_repeat_95 ?_
          cases hf
          exact X_ireturn (pc := 98) rfl dX11_repeat_98
        · replace hf := (if_neg c10).symm.trans hf
          by_cases c11 : q5 = (4 : Int32)
          · replace hf := (if_pos c11).symm.trans hf
            refine X_tabIn (pc := 29) (off := 70) (4) 99 dX11_repeat_29 (by rw [c11]; rfl) (by decide) ?_
            refine X_aload_n (pc := 99) (i := 0) 2 dX11_repeat_99 rfl rfl ?_
            refine X_iload_n (pc := 100) (i := 2) 1 dX11_repeat_100 rfl rfl ?_
            refine X_iload_n (pc := 101) (i := 3) 0 dX11_repeat_101 rfl rfl ?_
            refine X_aload_n (pc := 102) (i := 0) 2 dX11_repeat_102 rfl rfl ?_
            refine X_getr (pc := 103) (a := 0) (ci := 10) (j := 8) (c := 15) (sh_0 hT) (by decide) k_502 (rf_0_5 hT) (fun _ h => h) dX11_repeat_103 ?_
            refine X_iload_n (pc := 106) (i := 1) 3 dX11_repeat_106 rfl rfl ?_
            refine X_iconst (pc := 107) (3 : Int32) dX11_repeat_107 (by decide) ?_
            obtain ⟨q21, c22, hf⟩ := bd_some hf
            refine X_invV_i (pc := 108) (c_Ro_at_15 hT c22) ok_Ro_at (ci := 7) (sh_15 hT) k_938 k_939 k_940 nd_21 (by decide) rfl (Nat.le_of_ble_eq_true rfl) dX11_repeat_108 ?_
            obtain ⟨q23, c24, hf⟩ := bd_some hf
            refine X_invV_i (pc := 111) (c_H_putRight hT c24) ok_H_putRight (ci := 10) (sh_0 hT) k_900 k_902 k_21 nd_16 (by decide) rfl (Nat.le_of_ble_eq_true rfl) dX11_repeat_111 ?_
            cases hf
            exact X_ireturn (pc := 114) rfl dX11_repeat_114
          · replace hf := (if_neg c11).symm.trans hf
            by_cases c12 : q5 = (5 : Int32)
            · replace hf := (if_pos c12).symm.trans hf
              refine X_tabIn (pc := 29) (off := 86) (5) 115 dX11_repeat_29 (by rw [c12]; rfl) (by decide) ?_
              refine X_aload_n (pc := 115) (i := 0) 2 dX11_repeat_115 rfl rfl ?_
              refine X_iload_n (pc := 116) (i := 2) 1 dX11_repeat_116 rfl rfl ?_
              obtain ⟨q25, c26, hf⟩ := bd_some hf
              refine X_invV_i (pc := 117) (c_H_strikeNow hT c26) ok_H_strikeNow (ci := 10) (sh_0 hT) k_920 k_922 k_22 nd_8 (by decide) rfl (Nat.le_of_ble_eq_true rfl) dX11_repeat_117 ?_
              cases hf
              exact X_ireturn (pc := 120) rfl dX11_repeat_120
            · replace hf := (if_neg c12).symm.trans hf
              refine X_tabOut (pc := 29) 121 dX11_repeat_29 (by have zc7 := lv_neT (a := 0) c7 rfl; have zc8 := lv_neT (a := 1) c8 rfl; have zc9 := lv_neT (a := 2) c9 rfl; have zc10 := lv_neT (a := 3) c10 rfl; have zc11 := lv_neT (a := 4) c11 rfl; have zc12 := lv_neT (a := 5) c12 rfl; omega) (by decide) ?_
              refine X_iconst (pc := 121) (-1 : Int32) dX11_repeat_121 (by decide) ?_
              cases hf
              exact X_ireturn (pc := 122) rfl dX11_repeat_122
theorem u_H_repeat {S : List xSh} {Rf : Nat → Nat → Option Nat} {a0 : Int32} {I : Nat → Nat → Int32} {L : Nat → Nat → Int64} {q : (Int32 × (Nat → Nat → Int32) × (Nat → Nat → Int64))} (hf : f_H_repeat S Rf a0 I L = some q) : FR S [10, 14, 1108, 1109, 1110, 1111, 1112, 1113, 1114, 1903, 2303] [1107] I q.2.1 L q.2.2 := by
  replace hf := (f_H_repeat.eq_1 _ _ _ _ _).symm.trans hf
  obtain ⟨q1, c2, hf⟩ := bd_some hf
  obtain ⟨q3, c4, hf⟩ := bd_some hf
  obtain ⟨q5, c6, hf⟩ := bd_some hf
  by_cases c7 : q5 = (0 : Int32)
  · replace hf := (if_pos c7).symm.trans hf
    obtain ⟨q13, c14, hf⟩ := bd_some hf
    cases hf
    exact (FR.tr FR.rf (u_H_takeSteps (q := q13) c14) (by decide) (by decide))
  · replace hf := (if_neg c7).symm.trans hf
    by_cases c8 : q5 = (1 : Int32)
    · replace hf := (if_pos c8).symm.trans hf
      obtain ⟨q15, c16, hf⟩ := bd_some hf
      cases hf
      exact (FR.tr FR.rf (u_Es_push (q := q15) c16) (by decide) (by decide))
    · replace hf := (if_neg c8).symm.trans hf
      by_cases c9 : q5 = (2 : Int32)
      · replace hf := (if_pos c9).symm.trans hf
        obtain ⟨q17, c18, hf⟩ := bd_some hf
        cases hf
        exact (FR.tr FR.rf (u_Es_windUp (q := q17) c18) (by decide) (by decide))
      · replace hf := (if_neg c9).symm.trans hf
        by_cases c10 : q5 = (3 : Int32)
        · replace hf := (if_pos c10).symm.trans hf
          obtain ⟨q19, c20, hf⟩ := bd_some hf
          cases hf
          exact (FR.tr FR.rf (u_H_pushButton (q := q19) c20) (by decide) (by decide))
        · replace hf := (if_neg c10).symm.trans hf
          by_cases c11 : q5 = (4 : Int32)
          · replace hf := (if_pos c11).symm.trans hf
            obtain ⟨q21, c22, hf⟩ := bd_some hf
            obtain ⟨q23, c24, hf⟩ := bd_some hf
            cases hf
            exact (FR.tr FR.rf (u_H_putRight (q := q23) c24) (by decide) (by decide))
          · replace hf := (if_neg c11).symm.trans hf
            by_cases c12 : q5 = (5 : Int32)
            · replace hf := (if_pos c12).symm.trans hf
              obtain ⟨q25, c26, hf⟩ := bd_some hf
              cases hf
              exact (FR.tr FR.rf (u_H_strikeNow (q := q25) c26) (by decide) (by decide))
            · replace hf := (if_neg c12).symm.trans hf
              cases hf
              exact FR.rf
theorem dX11_back_0 : decode cX11_back 0 = .ok (.iload_n 1, 1) := by decide +kernel
theorem dX11_back_1 : decode cX11_back 1 = .ok (.iconst 0, 1) := by decide +kernel
theorem dX11_back_2 : decode cX11_back 2 = .ok (.aload_n 0, 1) := by decide +kernel
theorem dX11_back_3 : decode cX11_back 3 = .ok (.getfield 60, 3) := by decide +kernel
theorem dX11_back_6 : decode cX11_back 6 = .ok (.getfield 95, 3) := by decide +kernel
theorem dX11_back_9 : decode cX11_back 9 = .ok (.invokestatic 113, 3) := by decide +kernel
theorem dX11_back_12 : decode cX11_back 12 = .ok (.ifCond .ne 5, 3) := by decide +kernel
theorem dX11_back_15 : decode cX11_back 15 = .ok (.iconst (-1), 1) := by decide +kernel
theorem dX11_back_16 : decode cX11_back 16 = .ok (.ireturn, 1) := by decide +kernel
theorem dX11_back_17 : decode cX11_back 17 = .ok (.aload_n 0, 1) := by decide +kernel
theorem dX11_back_18 : decode cX11_back 18 = .ok (.getfield 99, 3) := by decide +kernel
theorem dX11_back_21 : decode cX11_back 21 = .ok (.ifCond .ne 6, 3) := by decide +kernel
theorem dX11_back_24 : decode cX11_back 24 = .ok (.bipush (-2), 2) := by decide +kernel
theorem dX11_back_26 : decode cX11_back 26 = .ok (.ireturn, 1) := by decide +kernel
theorem dX11_back_27 : decode cX11_back 27 = .ok (.aload_n 0, 1) := by decide +kernel
theorem dX11_back_28 : decode cX11_back 28 = .ok (.invokevirtual 217, 3) := by decide +kernel
theorem dX11_back_31 : decode cX11_back 31 = .ok (.iconst 0, 1) := by decide +kernel
theorem dX11_back_32 : decode cX11_back 32 = .ok (.istore_n 2, 1) := by decide +kernel
theorem dX11_back_33 : decode cX11_back 33 = .ok (.iload_n 2, 1) := by decide +kernel
theorem dX11_back_34 : decode cX11_back 34 = .ok (.iload_n 1, 1) := by decide +kernel
theorem dX11_back_35 : decode cX11_back 35 = .ok (.if_icmp .ge 15, 3) := by decide +kernel
theorem dX11_back_38 : decode cX11_back 38 = .ok (.aload_n 0, 1) := by decide +kernel
theorem dX11_back_39 : decode cX11_back 39 = .ok (.iload_n 2, 1) := by decide +kernel
theorem dX11_back_40 : decode cX11_back 40 = .ok (.invokevirtual 220, 3) := by decide +kernel
theorem dX11_back_43 : decode cX11_back 43 = .ok (.pop, 1) := by decide +kernel
theorem dX11_back_44 : decode cX11_back 44 = .ok (.iinc 2 1, 3) := by decide +kernel
theorem dX11_back_47 : decode cX11_back 47 = .ok (.goto (-14), 3) := by decide +kernel
theorem dX11_back_50 : decode cX11_back 50 = .ok (.aload_n 0, 1) := by decide +kernel
theorem dX11_back_51 : decode cX11_back 51 = .ok (.getfield 60, 3) := by decide +kernel
theorem dX11_back_54 : decode cX11_back 54 = .ok (.iload_n 1, 1) := by decide +kernel
theorem dX11_back_55 : decode cX11_back 55 = .ok (.putfield 95, 3) := by decide +kernel
theorem dX11_back_58 : decode cX11_back 58 = .ok (.iconst 0, 1) := by decide +kernel
theorem dX11_back_59 : decode cX11_back 59 = .ok (.ireturn, 1) := by decide +kernel
def f_H_back_L33 (S : List xSh) (Rf : Nat → Nat → Option Nat) : Nat → Int32 → Int32 → (Nat → Nat → Int32) → (Nat → Nat → Int64) → Option (Int32 × (Nat → Nat → Int32) × (Nat → Nat → Int64))
  | 0, _, _, _, _ => none
  | n + 1, l1, l2, I, L => (if l1 ≤ l2 then (some ((0 : Int32), (uI I 15 3 l1), L)) else ((f_H_repeat S Rf l2 I L).bind fun q6 => (f_H_back_L33 S Rf n l1 (l2 + (1 : Int32)) q6.2.1 q6.2.2)))
set_option maxRecDepth 100000 in
set_option maxHeartbeats 4000000 in
theorem x_H_back_L33 {G : xG} {S : List xSh} {Rf : Nat → Nat → Option Nat} (hT : xTH S Rf) : ∀ (n : Nat) {l1 : Int32} {l2 : Int32} {I : Nat → Nat → Int32} {L : Nat → Nat → Int64} {q : (Int32 × (Nat → Nat → Int32) × (Nat → Nat → Int64))}, f_H_back_L33 S Rf n l1 l2 I L = some q → X G 7 m_H_back 33 [(0, .ref (xP G 0)), (1, .int l1), (2, .int l2)] [] (S, I, L, Rf) (some (.int q.1), (S, q.2.1, q.2.2, Rf)) := by
  intro n
  induction n with
  | zero =>
    intro l1 l2 I L q hf
    exact absurd (show none = some q from hf) (by simp)
  | succ n ih =>
    intro l1 l2 I L q hf
    replace hf := (f_H_back_L33.eq_2 _ _ _ _ _ _ _).symm.trans hf
    refine X_iload_n (pc := 33) (i := 2) 2 dX11_back_33 rfl rfl ?_
    refine X_iload_n (pc := 34) (i := 1) 1 dX11_back_34 rfl rfl ?_
    by_cases c5 : l1 ≤ l2
    · replace hf := (if_pos c5).symm.trans hf
      refine X_icmp_ge_t (pc := 35) 50 dX11_back_35 (by decide) c5 ?_
      refine X_aload_n (pc := 50) (i := 0) 0 dX11_back_50 rfl rfl ?_
      refine X_getr (pc := 51) (a := 0) (ci := 10) (j := 8) (c := 15) (sh_0 hT) (by decide) k_502 (rf_0_5 hT) (fun _ h => h) dX11_back_51 ?_
      refine X_iload_n (pc := 54) (i := 1) 1 dX11_back_54 rfl rfl ?_
      refine X_puti (pc := 55) (a := 15) (ci := 7) (j := 3) 3 rfl false (sh_15 hT) (by decide) k_162 rfl (fun h => by cases h) rfl dX11_back_55 ?_
      refine X_iconst (pc := 58) (0 : Int32) dX11_back_58 (by decide) ?_
      cases hf
      exact X_ireturn (pc := 59) rfl dX11_back_59
    · replace hf := (if_neg c5).symm.trans hf
      refine X_icmp_ge_f (pc := 35) 50 dX11_back_35 (by decide) c5 ?_
      refine X_aload_n (pc := 38) (i := 0) 0 dX11_back_38 rfl rfl ?_
      refine X_iload_n (pc := 39) (i := 2) 2 dX11_back_39 rfl rfl ?_
      obtain ⟨q6, c7, hf⟩ := bd_some hf
      refine X_invV_i (pc := 40) (c_H_repeat hT c7) ok_H_repeat (ci := 10) (sh_0 hT) k_934 k_936 k_24 nd_8 (by decide) rfl (Nat.le_of_ble_eq_true rfl) dX11_back_40 ?_
      refine X_pop (pc := 43) dX11_back_43 rfl ?_
      refine X_iinc (pc := 44) (i := 2) (q := 2) (v := (l2 + (1 : Int32))) [(2, .int (l2 + (1 : Int32))), (0, .ref (xP G 0)), (1, .int l1)] dX11_back_44 rfl rfl (by decide) rfl ?_
      refine X_goto (pc := 47) 33 dX11_back_47 (by decide) ?_
      exact X_lvs [1, 2, 0] rfl (ih hf)
theorem u_H_back_L33 {S : List xSh} {Rf : Nat → Nat → Option Nat} : ∀ (n : Nat) {l1 : Int32} {l2 : Int32} {I : Nat → Nat → Int32} {L : Nat → Nat → Int64} {q : (Int32 × (Nat → Nat → Int32) × (Nat → Nat → Int64))}, f_H_back_L33 S Rf n l1 l2 I L = some q → FR S [10, 14, 1108, 1109, 1110, 1111, 1112, 1113, 1114, 1903, 2303, 2503] [1107] I q.2.1 L q.2.2 := by
  intro n
  induction n with
  | zero =>
    intro l1 l2 I L q hf
    exact absurd (show none = some q from hf) (by simp)
  | succ n ih =>
    intro l1 l2 I L q hf
    replace hf := (f_H_back_L33.eq_2 _ _ _ _ _ _ _).symm.trans hf
    by_cases c5 : l1 ≤ l2
    · replace hf := (if_pos c5).symm.trans hf
      cases hf
      exact (FR.fi FR.rf (by decide))
    · replace hf := (if_neg c5).symm.trans hf
      obtain ⟨q6, c7, hf⟩ := bd_some hf
      exact FR.tr (FR.tr FR.rf (u_H_repeat (q := q6) c7) (by decide) (by decide)) (ih hf) (by decide) (by decide)
def f_H_back (S : List xSh) (Rf : Nat → Nat → Option Nat) (a0 : Int32) (I : Nat → Nat → Int32) (L : Nat → Nat → Int64) : Option (Int32 × (Nat → Nat → Int32) × (Nat → Nat → Int64)) := (if (f_H_isWithin a0 (0 : Int32) (I 15 3)) = (0 : Int32) then (some ((-1 : Int32), I, L)) else (if (I 0 8) = (0 : Int32) then (some ((-2 : Int32), I, L)) else ((f_H_restartMovement S Rf I L).bind fun q3 => (f_H_back_L33 S Rf xF a0 (0 : Int32) q3.1 q3.2))))
set_option maxRecDepth 100000 in
set_option maxHeartbeats 4000000 in
theorem c_H_back {G : xG} {S : List xSh} {Rf : Nat → Nat → Option Nat} (hT : xTH S Rf) {a0 : Int32} {I : Nat → Nat → Int32} {L : Nat → Nat → Int64} {q : (Int32 × (Nat → Nat → Int32) × (Nat → Nat → Int64))} (hf : f_H_back S Rf a0 I L = some q) : CT G 7 m_H_back [.ref (xP G 0), .int a0] (S, I, L, Rf) (some (.int q.1), (S, q.2.1, q.2.2, Rf)) := by
  refine CT.of (by decide +kernel) (Nat.le_of_ble_eq_true rfl) ?_
  show X G 7 m_H_back 0 [(0, .ref (xP G 0)), (1, .int a0)] [] (S, I, L, Rf) (some (.int q.1), (S, q.2.1, q.2.2, Rf))
  replace hf := (f_H_back.eq_1 _ _ _ _ _).symm.trans hf
  refine X_iload_n (pc := 0) (i := 1) 1 dX11_back_0 rfl rfl ?_
  refine X_iconst (pc := 1) (0 : Int32) dX11_back_1 (by decide) ?_
  refine X_aload_n (pc := 2) (i := 0) 0 dX11_back_2 rfl rfl ?_
  refine X_getr (pc := 3) (a := 0) (ci := 10) (j := 8) (c := 15) (sh_0 hT) (by decide) k_502 (rf_0_5 hT) (fun _ h => h) dX11_back_3 ?_
  refine X_get (pc := 6) (a := 15) (ci := 7) (j := 3) (.int (I 15 3)) (sh_15 hT) (by decide) k_162 rfl dX11_back_6 ?_
  refine X_invS_i (pc := 9) (c_H_isWithin hT rfl) ok_H_isWithin k_563 k_564 nd_6 (by decide) rfl (Nat.le_of_ble_eq_true rfl) dX11_back_9 ?_
  by_cases c1 : (f_H_isWithin a0 (0 : Int32) (I 15 3)) = (0 : Int32)
  · replace hf := (if_pos c1).symm.trans hf
    refine X_if_ne_f (pc := 12) 17 dX11_back_12 (by decide) c1 ?_
    refine X_iconst (pc := 15) (-1 : Int32) dX11_back_15 (by decide) ?_
    cases hf
    exact X_ireturn (pc := 16) rfl dX11_back_16
  · replace hf := (if_neg c1).symm.trans hf
    refine X_if_ne_t (pc := 12) 17 dX11_back_12 (by decide) c1 ?_
    refine X_aload_n (pc := 17) (i := 0) 0 dX11_back_17 rfl rfl ?_
    refine X_get (pc := 18) (a := 0) (ci := 10) (j := 11) (.int (I 0 8)) (sh_0 hT) (by decide) k_505 rfl dX11_back_18 ?_
    by_cases c2 : (I 0 8) = (0 : Int32)
    · replace hf := (if_pos c2).symm.trans hf
      refine X_if_ne_f (pc := 21) 27 dX11_back_21 (by decide) c2 ?_
      refine X_bipush (pc := 24) (-2 : Int32) dX11_back_24 (by decide) ?_
      cases hf
      exact X_ireturn (pc := 26) rfl dX11_back_26
    · replace hf := (if_neg c2).symm.trans hf
      refine X_if_ne_t (pc := 21) 27 dX11_back_21 (by decide) c2 ?_
      refine X_aload_n (pc := 27) (i := 0) 0 dX11_back_27 rfl rfl ?_
      obtain ⟨q3, c4, hf⟩ := bd_some hf
      refine X_invV_v (pc := 28) (c_H_restartMovement hT c4) ok_H_restartMovement (ci := 10) (sh_0 hT) k_928 k_930 k_23 nd_1 (by decide) rfl (Nat.le_of_ble_eq_true rfl) dX11_back_28 ?_
      refine X_iconst (pc := 31) (0 : Int32) dX11_back_31 (by decide) ?_
      refine X_istore_n (pc := 32) (i := 2) [(2, .int (0 : Int32)), (0, .ref (xP G 0)), (1, .int a0)] dX11_back_32 rfl (by decide) rfl ?_
      exact X_lvs [1, 2, 0] rfl (x_H_back_L33 hT xF hf)
theorem u_H_back {S : List xSh} {Rf : Nat → Nat → Option Nat} {a0 : Int32} {I : Nat → Nat → Int32} {L : Nat → Nat → Int64} {q : (Int32 × (Nat → Nat → Int32) × (Nat → Nat → Int64))} (hf : f_H_back S Rf a0 I L = some q) : FR S [10, 14, 1108, 1109, 1110, 1111, 1112, 1113, 1114, 1903, 2303, 2503] [1107] I q.2.1 L q.2.2 := by
  replace hf := (f_H_back.eq_1 _ _ _ _ _).symm.trans hf
  by_cases c1 : (f_H_isWithin a0 (0 : Int32) (I 15 3)) = (0 : Int32)
  · replace hf := (if_pos c1).symm.trans hf
    cases hf
    exact FR.rf
  · replace hf := (if_neg c1).symm.trans hf
    by_cases c2 : (I 0 8) = (0 : Int32)
    · replace hf := (if_pos c2).symm.trans hf
      cases hf
      exact FR.rf
    · replace hf := (if_neg c2).symm.trans hf
      obtain ⟨q3, c4, hf⟩ := bd_some hf
      exact FR.tr (FR.tr FR.rf (u_H_restartMovement (q := q3) c4) (by decide) (by decide)) (u_H_back_L33 xF hf) (by decide) (by decide)
theorem dX11_speed_0 : decode cX11_speed 0 = .ok (.aload_n 0, 1) := by decide +kernel
theorem dX11_speed_1 : decode cX11_speed 1 = .ok (.getfield 20, 3) := by decide +kernel
theorem dX11_speed_4 : decode cX11_speed 4 = .ok (.iload_n 1, 1) := by decide +kernel
theorem dX11_speed_5 : decode cX11_speed 5 = .ok (.invokevirtual 109, 3) := by decide +kernel
theorem dX11_speed_8 : decode cX11_speed 8 = .ok (.ifCond .ne 7, 3) := by decide +kernel
theorem dX11_speed_11 : decode cX11_speed 11 = .ok (.ldc2_w 223, 3) := by decide +kernel
theorem dX11_speed_14 : decode cX11_speed 14 = .ok (.lreturn, 1) := by decide +kernel
theorem dX11_speed_15 : decode cX11_speed 15 = .ok (.iload_n 2, 1) := by decide +kernel
theorem dX11_speed_16 : decode cX11_speed 16 = .ok (.tableswitch 65 0 2 #[28, 38, 48], 28) := by decide +kernel
theorem dX11_speed_44 : decode cX11_speed 44 = .ok (.aload_n 0, 1) := by decide +kernel
theorem dX11_speed_45 : decode cX11_speed 45 = .ok (.getfield 20, 3) := by decide +kernel
theorem dX11_speed_48 : decode cX11_speed 48 = .ok (.getfield 225, 3) := by decide +kernel
theorem dX11_speed_51 : decode cX11_speed 51 = .ok (.iload_n 1, 1) := by decide +kernel
theorem dX11_speed_52 : decode cX11_speed 52 = .ok (.laload, 1) := by decide +kernel
theorem dX11_speed_53 : decode cX11_speed 53 = .ok (.lreturn, 1) := by decide +kernel
theorem dX11_speed_54 : decode cX11_speed 54 = .ok (.aload_n 0, 1) := by decide +kernel
theorem dX11_speed_55 : decode cX11_speed 55 = .ok (.getfield 20, 3) := by decide +kernel
theorem dX11_speed_58 : decode cX11_speed 58 = .ok (.getfield 229, 3) := by decide +kernel
theorem dX11_speed_61 : decode cX11_speed 61 = .ok (.iload_n 1, 1) := by decide +kernel
theorem dX11_speed_62 : decode cX11_speed 62 = .ok (.laload, 1) := by decide +kernel
theorem dX11_speed_63 : decode cX11_speed 63 = .ok (.lreturn, 1) := by decide +kernel
theorem dX11_speed_64 : decode cX11_speed 64 = .ok (.aload_n 0, 1) := by decide +kernel
theorem dX11_speed_65 : decode cX11_speed 65 = .ok (.getfield 20, 3) := by decide +kernel
theorem dX11_speed_68 : decode cX11_speed 68 = .ok (.iload_n 1, 1) := by decide +kernel
theorem dX11_speed_69 : decode cX11_speed 69 = .ok (.aload_n 0, 1) := by decide +kernel
theorem dX11_speed_70 : decode cX11_speed 70 = .ok (.getfield 10, 3) := by decide +kernel
theorem dX11_speed_73 : decode cX11_speed 73 = .ok (.getfield 232, 3) := by decide +kernel
theorem dX11_speed_76 : decode cX11_speed 76 = .ok (.iconst 1, 1) := by decide +kernel
theorem dX11_speed_77 : decode cX11_speed 77 = .ok (.invokevirtual 235, 3) := by decide +kernel
theorem dX11_speed_80 : decode cX11_speed 80 = .ok (.lreturn, 1) := by decide +kernel
theorem dX11_speed_81 : decode cX11_speed 81 = .ok (.ldc2_w 223, 3) := by decide +kernel
theorem dX11_speed_84 : decode cX11_speed 84 = .ok (.lreturn, 1) := by decide +kernel
def f_H_speed (a0 : Int32) (a1 : Int32) (I : Nat → Nat → Int32) (L : Nat → Nat → Int64) : Option Int64 := (if (f_Ge_hasArbor a0 I L) = (0 : Int32) then (some (-9999999 : Int64)) else (if a1 = (0 : Int32) then (if (0 ≤ a0 ∧ a0 < (24 : Int32)) then (some (L 3 (a0.toNatClampNeg))) else none) else (if a1 = (1 : Int32) then (if (0 ≤ a0 ∧ a0 < (24 : Int32)) then (some (L 4 (a0.toNatClampNeg))) else none) else (if a1 = (2 : Int32) then ((f_Ge_turned a0 (I 1 12) (1 : Int32) I L).bind fun q7 => (some q7)) else (some (-9999999 : Int64))))))
set_option maxRecDepth 100000 in
set_option maxHeartbeats 4000000 in
theorem c_H_speed {G : xG} {S : List xSh} {Rf : Nat → Nat → Option Nat} (hT : xTH S Rf) {a0 : Int32} {a1 : Int32} {I : Nat → Nat → Int32} {L : Nat → Nat → Int64} {q : Int64} (hf : f_H_speed a0 a1 I L = some q) : CT G 2 m_H_speed [.ref (xP G 0), .int a0, .int a1] (S, I, L, Rf) (some (.long q), (S, I, L, Rf)) := by
  refine CT.of (by decide +kernel) (Nat.le_of_ble_eq_true rfl) ?_
  show X G 2 m_H_speed 0 [(0, .ref (xP G 0)), (1, .int a0), (2, .int a1)] [] (S, I, L, Rf) (some (.long q), (S, I, L, Rf))
  replace hf := (f_H_speed.eq_1 _ _ _ _).symm.trans hf
  refine X_aload_n (pc := 0) (i := 0) 0 dX11_speed_0 rfl rfl ?_
  refine X_getr (pc := 1) (a := 0) (ci := 10) (j := 1) (c := 2) (sh_0 hT) (by decide) k_495 (rf_0_1 hT) (fun _ h => h) dX11_speed_1 ?_
  refine X_iload_n (pc := 4) (i := 1) 1 dX11_speed_4 rfl rfl ?_
  refine X_invV_i (pc := 5) (c_Ge_hasArbor hT rfl) ok_Ge_hasArbor (ci := 6) (sh_2 hT) k_559 k_560 k_561 nd_5 (by decide) rfl (Nat.le_of_ble_eq_true rfl) dX11_speed_5 ?_
  by_cases c1 : (f_Ge_hasArbor a0 I L) = (0 : Int32)
  · replace hf := (if_pos c1).symm.trans hf
    refine X_if_ne_f (pc := 8) 15 dX11_speed_8 (by decide) c1 ?_
    refine X_ldc2 (pc := 11) (-9999999 : Int64) k_954 dX11_speed_11 ?_
    cases hf
    exact X_lreturn (pc := 14) rfl dX11_speed_14
  · replace hf := (if_neg c1).symm.trans hf
    refine X_if_ne_t (pc := 8) 15 dX11_speed_8 (by decide) c1 ?_
    refine X_iload_n (pc := 15) (i := 2) 2 dX11_speed_15 rfl rfl ?_
    by_cases c2 : a1 = (0 : Int32)
    · replace hf := (if_pos c2).symm.trans hf
      refine X_tabIn (pc := 16) (off := 28) (0) 44 dX11_speed_16 (by rw [c2]; rfl) (by decide) ?_
      refine X_aload_n (pc := 44) (i := 0) 0 dX11_speed_44 rfl rfl ?_
      refine X_getr (pc := 45) (a := 0) (ci := 10) (j := 1) (c := 2) (sh_0 hT) (by decide) k_495 (rf_0_1 hT) (fun _ h => h) dX11_speed_45 ?_
      refine X_getr (pc := 48) (a := 2) (ci := 6) (j := 5) (c := 3) (sh_2 hT) (by decide) k_117 (rf_2_5 hT) (fun _ h => h) dX11_speed_48 ?_
      refine X_iload_n (pc := 51) (i := 1) 1 dX11_speed_51 rfl rfl ?_
      obtain ⟨c5, hf⟩ := gd_some hf
      refine X_laldj (pc := 52) (j := a0.toNatClampNeg) (L 3 (a0.toNatClampNeg)) (sh_3 hT) (vp_in_lit (N := 24) c5 (by decide)) rfl rfl dX11_speed_52 ?_
      cases hf
      exact X_lreturn (pc := 53) rfl dX11_speed_53
    · replace hf := (if_neg c2).symm.trans hf
      by_cases c3 : a1 = (1 : Int32)
      · replace hf := (if_pos c3).symm.trans hf
        refine X_tabIn (pc := 16) (off := 38) (1) 54 dX11_speed_16 (by rw [c3]; rfl) (by decide) ?_
        refine X_aload_n (pc := 54) (i := 0) 0 dX11_speed_54 rfl rfl ?_
        refine X_getr (pc := 55) (a := 0) (ci := 10) (j := 1) (c := 2) (sh_0 hT) (by decide) k_495 (rf_0_1 hT) (fun _ h => h) dX11_speed_55 ?_
        refine X_getr (pc := 58) (a := 2) (ci := 6) (j := 6) (c := 4) (sh_2 hT) (by decide) k_119 (rf_2_6 hT) (fun _ h => h) dX11_speed_58 ?_
        refine X_iload_n (pc := 61) (i := 1) 1 dX11_speed_61 rfl rfl ?_
        obtain ⟨c6, hf⟩ := gd_some hf
        refine X_laldj (pc := 62) (j := a0.toNatClampNeg) (L 4 (a0.toNatClampNeg)) (sh_4 hT) (vp_in_lit (N := 24) c6 (by decide)) rfl rfl dX11_speed_62 ?_
        cases hf
        exact X_lreturn (pc := 63) rfl dX11_speed_63
      · replace hf := (if_neg c3).symm.trans hf
        by_cases c4 : a1 = (2 : Int32)
        · replace hf := (if_pos c4).symm.trans hf
          refine X_tabIn (pc := 16) (off := 48) (2) 64 dX11_speed_16 (by rw [c4]; rfl) (by decide) ?_
          refine X_aload_n (pc := 64) (i := 0) 0 dX11_speed_64 rfl rfl ?_
          refine X_getr (pc := 65) (a := 0) (ci := 10) (j := 1) (c := 2) (sh_0 hT) (by decide) k_495 (rf_0_1 hT) (fun _ h => h) dX11_speed_65 ?_
          refine X_iload_n (pc := 68) (i := 1) 1 dX11_speed_68 rfl rfl ?_
          refine X_aload_n (pc := 69) (i := 0) 0 dX11_speed_69 rfl rfl ?_
          refine X_getr (pc := 70) (a := 0) (ci := 10) (j := 0) (c := 1) (sh_0 hT) (by decide) k_494 (rf_0_0 hT) (fun _ h => h) dX11_speed_70 ?_
          refine X_get (pc := 73) (a := 1) (ci := 5) (j := 12) (.int (I 1 12)) (sh_1 hT) (by decide) k_193 rfl dX11_speed_73 ?_
          refine X_iconst (pc := 76) (1 : Int32) dX11_speed_76 (by decide) ?_
          obtain ⟨q7, c8, hf⟩ := bd_some hf
          refine X_invV_l (pc := 77) (c_Ge_turned hT c8) ok_Ge_turned (ci := 6) (sh_2 hT) k_791 k_772 k_773 nd_19 (by decide) rfl (Nat.le_of_ble_eq_true rfl) dX11_speed_77 ?_
          cases hf
          exact X_lreturn (pc := 80) rfl dX11_speed_80
        · replace hf := (if_neg c4).symm.trans hf
          refine X_tabOut (pc := 16) 81 dX11_speed_16 (by have zc2 := lv_neT (a := 0) c2 rfl; have zc3 := lv_neT (a := 1) c3 rfl; have zc4 := lv_neT (a := 2) c4 rfl; omega) (by decide) ?_
          refine X_ldc2 (pc := 81) (-9999999 : Int64) k_954 dX11_speed_81 ?_
          cases hf
          exact X_lreturn (pc := 84) rfl dX11_speed_84
theorem dX11_state_0 : decode cX11_state 0 = .ok (.iload_n 1, 1) := by decide +kernel
theorem dX11_state_1 : decode cX11_state 1 = .ok (.tableswitch 151 0 9 #[55, 64, 73, 82, 91, 100, 109, 117, 126, 135], 55) := by decide +kernel
theorem dX11_state_56 : decode cX11_state 56 = .ok (.aload_n 0, 1) := by decide +kernel
theorem dX11_state_57 : decode cX11_state 57 = .ok (.getfield 10, 3) := by decide +kernel
theorem dX11_state_60 : decode cX11_state 60 = .ok (.getfield 232, 3) := by decide +kernel
theorem dX11_state_63 : decode cX11_state 63 = .ok (.i2l, 1) := by decide +kernel
theorem dX11_state_64 : decode cX11_state 64 = .ok (.lreturn, 1) := by decide +kernel
theorem dX11_state_65 : decode cX11_state 65 = .ok (.aload_n 0, 1) := by decide +kernel
theorem dX11_state_66 : decode cX11_state 66 = .ok (.getfield 10, 3) := by decide +kernel
theorem dX11_state_69 : decode cX11_state 69 = .ok (.getfield 167, 3) := by decide +kernel
theorem dX11_state_72 : decode cX11_state 72 = .ok (.i2l, 1) := by decide +kernel
theorem dX11_state_73 : decode cX11_state 73 = .ok (.lreturn, 1) := by decide +kernel
theorem dX11_state_74 : decode cX11_state 74 = .ok (.aload_n 0, 1) := by decide +kernel
theorem dX11_state_75 : decode cX11_state 75 = .ok (.getfield 10, 3) := by decide +kernel
theorem dX11_state_78 : decode cX11_state 78 = .ok (.getfield 239, 3) := by decide +kernel
theorem dX11_state_81 : decode cX11_state 81 = .ok (.i2l, 1) := by decide +kernel
theorem dX11_state_82 : decode cX11_state 82 = .ok (.lreturn, 1) := by decide +kernel
theorem dX11_state_83 : decode cX11_state 83 = .ok (.aload_n 0, 1) := by decide +kernel
theorem dX11_state_84 : decode cX11_state 84 = .ok (.getfield 10, 3) := by decide +kernel
theorem dX11_state_87 : decode cX11_state 87 = .ok (.getfield 242, 3) := by decide +kernel
theorem dX11_state_90 : decode cX11_state 90 = .ok (.i2l, 1) := by decide +kernel
theorem dX11_state_91 : decode cX11_state 91 = .ok (.lreturn, 1) := by decide +kernel
theorem dX11_state_92 : decode cX11_state 92 = .ok (.aload_n 0, 1) := by decide +kernel
theorem dX11_state_93 : decode cX11_state 93 = .ok (.getfield 10, 3) := by decide +kernel
theorem dX11_state_96 : decode cX11_state 96 = .ok (.getfield 245, 3) := by decide +kernel
theorem dX11_state_99 : decode cX11_state 99 = .ok (.i2l, 1) := by decide +kernel
theorem dX11_state_100 : decode cX11_state 100 = .ok (.lreturn, 1) := by decide +kernel
theorem dX11_state_101 : decode cX11_state 101 = .ok (.aload_n 0, 1) := by decide +kernel
theorem dX11_state_102 : decode cX11_state 102 = .ok (.getfield 10, 3) := by decide +kernel
theorem dX11_state_105 : decode cX11_state 105 = .ok (.invokevirtual 248, 3) := by decide +kernel
theorem dX11_state_108 : decode cX11_state 108 = .ok (.i2l, 1) := by decide +kernel
theorem dX11_state_109 : decode cX11_state 109 = .ok (.lreturn, 1) := by decide +kernel
theorem dX11_state_110 : decode cX11_state 110 = .ok (.aload_n 0, 1) := by decide +kernel
theorem dX11_state_111 : decode cX11_state 111 = .ok (.getfield 10, 3) := by decide +kernel
theorem dX11_state_114 : decode cX11_state 114 = .ok (.invokevirtual 251, 3) := by decide +kernel
theorem dX11_state_117 : decode cX11_state 117 = .ok (.lreturn, 1) := by decide +kernel
theorem dX11_state_118 : decode cX11_state 118 = .ok (.aload_n 0, 1) := by decide +kernel
theorem dX11_state_119 : decode cX11_state 119 = .ok (.getfield 10, 3) := by decide +kernel
theorem dX11_state_122 : decode cX11_state 122 = .ok (.getfield 255, 3) := by decide +kernel
theorem dX11_state_125 : decode cX11_state 125 = .ok (.i2l, 1) := by decide +kernel
theorem dX11_state_126 : decode cX11_state 126 = .ok (.lreturn, 1) := by decide +kernel
theorem dX11_state_127 : decode cX11_state 127 = .ok (.aload_n 0, 1) := by decide +kernel
theorem dX11_state_128 : decode cX11_state 128 = .ok (.getfield 10, 3) := by decide +kernel
theorem dX11_state_131 : decode cX11_state 131 = .ok (.getfield 258, 3) := by decide +kernel
theorem dX11_state_134 : decode cX11_state 134 = .ok (.i2l, 1) := by decide +kernel
theorem dX11_state_135 : decode cX11_state 135 = .ok (.lreturn, 1) := by decide +kernel
theorem dX11_state_136 : decode cX11_state 136 = .ok (.aload_n 0, 1) := by decide +kernel
theorem dX11_state_137 : decode cX11_state 137 = .ok (.getfield 20, 3) := by decide +kernel
theorem dX11_state_140 : decode cX11_state 140 = .ok (.getfield 161, 3) := by decide +kernel
theorem dX11_state_143 : decode cX11_state 143 = .ok (.ifCond .eq 7, 3) := by decide +kernel
theorem dX11_state_146 : decode cX11_state 146 = .ok (.lconst 1, 1) := by decide +kernel
theorem dX11_state_147 : decode cX11_state 147 = .ok (.goto 4, 3) := by decide +kernel
theorem dX11_state_150 : decode cX11_state 150 = .ok (.lconst 0, 1) := by decide +kernel
theorem dX11_state_151 : decode cX11_state 151 = .ok (.lreturn, 1) := by decide +kernel
theorem dX11_state_152 : decode cX11_state 152 = .ok (.ldc2_w 223, 3) := by decide +kernel
theorem dX11_state_155 : decode cX11_state 155 = .ok (.lreturn, 1) := by decide +kernel
def f_H_state (a0 : Int32) (I : Nat → Nat → Int32) (L : Nat → Nat → Int64) : Option Int64 := (if a0 = (0 : Int32) then (some (Int32.toInt64 (I 1 12))) else (if a0 = (1 : Int32) then (some (Int32.toInt64 (I 1 11))) else (if a0 = (2 : Int32) then (some (Int32.toInt64 (I 1 8))) else (if a0 = (3 : Int32) then (some (Int32.toInt64 (I 1 9))) else (if a0 = (4 : Int32) then (some (Int32.toInt64 (I 1 10))) else (if a0 = (5 : Int32) then ((f_Es_torqueNow I L).bind fun q11 => (some (Int32.toInt64 q11))) else (if a0 = (6 : Int32) then ((f_Es_letDown I L).bind fun q13 => (some q13)) else (if a0 = (7 : Int32) then (some (Int32.toInt64 (I 1 13))) else (if a0 = (8 : Int32) then (some (Int32.toInt64 (I 1 14))) else (if a0 = (9 : Int32) then (if (I 2 4) = (0 : Int32) then (some (0 : Int64)) else (some (1 : Int64))) else (some (-9999999 : Int64))))))))))))
set_option maxRecDepth 100000 in
set_option maxHeartbeats 4000000 in
theorem c_H_state {G : xG} {S : List xSh} {Rf : Nat → Nat → Option Nat} (hT : xTH S Rf) {a0 : Int32} {I : Nat → Nat → Int32} {L : Nat → Nat → Int64} {q : Int64} (hf : f_H_state a0 I L = some q) : CT G 4 m_H_state [.ref (xP G 0), .int a0] (S, I, L, Rf) (some (.long q), (S, I, L, Rf)) := by
  refine CT.of (by decide +kernel) (Nat.le_of_ble_eq_true rfl) ?_
  show X G 4 m_H_state 0 [(0, .ref (xP G 0)), (1, .int a0)] [] (S, I, L, Rf) (some (.long q), (S, I, L, Rf))
  replace hf := (f_H_state.eq_1 _ _ _).symm.trans hf
  refine X_iload_n (pc := 0) (i := 1) 1 dX11_state_0 rfl rfl ?_
  by_cases c1 : a0 = (0 : Int32)
  · replace hf := (if_pos c1).symm.trans hf
    refine X_tabIn (pc := 1) (off := 55) (0) 56 dX11_state_1 (by rw [c1]; rfl) (by decide) ?_
    refine X_aload_n (pc := 56) (i := 0) 0 dX11_state_56 rfl rfl ?_
    refine X_getr (pc := 57) (a := 0) (ci := 10) (j := 0) (c := 1) (sh_0 hT) (by decide) k_494 (rf_0_0 hT) (fun _ h => h) dX11_state_57 ?_
    refine X_get (pc := 60) (a := 1) (ci := 5) (j := 12) (.int (I 1 12)) (sh_1 hT) (by decide) k_193 rfl dX11_state_60 ?_
    refine X_i2l (pc := 63) dX11_state_63 ?_
    cases hf
    exact X_lreturn (pc := 64) rfl dX11_state_64
  · replace hf := (if_neg c1).symm.trans hf
    by_cases c2 : a0 = (1 : Int32)
    · replace hf := (if_pos c2).symm.trans hf
      refine X_tabIn (pc := 1) (off := 64) (1) 65 dX11_state_1 (by rw [c2]; rfl) (by decide) ?_
      refine X_aload_n (pc := 65) (i := 0) 0 dX11_state_65 rfl rfl ?_
      refine X_getr (pc := 66) (a := 0) (ci := 10) (j := 0) (c := 1) (sh_0 hT) (by decide) k_494 (rf_0_0 hT) (fun _ h => h) dX11_state_66 ?_
      refine X_get (pc := 69) (a := 1) (ci := 5) (j := 11) (.int (I 1 11)) (sh_1 hT) (by decide) k_191 rfl dX11_state_69 ?_
      refine X_i2l (pc := 72) dX11_state_72 ?_
      cases hf
      exact X_lreturn (pc := 73) rfl dX11_state_73
    · replace hf := (if_neg c2).symm.trans hf
      by_cases c3 : a0 = (2 : Int32)
      · replace hf := (if_pos c3).symm.trans hf
        refine X_tabIn (pc := 1) (off := 73) (2) 74 dX11_state_1 (by rw [c3]; rfl) (by decide) ?_
        refine X_aload_n (pc := 74) (i := 0) 0 dX11_state_74 rfl rfl ?_
        refine X_getr (pc := 75) (a := 0) (ci := 10) (j := 0) (c := 1) (sh_0 hT) (by decide) k_494 (rf_0_0 hT) (fun _ h => h) dX11_state_75 ?_
        refine X_get (pc := 78) (a := 1) (ci := 5) (j := 8) (.int (I 1 8)) (sh_1 hT) (by decide) k_185 rfl dX11_state_78 ?_
        refine X_i2l (pc := 81) dX11_state_81 ?_
        cases hf
        exact X_lreturn (pc := 82) rfl dX11_state_82
      · replace hf := (if_neg c3).symm.trans hf
        by_cases c4 : a0 = (3 : Int32)
        · replace hf := (if_pos c4).symm.trans hf
          refine X_tabIn (pc := 1) (off := 82) (3) 83 dX11_state_1 (by rw [c4]; rfl) (by decide) ?_
          refine X_aload_n (pc := 83) (i := 0) 0 dX11_state_83 rfl rfl ?_
          refine X_getr (pc := 84) (a := 0) (ci := 10) (j := 0) (c := 1) (sh_0 hT) (by decide) k_494 (rf_0_0 hT) (fun _ h => h) dX11_state_84 ?_
          refine X_get (pc := 87) (a := 1) (ci := 5) (j := 9) (.int (I 1 9)) (sh_1 hT) (by decide) k_187 rfl dX11_state_87 ?_
          refine X_i2l (pc := 90) dX11_state_90 ?_
          cases hf
          exact X_lreturn (pc := 91) rfl dX11_state_91
        · replace hf := (if_neg c4).symm.trans hf
          by_cases c5 : a0 = (4 : Int32)
          · replace hf := (if_pos c5).symm.trans hf
            refine X_tabIn (pc := 1) (off := 91) (4) 92 dX11_state_1 (by rw [c5]; rfl) (by decide) ?_
            refine X_aload_n (pc := 92) (i := 0) 0 dX11_state_92 rfl rfl ?_
            refine X_getr (pc := 93) (a := 0) (ci := 10) (j := 0) (c := 1) (sh_0 hT) (by decide) k_494 (rf_0_0 hT) (fun _ h => h) dX11_state_93 ?_
            refine X_get (pc := 96) (a := 1) (ci := 5) (j := 10) (.int (I 1 10)) (sh_1 hT) (by decide) k_189 rfl dX11_state_96 ?_
            refine X_i2l (pc := 99) dX11_state_99 ?_
            cases hf
            exact X_lreturn (pc := 100) rfl dX11_state_100
          · replace hf := (if_neg c5).symm.trans hf
            by_cases c6 : a0 = (5 : Int32)
            · replace hf := (if_pos c6).symm.trans hf
              refine X_tabIn (pc := 1) (off := 100) (5) 101 dX11_state_1 (by rw [c6]; rfl) (by decide) ?_
              refine X_aload_n (pc := 101) (i := 0) 0 dX11_state_101 rfl rfl ?_
              refine X_getr (pc := 102) (a := 0) (ci := 10) (j := 0) (c := 1) (sh_0 hT) (by decide) k_494 (rf_0_0 hT) (fun _ h => h) dX11_state_102 ?_
              obtain ⟨q11, c12, hf⟩ := bd_some hf
              refine X_invV_i (pc := 105) (c_Es_torqueNow hT c12) ok_Es_torqueNow (ci := 5) (sh_1 hT) k_959 k_764 k_765 nd_4 (by decide) rfl (Nat.le_of_ble_eq_true rfl) dX11_state_105 ?_
              refine X_i2l (pc := 108) dX11_state_108 ?_
              cases hf
              exact X_lreturn (pc := 109) rfl dX11_state_109
            · replace hf := (if_neg c6).symm.trans hf
              by_cases c7 : a0 = (6 : Int32)
              · replace hf := (if_pos c7).symm.trans hf
                refine X_tabIn (pc := 1) (off := 109) (6) 110 dX11_state_1 (by rw [c7]; rfl) (by decide) ?_
                refine X_aload_n (pc := 110) (i := 0) 0 dX11_state_110 rfl rfl ?_
                refine X_getr (pc := 111) (a := 0) (ci := 10) (j := 0) (c := 1) (sh_0 hT) (by decide) k_494 (rf_0_0 hT) (fun _ h => h) dX11_state_111 ?_
                obtain ⟨q13, c14, hf⟩ := bd_some hf
                refine X_invV_l (pc := 114) (c_Es_letDown hT c14) ok_Es_letDown (ci := 5) (sh_1 hT) k_960 k_768 k_769 nd_20 (by decide) rfl (Nat.le_of_ble_eq_true rfl) dX11_state_114 ?_
                cases hf
                exact X_lreturn (pc := 117) rfl dX11_state_117
              · replace hf := (if_neg c7).symm.trans hf
                by_cases c8 : a0 = (7 : Int32)
                · replace hf := (if_pos c8).symm.trans hf
                  refine X_tabIn (pc := 1) (off := 117) (7) 118 dX11_state_1 (by rw [c8]; rfl) (by decide) ?_
                  refine X_aload_n (pc := 118) (i := 0) 0 dX11_state_118 rfl rfl ?_
                  refine X_getr (pc := 119) (a := 0) (ci := 10) (j := 0) (c := 1) (sh_0 hT) (by decide) k_494 (rf_0_0 hT) (fun _ h => h) dX11_state_119 ?_
                  refine X_get (pc := 122) (a := 1) (ci := 5) (j := 13) (.int (I 1 13)) (sh_1 hT) (by decide) k_195 rfl dX11_state_122 ?_
                  refine X_i2l (pc := 125) dX11_state_125 ?_
                  cases hf
                  exact X_lreturn (pc := 126) rfl dX11_state_126
                · replace hf := (if_neg c8).symm.trans hf
                  by_cases c9 : a0 = (8 : Int32)
                  · replace hf := (if_pos c9).symm.trans hf
                    refine X_tabIn (pc := 1) (off := 126) (8) 127 dX11_state_1 (by rw [c9]; rfl) (by decide) ?_
                    refine X_aload_n (pc := 127) (i := 0) 0 dX11_state_127 rfl rfl ?_
                    refine X_getr (pc := 128) (a := 0) (ci := 10) (j := 0) (c := 1) (sh_0 hT) (by decide) k_494 (rf_0_0 hT) (fun _ h => h) dX11_state_128 ?_
                    refine X_get (pc := 131) (a := 1) (ci := 5) (j := 14) (.int (I 1 14)) (sh_1 hT) (by decide) k_197 rfl dX11_state_131 ?_
                    refine X_i2l (pc := 134) dX11_state_134 ?_
                    cases hf
                    exact X_lreturn (pc := 135) rfl dX11_state_135
                  · replace hf := (if_neg c9).symm.trans hf
                    by_cases c10 : a0 = (9 : Int32)
                    · replace hf := (if_pos c10).symm.trans hf
                      refine X_tabIn (pc := 1) (off := 135) (9) 136 dX11_state_1 (by rw [c10]; rfl) (by decide) ?_
                      refine X_aload_n (pc := 136) (i := 0) 0 dX11_state_136 rfl rfl ?_
                      refine X_getr (pc := 137) (a := 0) (ci := 10) (j := 1) (c := 2) (sh_0 hT) (by decide) k_495 (rf_0_1 hT) (fun _ h => h) dX11_state_137 ?_
                      refine X_get (pc := 140) (a := 2) (ci := 6) (j := 4) (.int (I 2 4)) (sh_2 hT) (by decide) k_115 rfl dX11_state_140 ?_
                      by_cases c15 : (I 2 4) = (0 : Int32)
                      · replace hf := (if_pos c15).symm.trans hf
                        refine X_if_eq_t (pc := 143) 150 dX11_state_143 (by decide) c15 ?_
                        refine X_lconst (pc := 150) (0 : Int64) dX11_state_150 (by decide) ?_
                        cases hf
                        exact X_lreturn (pc := 151) rfl dX11_state_151
                      · replace hf := (if_neg c15).symm.trans hf
                        refine X_if_eq_f (pc := 143) 150 dX11_state_143 (by decide) c15 ?_
                        refine X_lconst (pc := 146) (1 : Int64) dX11_state_146 (by decide) ?_
                        refine X_goto (pc := 147) 151 dX11_state_147 (by decide) ?_
                        cases hf
                        exact X_lreturn (pc := 151) rfl dX11_state_151
                    · replace hf := (if_neg c10).symm.trans hf
                      refine X_tabOut (pc := 1) 152 dX11_state_1 (by have zc1 := lv_neT (a := 0) c1 rfl; have zc2 := lv_neT (a := 1) c2 rfl; have zc3 := lv_neT (a := 2) c3 rfl; have zc4 := lv_neT (a := 3) c4 rfl; have zc5 := lv_neT (a := 4) c5 rfl; have zc6 := lv_neT (a := 5) c6 rfl; have zc7 := lv_neT (a := 6) c7 rfl; have zc8 := lv_neT (a := 7) c8 rfl; have zc9 := lv_neT (a := 8) c9 rfl; have zc10 := lv_neT (a := 9) c10 rfl; omega) (by decide) ?_
                      refine X_ldc2 (pc := 152) (-9999999 : Int64) k_954 dX11_state_152 ?_
                      cases hf
                      exact X_lreturn (pc := 155) rfl dX11_state_155
def f_Ro_has_9 (a0 : Int32) (a1 : Int32) (I : Nat → Nat → Int32) (L : Nat → Nat → Int64) : Int32 := (if a0 < (0 : Int32) then (0 : Int32) else (if (I 9 1) ≤ a0 then (0 : Int32) else (if (I 9 3) ≤ a0 then (0 : Int32) else (if a1 < (0 : Int32) then (0 : Int32) else (if (I 9 0) ≤ a1 then (0 : Int32) else (1 : Int32))))))
set_option maxRecDepth 100000 in
set_option maxHeartbeats 4000000 in
theorem c_Ro_has_9 {G : xG} {S : List xSh} {Rf : Nat → Nat → Option Nat} (hT : xTH S Rf) {a0 : Int32} {a1 : Int32} {I : Nat → Nat → Int32} {L : Nat → Nat → Int64} {q : Int32} (hf : f_Ro_has_9 a0 a1 I L = q) : CT G 1 m_Ro_has [.ref (xP G 9), .int a0, .int a1] (S, I, L, Rf) (some (.int q), (S, I, L, Rf)) := by
  refine CT.of (by decide +kernel) (Nat.le_of_ble_eq_true rfl) ?_
  show X G 1 m_Ro_has 0 [(0, .ref (xP G 9)), (1, .int a0), (2, .int a1)] [] (S, I, L, Rf) (some (.int q), (S, I, L, Rf))
  replace hf := (f_Ro_has_9.eq_1 _ _ _ _).symm.trans hf
  refine X_iload_n (pc := 0) (i := 1) 1 dX7_has_0 rfl rfl ?_
  by_cases c1 : a0 < (0 : Int32)
  · replace hf := (if_pos c1).symm.trans hf
    refine X_if_lt_t (pc := 1) 36 dX7_has_1 (by decide) c1 ?_
    refine X_iconst (pc := 36) (0 : Int32) dX7_has_36 (by decide) ?_
    subst hf
    exact X_zreturn (pc := 37) rfl (nar_b (by decide)) dX7_has_37
  · replace hf := (if_neg c1).symm.trans hf
    refine X_if_lt_f (pc := 1) 36 dX7_has_1 (by decide) c1 ?_
    refine X_iload_n (pc := 4) (i := 1) 1 dX7_has_4 rfl rfl ?_
    refine X_aload_n (pc := 5) (i := 0) 0 dX7_has_5 rfl rfl ?_
    refine X_get (pc := 6) (a := 9) (ci := 7) (j := 1) (.int (I 9 1)) (sh_9 hT) (by decide) k_159 rfl dX7_has_6 ?_
    by_cases c2 : (I 9 1) ≤ a0
    · replace hf := (if_pos c2).symm.trans hf
      refine X_icmp_ge_t (pc := 9) 36 dX7_has_9 (by decide) c2 ?_
      refine X_iconst (pc := 36) (0 : Int32) dX7_has_36 (by decide) ?_
      subst hf
      exact X_zreturn (pc := 37) rfl (nar_b (by decide)) dX7_has_37
    · replace hf := (if_neg c2).symm.trans hf
      refine X_icmp_ge_f (pc := 9) 36 dX7_has_9 (by decide) c2 ?_
      refine X_iload_n (pc := 12) (i := 1) 1 dX7_has_12 rfl rfl ?_
      refine X_aload_n (pc := 13) (i := 0) 0 dX7_has_13 rfl rfl ?_
      refine X_get (pc := 14) (a := 9) (ci := 7) (j := 3) (.int (I 9 3)) (sh_9 hT) (by decide) k_161 rfl dX7_has_14 ?_
      by_cases c3 : (I 9 3) ≤ a0
      · replace hf := (if_pos c3).symm.trans hf
        refine X_icmp_ge_t (pc := 17) 36 dX7_has_17 (by decide) c3 ?_
        refine X_iconst (pc := 36) (0 : Int32) dX7_has_36 (by decide) ?_
        subst hf
        exact X_zreturn (pc := 37) rfl (nar_b (by decide)) dX7_has_37
      · replace hf := (if_neg c3).symm.trans hf
        refine X_icmp_ge_f (pc := 17) 36 dX7_has_17 (by decide) c3 ?_
        refine X_iload_n (pc := 20) (i := 2) 2 dX7_has_20 rfl rfl ?_
        by_cases c4 : a1 < (0 : Int32)
        · replace hf := (if_pos c4).symm.trans hf
          refine X_if_lt_t (pc := 21) 36 dX7_has_21 (by decide) c4 ?_
          refine X_iconst (pc := 36) (0 : Int32) dX7_has_36 (by decide) ?_
          subst hf
          exact X_zreturn (pc := 37) rfl (nar_b (by decide)) dX7_has_37
        · replace hf := (if_neg c4).symm.trans hf
          refine X_if_lt_f (pc := 21) 36 dX7_has_21 (by decide) c4 ?_
          refine X_iload_n (pc := 24) (i := 2) 2 dX7_has_24 rfl rfl ?_
          refine X_aload_n (pc := 25) (i := 0) 0 dX7_has_25 rfl rfl ?_
          refine X_get (pc := 26) (a := 9) (ci := 7) (j := 0) (.int (I 9 0)) (sh_9 hT) (by decide) k_158 rfl dX7_has_26 ?_
          by_cases c5 : (I 9 0) ≤ a1
          · replace hf := (if_pos c5).symm.trans hf
            refine X_icmp_ge_t (pc := 29) 36 dX7_has_29 (by decide) c5 ?_
            refine X_iconst (pc := 36) (0 : Int32) dX7_has_36 (by decide) ?_
            subst hf
            exact X_zreturn (pc := 37) rfl (nar_b (by decide)) dX7_has_37
          · replace hf := (if_neg c5).symm.trans hf
            refine X_icmp_ge_f (pc := 29) 36 dX7_has_29 (by decide) c5 ?_
            refine X_iconst (pc := 32) (1 : Int32) dX7_has_32 (by decide) ?_
            refine X_goto (pc := 33) 37 dX7_has_33 (by decide) ?_
            subst hf
            exact X_zreturn (pc := 37) rfl (nar_b (by decide)) dX7_has_37
